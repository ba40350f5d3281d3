/-! ===== the reference's reader over the same row of signs: tests ===== -/
theorem wl_bift {α : Type} {Q : α → Prop} {b : Bool} {x : Option α} (h : b = true → wl x Q) : wl (bif b then x else none) Q := by
  cases b with
  | true => exact h rfl
  | false => exact wl_none
theorem inb_to {i : Int32} {n : Nat} (h : inb i n = true) : 0 ≤ i.toInt ∧ i.toInt < (n : Int) := by
  unfold inb at h
  have e : (0 : Int32).toInt = 0 := by decide
  by_cases z : i < 0
  · rw [decide_eq_true z, cond_true] at h
    cases h
  · rw [decide_eq_false z, cond_false] at h
    have h2 : i.toNatClampNeg < n := Nat.le_of_ble_eq_true h
    have e1 : i.toNatClampNeg = i.toInt.toNat := rfl
    have e2 : ¬ i.toInt < (0 : Int32).toInt := fun y => z (Int32.lt_iff_toInt_lt.mpr y)
    omega
/-- what is open, as rows of signs and as a list -/
def StK (f : Nat → Int32) : Nat → List Bool → Prop
  | 0, l => l = []
  | n + 1, l => (f n = 11 ∧ ∃ l', l = false :: l' ∧ StK f n l') ∨ (f n = 91 ∧ ∃ l', l = true :: l' ∧ StK f n l') ∨ ((f n = 12 ∨ f n = 13) ∧ dn l = l ∧ StK f n l)
theorem StK_congr {f g : Nat → Int32} : ∀ (n : Nat) (l : List Bool), (∀ i, i < n → g i = f i) → StK f n l → StK g n l := by
  intro n
  induction n with
  | zero => intro l _ h; exact h
  | succ n ih =>
    intro l e h
    unfold StK at h ⊢
    rw [e n (by omega)]
    rcases h with ⟨a, l', b, c⟩ | ⟨a, l', b, c⟩ | ⟨a, b, c⟩
    · exact Or.inl ⟨a, l', b, ih l' (fun i hi => e i (by omega)) c⟩
    · exact Or.inr (Or.inl ⟨a, l', b, ih l' (fun i hi => e i (by omega)) c⟩)
    · exact Or.inr (Or.inr ⟨a, b, ih l (fun i hi => e i (by omega)) c⟩)
theorem StK_in {f : Nat → Int32} : ∀ (n : Nat) (l : List Bool), StK f n l → ((∃ i, i < n ∧ f i = 91) ↔ true ∈ l) := by
  intro n
  induction n with
  | zero =>
    intro l h
    have e : l = [] := h
    rw [e]
    exact ⟨fun ⟨i, hi, _⟩ => absurd hi (Nat.not_lt_zero _), fun z => by cases z⟩
  | succ n ih =>
    intro l h
    have up : (∃ i, i < n ∧ f i = 91) → ∃ i, i < n + 1 ∧ f i = 91 := fun ⟨i, hi, e⟩ => ⟨i, by omega, e⟩
    unfold StK at h
    rcases h with ⟨a, l', rfl, c⟩ | ⟨a, l', rfl, c⟩ | ⟨a, b, c⟩
    · have k := ih l' c
      constructor
      · rintro ⟨i, hi, e⟩
        by_cases z : i = n
        · rw [z, a] at e; exact absurd e (by decide)
        · exact List.mem_cons_of_mem _ (k.mp ⟨i, by omega, e⟩)
      · intro z
        rcases List.mem_cons.mp z with y | y
        · cases y
        · exact up (k.mpr y)
    · exact ⟨fun _ => List.mem_cons_self, fun _ => ⟨n, by omega, a⟩⟩
    · have k := ih l c
      constructor
      · rintro ⟨i, hi, e⟩
        by_cases z : i = n
        · rw [z] at e
          rcases a with a | a <;> rw [a] at e <;> exact absurd e (by decide)
        · exact k.mp ⟨i, by omega, e⟩
      · intro z
        exact up (k.mpr z)
theorem dn_in {l : List Bool} (h : dn l = l) : true ∈ l ↔ l ≠ [] := by
  cases l with
  | nil => exact ⟨fun z => (by cases z), fun z => absurd rfl z⟩
  | cons b l =>
    cases b with
    | true => exact ⟨fun _ z => (by cases z), fun _ => List.mem_cons_self⟩
    | false =>
      exfalso
      have len : ∀ l : List Bool, (dn l).length ≤ l.length := by
        intro l
        induction l with
        | nil => exact Nat.le_refl _
        | cons b l ih =>
          cases b with
          | true => exact Nat.le_refl _
          | false => exact Nat.le_succ_of_le ih
      have e : dn l = false :: l := h
      have := len l
      rw [e] at this
      exact absurd this (Nat.not_succ_le_self _)
theorem dn_len : ∀ l : List Bool, (dn l).length ≤ l.length := by
  intro l
  induction l with
  | nil => exact Nat.le_refl _
  | cons b l ih =>
    cases b with
    | true => exact Nat.le_refl _
    | false => exact Nat.le_succ_of_le ih
/-- all but what reading a test writes -/
def Gm (T T' : mT) : Prop := ∀ r j, r ≠ 2 → r ≠ 3 → r ≠ 7 → (r ≠ 0 ∨ (j ≠ 8 ∧ j ≠ 9 ∧ j ≠ 10 ∧ j ≠ 12 ∧ j ≠ 13 ∧ j ≠ 16)) → T'.1 r j = T.1 r j
theorem Gm.rfl' {T : mT} : Gm T T := fun _ _ _ _ _ _ => rfl
theorem Gm.trans {A B C : mT} (h : Gm A B) (g : Gm B C) : Gm A C := fun r j a b c d => (g r j a b c d).trans (h r j a b c d)
theorem Gm.f {A B : mT} (h : Fm A B) : Gm A B := fun r j a b _ d => h r j a b (by omega)
section RTS
variable {B : Nat → Int} {n : Nat} {K : KS} {m : Nat} {E po : Nat → Nat}
def TS (B : Nat → Int) (n : Nat) (po : Nat → Nat) (m : Nat) (l : List Bool) (c p : Nat) (T : mT) : Prop := c ≤ m ∧ RSt B n po c p T ∧ l.length ≤ 10 ∧ (T.1 0 13).toInt = (l.length : Int) ∧ ∃ k : Nat, (T.1 0 16).toInt = (k : Int) ∧ k ≤ 400 ∧ StK (T.1 7) k l
theorem TS.fm {l : List Bool} {c p c' p' : Nat} {T T' : mT} (h : TS B n po m l c p T) (hc : c' ≤ m) (r : RSt B n po c' p' T') (f : Fm T T') : TS B n po m l c' p' T' := by
  obtain ⟨h1, h2, h3, h4, k, h5, h6, h7⟩ := h
  have e7 : T'.1 7 = T.1 7 := funext (fun j => f 7 j (by decide) (by decide) (Or.inl (by decide)))
  exact ⟨hc, r, h3, by rw [f 0 13 (by decide) (by decide) (Or.inr (by decide))]; exact h4, k, by rw [f 0 16 (by decide) (by decide) (Or.inr (by decide))]; exact h5, h6, by rw [e7]; exact h7⟩
theorem um_opens {l : List Bool} {c p : Nat} {v : Int32} {bb : Bool} {T : mT} (hS : STR B n K m E po) (hB : BY B n) (hv : (v = 11 ∧ bb = false) ∨ (v = 91 ∧ bb = true)) (h8 : (T.1 0 8).toInt = (po c : Int)) (h : TS B n po m l c p T) : wl (fm_opens v T) (fun w => (10 ≤ l.length ∧ w.1 = false ∧ (w.2.1 0 9).toInt = (bdc K c 2).1 ∧ (bdc K c 2).1 ≠ 0) ∨ (l.length < 10 ∧ w.1 = true ∧ TS B n po m (bb :: l) c p w.2 ∧ (w.2.1 0 8).toInt = (po c : Int) ∧ Gm T w.2)) := by
  obtain ⟨h1, h2, h3, h4, k, h5, h6, h7⟩ := h
  unfold fm_opens
  have l_1 : (1 : Int32).toInt = 1 := by decide
  have l_10 : (10 : Int32).toInt = 10 := by decide
  refine wl_eq (fun z => ?_) (fun z => ?_)
  · exact wl_bind (um_failK hS hB h1 h2.2.2.1 h8 (by decide) (by decide) (by decide)) (fun q hq => wl_some (Or.inl ⟨by omega, hq⟩))
  have u := tA (a := T.1 0 13) (b := 1) (by omega) (by omega)
  refine wl_letv (fun T2 e2 => ?_)
  have a2 : T2.1 0 16 = T.1 0 16 := by rw [e2]; exact mz_ne (by decide)
  refine wl_bift (fun ib => ?_)
  have ib2 := (inb_to ib).2
  rw [a2] at ib2
  refine wl_letv (fun T3 e3 => ?_)
  rw [a2, cl_idx h5] at e3
  have a3 : T3.1 0 16 = T.1 0 16 := by rw [e3, ma_ne (Or.inl (by decide))]; exact a2
  have u3 := tA (a := T3.1 0 16) (b := 1) (by rw [a3]; omega) (by rw [a3]; omega)
  refine wl_letv (fun T4 e4 => wl_some (Or.inr ⟨by omega, rfl, ⟨h1, ?_, by show l.length + 1 ≤ 10; omega, ?_, k + 1, ?_, by omega, ?_⟩, ?_, ?_⟩))
  · exact h2.fr (fun r j hj => by dsimp only; rw [e4, mz_ne (by omega), e3, ma_ne (Or.inl (by omega)), e2, mz_ne (by omega)])
  · dsimp only
    rw [e4, mz_ne (by decide), e3, ma_ne (Or.inl (by decide)), e2, mz_at]
    show _ = ((l.length + 1 : Nat) : Int)
    omega
  · dsimp only
    rw [e4, mz_at, u3, a3, h5]
    rfl
  · dsimp only
    have s : T4.1 7 = T3.1 7 := by rw [e4]; exact mz_no _ _ _ (by decide)
    have top : T4.1 7 k = v := by rw [s, e3]; exact ma_at _ _ _ _
    have low : StK (T4.1 7) k l := StK_congr k l (fun i hi => by rw [s, e3, ma_ne (Or.inr (by omega)), e2, mz_ne (Or.inl (by decide))]) h7
    rcases hv with ⟨rfl, rfl⟩ | ⟨rfl, rfl⟩
    · exact Or.inl ⟨top, l, rfl, low⟩
    · exact Or.inr (Or.inl ⟨top, l, rfl, low⟩)
  · dsimp only
    rw [e4, mz_ne (by decide), e3, ma_ne (Or.inl (by decide)), e2, mz_ne (by decide)]
    exact h8
  · intro r j a b c' d
    dsimp only
    rw [e4, mz_ne (by omega), e3, ma_ne (Or.inl c'), e2, mz_ne (by omega)]
theorem um_fact_L2 (hS : STR B n K m E po) (hB : BY B n) : ∀ (N : Nat) (a1 : Int32) (T : mT) (l : List Bool) (c p : Nat), TS B n po m l c p T → (a1 = 0 → K.1 c ≠ 317 ∧ K.1 c ≠ 91) → wl (fm_fact_L2 N a1 T) (fun w => Sum.elim (fun a => ∃ l' c', TS B n po m l' c' p a.2 ∧ Gm T a.2 ∧ K.1 c' ≠ 317 ∧ K.1 c' ≠ 91 ∧ ∀ r, MR K true l' c' p r → MR K true l c p r) (fun x => x.1 = false ∧ ∃ r, r.1 ≠ 0 ∧ (x.2.1 0 9).toInt = r.1 ∧ MR K true l c p r) w) := by
  have l_91 : (91 : Int32).toInt = 91 := by decide
  intro N
  induction N with
  | zero => intro a1 T l c p _ _; exact wl_none
  | succ N ih =>
    intro a1 T l c p h h0
    rw [fm_fact_L2]
    refine wl_if (fun z => wl_some ⟨l, c, h, Gm.rfl', (h0 z).1, (h0 z).2, fun r k => k⟩) (fun _ => ?_)
    have hc := h.1
    refine wl_bind (um_seeK hS hB hc h.2.1) (fun q2 h2 => ?_)
    obtain ⟨R2, x2, s2, _⟩ := h2
    refine wl_bind (um_wordK (i := 17) hS hB hc (by decide) (by decide +kernel) (R2.s hS hB hc)) (fun q3 h3 => ?_)
    obtain ⟨R3, x3, y1, y2⟩ := h3
    have x23 := x2.trans x3
    have T3 : TS B n po m l c p q3.2 := h.fm hc (R3.s hS hB hc) (Fm.nx x23)
    have G3 : Gm T q3.2 := Gm.f (Fm.nx x23)
    refine wl_b (fun b => ?_) (fun b => ?_)
    · have k317 := y2 b
      refine wl_eq (fun z => ?_) (fun z => ?_)
      · have k91 := (s2 91 (by decide)).mp (by omega)
        refine wl_bind (um_opens (bb := true) hS hB (Or.inr ⟨rfl, rfl⟩) R3.2.1 T3) (fun q6 h6 => ?_)
        rcases h6 with ⟨d, f, w, nz⟩ | ⟨d, t, T6, n8, G6⟩
        · exact wl_b (fun _ => wl_some ⟨rfl, _, nz, w, MR_deep (Or.inr k91) d⟩) (fun b' => by rw [f] at b'; cases b')
        · refine wl_b (fun b' => by rw [t] at b'; cases b') (fun _ => ?_)
          refine wl_letv (fun T8 e8 => ?_)
          have R6 : RQt B n po c p q6.2 := ⟨T6.2.1.1, n8, T6.2.1.2.2⟩
          have o := um_onK hS hB hc (s := 91) (by decide) k91 R6
          rw [← e8] at o
          have cm := hS.lt hc (by omega)
          have T8' : TS B n po m (true :: l) (c + 1) p T8 := T6.fm (by omega) o.1 (Fm.nx o.2)
          refine wl_mono (ih 1 T8 (true :: l) (c + 1) p T8' (fun z => absurd z (by decide))) (fun w hw => ?_)
          have G8 : Gm T T8 := G3.trans (G6.trans (Gm.f (Fm.nx o.2)))
          cases w with
          | inl a =>
            obtain ⟨l', c', z1, z2, z3, z4, z5⟩ := hw
            exact ⟨l', c', z1, G8.trans z2, z3, z4, fun r k => MR_br k91 d (z5 r k)⟩
          | inr x =>
            obtain ⟨z1, r, z2, z3, z4⟩ := hw
            exact ⟨z1, r, z2, z3, MR_br k91 d z4⟩
      · have k91 : K.1 c ≠ 91 := fun k => z (by rw [(s2 91 (by decide)).mpr k]; exact l_91.symm)
        refine wl_mono (ih 0 q3.2 l c p T3 (fun _ => ⟨k317, k91⟩)) (fun w hw => ?_)
        cases w with
        | inl a =>
          obtain ⟨l', c', z1, z2, z3⟩ := hw
          exact ⟨l', c', z1, G3.trans z2, z3⟩
        | inr x => exact hw
    · have k317 : K.1 c = 317 := y1 b
      refine wl_bind (um_opens (bb := false) hS hB (Or.inl ⟨rfl, rfl⟩) R3.2.1 T3) (fun q6 h6 => ?_)
      rcases h6 with ⟨d, f, w, nz⟩ | ⟨d, t, T6, n8, G6⟩
      · exact wl_b (fun _ => wl_some ⟨rfl, _, nz, w, MR_deep (Or.inl k317) d⟩) (fun b' => by rw [f] at b'; cases b')
      · refine wl_b (fun b' => by rw [t] at b'; cases b') (fun _ => ?_)
        have R6 : RQt B n po c p q6.2 := ⟨T6.2.1.1, n8, T6.2.1.2.2⟩
        have cm := hS.lt hc (by omega)
        refine wl_bind (um_passK (i := 17) hS hB hc (by decide) k317 R6) (fun q11 o => ?_)
        have T8' : TS B n po m (false :: l) (c + 1) p q11 := T6.fm (by omega) o.1 (Fm.nx o.2)
        have G8 : Gm T q11 := G3.trans (G6.trans (Gm.f (Fm.nx o.2)))
        refine wl_mono (ih 1 q11 (false :: l) (c + 1) p T8' (fun z => absurd z (by decide))) (fun w hw => ?_)
        cases w with
        | inl a =>
          obtain ⟨l', c', z1, z2, z3, z4, z5⟩ := hw
          exact ⟨l', c', z1, G8.trans z2, z3, z4, fun r k => MR_not k317 d (z5 r k)⟩
        | inr x =>
          obtain ⟨z1, r, z2, z3, z4⟩ := hw
          exact ⟨z1, r, z2, z3, MR_not k317 d z4⟩
theorem um_fact {l : List Bool} {c p : Nat} {T : mT} (hS : STR B n K m E po) (hB : BY B n) (h : TS B n po m l c p T) : wl (fm_fact T) (fun w => (w.1 = false ∧ ∃ r, r.1 ≠ 0 ∧ (w.2.1 0 9).toInt = r.1 ∧ MR K true l c p r) ∨ (w.1 = true ∧ ∃ l' c' p', TS B n po m l' c' p' w.2 ∧ Gm T w.2 ∧ ∀ r, MR K false l' c' p' r → MR K true l c p r)) := by
  unfold fm_fact
  refine wl_bind (um_fact_L2 hS hB FU 1 T l c p h (fun z => absurd z (by decide))) (fun w hw => ?_)
  cases w with
  | inl a =>
    obtain ⟨l', c', T1, G1, k1, k2, mr⟩ := hw
    refine wl_bind (um_compare hS hB T1.1 T1.2.1) (fun q13 h13 => ?_)
    obtain ⟨r, cp, ro⟩ := h13
    rcases ro with ⟨a1, f, w⟩ | ⟨a1, t, cm, R, fm⟩
    · exact wl_some (Or.inl ⟨f, r, a1, w, mr r (MR_cb k1 k2 cp a1)⟩)
    · exact wl_some (Or.inr ⟨t, l', r.2.1, r.2.2, T1.fm cm R fm, G1.trans (Gm.f fm), fun s k => mr s (MR_co k1 k2 cp a1 k)⟩)
  | inr x =>
    obtain ⟨z1, r, z2, z3, z4⟩ := hw
    exact wl_some (Or.inl ⟨z1, r, z2, z3, z4⟩)
theorem um_settles_L0 {k1 : Int32} (hk1 : 1 ≤ k1.toInt) (hk3 : k1.toInt ≤ 3) : ∀ (N : Nat) (T : mT) (l : List Bool) (c p : Nat), TS B n po m l c p T → wl (fm_settles_L0 k1 N T) (fun w => TS B n po m (dn l) c p w ∧ Gm T w ∧ (k1.toInt = 1 → ∀ k : Nat, (w.1 0 16).toInt = (k : Int) → k = 0 ∨ w.1 7 (k - 1) = 91) ∧ w.1 0 8 = T.1 0 8) := by
  have l_0 : (0 : Int32).toInt = 0 := by decide
  have l_1 : (1 : Int32).toInt = 1 := by decide
  have l_11 : (11 : Int32).toInt = 11 := by decide
  intro N
  induction N with
  | zero => intro T l c p _; exact wl_none
  | succ N ih =>
    intro T l c p h
    rw [fm_settles_L0]
    have h' := h
    obtain ⟨h1, h2, h3, h4, k, h5, h6, h7⟩ := h'
    refine wl_le (fun z => ?_) (fun z => ?_)
    · have e0 : k = 0 := by omega
      subst e0
      have el : l = [] := h7
      subst el
      exact wl_some ⟨h, Gm.rfl', fun _ k' hk' => Or.inl (by omega), rfl⟩
    obtain ⟨i, rfl⟩ : ∃ i, k = i + 1 := ⟨k - 1, by omega⟩
    have u := tS (a := T.1 0 16) (b := 1) (by omega) (by omega)
    have em : (T.1 0 16 - 1).toInt = (i : Int) := by omega
    refine wl_bif (wl_letv (fun v2 e2 => ?_))
    rw [cl_idx em] at e2
    have sv : wl (fm_strength v2) (fun q => (v2 = 11 → q.toInt = 3) ∧ (v2 = 12 → q.toInt = 2) ∧ (v2 = 13 → q.toInt = 1) ∧ (v2 = 91 → q.toInt = 0)) := by
      unfold fm_strength
      refine wl_if (fun y => wl_some ⟨fun x => ?_, fun x => ?_, fun _ => by decide, fun x => ?_⟩) (fun y1 => ?_)
      · rw [y] at x; exact absurd x (by decide)
      · rw [y] at x; exact absurd x (by decide)
      · rw [y] at x; exact absurd x (by decide)
      refine wl_if (fun y => wl_some ⟨fun x => ?_, fun x => by decide, fun x => absurd x y1, fun x => ?_⟩) (fun y2 => ?_)
      · rw [y] at x; exact absurd x (by decide)
      · rw [y] at x; exact absurd x (by decide)
      refine wl_if (fun y => wl_some ⟨fun x => by decide, fun x => absurd x y2, fun x => absurd x y1, fun x => ?_⟩) (fun y3 => wl_some ⟨fun x => absurd x y3, fun x => absurd x y2, fun x => absurd x y1, fun x => by decide⟩)
      rw [y] at x; exact absurd x (by decide)
    refine wl_bind sv (fun q3 h3' => ?_)
    obtain ⟨s11, s12, s13, s91⟩ := h3'
    unfold StK at h7
    rw [← e2] at h7
    have stop : dn l = l → (k1.toInt = 1 → v2 = 91) → wl (some T) (fun w => TS B n po m (dn l) c p w ∧ Gm T w ∧ (k1.toInt = 1 → ∀ k : Nat, (w.1 0 16).toInt = (k : Int) → k = 0 ∨ w.1 7 (k - 1) = 91) ∧ w.1 0 8 = T.1 0 8) := by
      intro d y
      refine wl_some ⟨by rw [d]; exact h, Gm.rfl', fun z1 k' hk' => Or.inr ?_, rfl⟩
      have ek : k' - 1 = i := by omega
      rw [ek, ← e2]
      exact y z1
    refine wl_lt (fun y => ?_) (fun y => ?_)
    · rcases h7 with ⟨a, l', b, d⟩ | ⟨a, l', b, d⟩ | ⟨a, b, d⟩
      · have := s11 a
        exfalso; omega
      · exact stop (by rw [b]; rfl) (fun _ => a)
      · refine stop b (fun z1 => ?_)
        exfalso
        rcases a with a | a
        · have := s12 a; omega
        · have := s13 a; omega
    · refine wl_letv (fun T5 e5 => ?_)
      have a5 : T5.1 0 16 = T.1 0 16 - 1 := by rw [e5]; exact mz_at _ _ _
      have b5 : ∀ r j, (r ≠ 0 ∨ j ≠ 16) → T5.1 r j = T.1 r j := fun r j hj => by rw [e5]; exact mz_ne hj
      refine wl_bif (wl_letv (fun v6 _ => ?_))
      refine wl_bind um_puts (fun q7 h7' => ?_)
      have z7 : ∀ r j, r ≠ 2 → r ≠ 3 → (r ≠ 0 ∨ j ≠ 16) → q7.1 r j = T.1 r j := fun r j a b d => by rw [h7' r j a b, b5 r j d]
      have a7 : q7.1 0 16 = T.1 0 16 - 1 := by rw [h7' 0 16 (by decide) (by decide)]; exact a5
      have s7 : q7.1 7 = T.1 7 := funext (fun j => z7 7 j (by decide) (by decide) (Or.inl (by decide)))
      have R7 : RSt B n po c p q7 := h2.fr (fun r j hj => z7 r j (by omega) (by omega) (by omega))
      have G7 : Gm T q7 := fun r j a b d e => z7 r j a b (by omega)
      refine wl_bif (wl_letv (fun v8 e8 => ?_))
      rw [a7, cl_idx em, s7, ← e2] at e8
      rcases h7 with ⟨a, l', b, d⟩ | ⟨a, l', b, d⟩ | ⟨a, b, d⟩
      · subst b
        refine wl_if (fun _ => ?_) (fun x => absurd (by rw [e8]; exact a) x)
        refine wl_letv (fun T10 e10 => ?_)
        have ll : l'.length + 1 ≤ 10 := h3
        have h4' : (T.1 0 13).toInt = ((l'.length + 1 : Nat) : Int) := h4
        have e13 : q7.1 0 13 = T.1 0 13 := z7 0 13 (by decide) (by decide) (by decide)
        have u13 := tS (a := q7.1 0 13) (b := 1) (by rw [e13]; omega) (by rw [e13]; omega)
        have z10 : ∀ r j, (r ≠ 0 ∨ j ≠ 13) → T10.1 r j = q7.1 r j := fun r j hj => by rw [e10]; exact mz_ne hj
        have T10' : TS B n po m l' c p T10 := by
          refine ⟨h1, R7.fr (fun r j hj => z10 r j (by omega)), by omega, by rw [e10, mz_at, u13, e13]; omega, i, by rw [z10 0 16 (by decide), a7]; exact em, by omega, ?_⟩
          rw [show T10.1 7 = T.1 7 by rw [← s7]; exact funext (fun j => z10 7 j (Or.inl (by decide)))]
          exact d
        refine wl_mono (ih T10 l' c p T10') (fun w hw => ⟨hw.1, (G7.trans (fun r j _ _ _ e => z10 r j (by omega))).trans hw.2.1, hw.2.2.1, by rw [hw.2.2.2, z10 0 8 (by decide), z7 0 8 (by decide) (by decide) (by decide)]⟩)
      · have := s91 a
        exfalso; omega
      · refine wl_if (fun x => ?_) (fun _ => ?_)
        · exfalso
          rw [e8] at x
          rcases a with a | a <;> rw [x] at a <;> exact absurd a (by decide)
        · have T7 : TS B n po m l c p q7 := ⟨h1, R7, h3, by rw [z7 0 13 (by decide) (by decide) (by decide)]; exact h4, i, by rw [a7]; exact em, by omega, by rw [s7]; exact d⟩
          exact wl_mono (ih q7 l c p T7) (fun w hw => ⟨hw.1, G7.trans hw.2.1, hw.2.2.1, by rw [hw.2.2.2, z7 0 8 (by decide) (by decide) (by decide)]⟩)
theorem um_settles {k1 : Int32} {l : List Bool} {c p : Nat} {T : mT} (hk1 : 1 ≤ k1.toInt) (hk3 : k1.toInt ≤ 3) (h : TS B n po m l c p T) : wl (fm_settles k1 T) (fun w => TS B n po m (dn l) c p w ∧ Gm T w ∧ (k1.toInt = 1 → ∀ k : Nat, (w.1 0 16).toInt = (k : Int) → k = 0 ∨ w.1 7 (k - 1) = 91) ∧ w.1 0 8 = T.1 0 8) := by
  unfold fm_settles
  exact wl_bind (um_settles_L0 hk1 hk3 FU T l c p h) (fun w hw => wl_some hw)
theorem um_isInside {l : List Bool} {c p : Nat} {T : mT} (h : TS B n po m l c p T) : wl (fm_isInside T) (fun b => (b = true → true ∈ l) ∧ (b = false → ¬ true ∈ l)) := by
  obtain ⟨h1, h2, h3, h4, k, h5, h6, h7⟩ := h
  have l_0 : (0 : Int32).toInt = 0 := by decide
  have l_1 : (1 : Int32).toInt = 1 := by decide
  have io := StK_in k l h7
  have lp : ∀ (N : Nat) (a1 : Int32) (i : Nat), a1.toInt = (i : Int) → (∀ j, j < i → T.1 7 j ≠ 91) → wl (fm_isInside_L2 T N a1) (fun w => Sum.elim (fun _ => ¬ ∃ j, j < k ∧ T.1 7 j = 91) (fun b => b = true ∧ ∃ j, j < k ∧ T.1 7 j = 91) w) := by
    intro N
    induction N with
    | zero => intro a1 i _ _; exact wl_none
    | succ N ih =>
      intro a1 i e no
      rw [fm_isInside_L2]
      refine wl_le (fun z => wl_some (fun ⟨j, hj, ej⟩ => no j (by omega) ej)) (fun z => ?_)
      refine wl_bif (wl_letv (fun v2 e2 => ?_))
      rw [cl_idx e] at e2
      refine wl_if (fun y => wl_some ⟨rfl, i, by omega, by rw [← e2]; exact y⟩) (fun y => ?_)
      have u := tA (a := a1) (b := 1) (by omega) (by omega)
      refine ih (a1 + 1) (i + 1) (by omega) (fun j hj => ?_)
      by_cases x : j = i
      · rw [x, ← e2]; exact y
      · exact no j (by omega)
  unfold fm_isInside
  refine wl_bind (lp FU 0 0 l_0 (fun j hj => absurd hj (Nat.not_lt_zero _))) (fun w hw => ?_)
  cases w with
  | inl a => exact wl_some ⟨fun z => (by cases z), fun _ z => hw (io.mpr z)⟩
  | inr b =>
    obtain ⟨rfl, hw⟩ := hw
    exact wl_some ⟨fun _ => io.mp hw, fun z => by cases z⟩
theorem um_closes_L5 (hS : STR B n K m E po) (hB : BY B n) : ∀ (N : Nat) (T : mT) (l : List Bool) (c p : Nat), TS B n po m l c p T → dn l = l → wl (fm_closes_L5 N T) (fun w => ∃ l' c', TS B n po m l' c' p w ∧ Gm T w ∧ dn l' = l' ∧ ¬ (K.1 c' = 93 ∧ l' ≠ []) ∧ ∀ r, MR K false l' c' p r → MR K false l c p r) := by
  have l_1 : (1 : Int32).toInt = 1 := by decide
  have l_3 : (3 : Int32).toInt = 3 := by decide
  have l_93 : (93 : Int32).toInt = 93 := by decide
  intro N
  induction N with
  | zero => intro T l c p _ _; exact wl_none
  | succ N ih =>
    intro T l c p h hd
    rw [fm_closes_L5]
    have hc := h.1
    refine wl_bind (um_seeK hS hB hc h.2.1) (fun q2 h2 => ?_)
    obtain ⟨R2, x2, s2, _⟩ := h2
    have T2 : TS B n po m l c p q2.2 := h.fm hc (R2.s hS hB hc) (Fm.nx x2)
    have G2 : Gm T q2.2 := Gm.f (Fm.nx x2)
    refine wl_eq (fun z => ?_) (fun z => wl_some ⟨l, c, T2, G2, hd, fun y => z (by rw [(s2 93 (by decide)).mpr y.1]; exact l_93.symm), fun r k => k⟩)
    have k93 := (s2 93 (by decide)).mp (by omega)
    refine wl_bind (um_isInside T2) (fun q4 h4 => ?_)
    refine wl_b (fun b => wl_some ⟨l, c, T2, G2, hd, fun y => h4.2 b ((dn_in hd).mpr y.2), fun r k => k⟩) (fun b => ?_)
    have ne := (dn_in hd).mp (h4.1 b)
    refine wl_bind (um_settles (k1 := 1) (by decide) (by decide) T2) (fun q6 h6 => ?_)
    obtain ⟨T6, G6, t6, n6⟩ := h6
    rw [hd] at T6
    obtain ⟨_, R6, z3, z4, k, z5, z6, z7⟩ := T6
    have tp := t6 l_1 k z5
    have kp : k ≠ 0 := by
      intro e
      subst e
      exact ne z7
    obtain ⟨i, rfl⟩ : ∃ i, k = i + 1 := ⟨k - 1, by omega⟩
    have t91 : q6.1 7 i = 91 := by
      rcases tp with y | y
      · omega
      · exact y
    unfold StK at z7
    obtain ⟨l', el, d⟩ : ∃ l', l = true :: l' ∧ StK (q6.1 7) i l' := by
      rcases z7 with ⟨a, _⟩ | ⟨_, l', b', d⟩ | ⟨a, _⟩
      · rw [t91] at a; exact absurd a (by decide)
      · exact ⟨l', b', d⟩
      · rw [t91] at a
        rcases a with a | a <;> exact absurd a (by decide)
    subst el
    have ll : l'.length + 1 ≤ 10 := z3
    have z4' : (q6.1 0 13).toInt = ((l'.length + 1 : Nat) : Int) := z4
    have u := tS (a := q6.1 0 16) (b := 1) (by omega) (by omega)
    refine wl_letv (fun T7 e7 => ?_)
    refine wl_letv (fun T8 e8 => ?_)
    have y7 : ∀ r j, (r ≠ 0 ∨ j ≠ 16) → T7.1 r j = q6.1 r j := fun r j hj => by rw [e7]; exact mz_ne hj
    have u13 := tS (a := T7.1 0 13) (b := 1) (by rw [y7 0 13 (by decide)]; omega) (by rw [y7 0 13 (by decide)]; omega)
    rw [y7 0 13 (by decide)] at u13
    have y8 : ∀ r j, (r ≠ 0 ∨ (j ≠ 13 ∧ j ≠ 16)) → T8.1 r j = q6.1 r j := fun r j hj => by rw [e8, mz_ne (by omega), y7 r j (by omega)]
    have T8' : TS B n po m l' c p T8 := by
      refine ⟨hc, R6.fr (fun r j hj => y8 r j (by omega)), by omega, by rw [e8, mz_at, y7 0 13 (by decide)]; omega, i, by rw [e8, mz_ne (by decide), e7, mz_at]; omega, by omega, ?_⟩
      rw [show T8.1 7 = q6.1 7 from funext (fun j => y8 7 j (Or.inl (by decide)))]
      exact d
    have e68 : (T8.1 0 8).toInt = (po c : Int) := by rw [y8 0 8 (by decide), n6]; exact R2.2.1
    have R8 : RQt B n po c p T8 := ⟨T8'.2.1.1, e68, T8'.2.1.2.2⟩
    have o := um_onK hS hB hc (s := 93) (by decide) k93 R8
    refine wl_letv (fun T9 e9 => ?_)
    rw [← e9] at o
    have cm := hS.lt hc (by omega)
    have T9' : TS B n po m l' (c + 1) p T9 := T8'.fm (by omega) o.1 (Fm.nx o.2)
    refine wl_bind (um_settles (k1 := 3) (by decide) (by decide) T9') (fun q10 h10 => ?_)
    obtain ⟨T10, G10, _, _⟩ := h10
    have G : Gm T q10 := (G2.trans G6).trans (Gm.trans (fun r j a b' d' e => y8 r j (by omega)) ((Gm.f (Fm.nx o.2)).trans G10))
    refine wl_mono (ih q10 (dn l') (c + 1) p T10 (dn_dn l')) (fun w hw => ?_)
    obtain ⟨l2, c2, w1, w2, w3, w4, w5⟩ := hw
    exact ⟨l2, c2, w1, G.trans w2, w3, w4, fun r k => MR_cl k93 (by intro e; cases e) (MR_eq (dn_dn l') (w5 r k))⟩
theorem um_closes {l : List Bool} {c p : Nat} {T : mT} (hS : STR B n K m E po) (hB : BY B n) (h : TS B n po m l c p T) : wl (fm_closes T) (fun w => ∃ l' c', TS B n po m l' c' p w ∧ Gm T w ∧ dn l' = l' ∧ ¬ (K.1 c' = 93 ∧ l' ≠ []) ∧ ∀ r, MR K false l' c' p r → MR K false l c p r) := by
  unfold fm_closes
  refine wl_bind (um_settles (k1 := 3) (by decide) (by decide) h) (fun q1 h1 => ?_)
  refine wl_bind (um_closes_L5 hS hB FU q1 (dn l) c p h1.1 (dn_dn l)) (fun w hw => wl_some ?_)
  obtain ⟨l2, c2, w1, w2, w3, w4, w5⟩ := hw
  exact ⟨l2, c2, w1, h1.2.1.trans w2, w3, w4, fun r k => MR_eq (dn_dn l) (w5 r k)⟩
theorem um_tested_L12 (hS : STR B n K m E po) (hB : BY B n) {l0 : List Bool} {c0 p0 : Nat} : ∀ (N : Nat) (a1 : Int32) (T : mT) (l : List Bool) (c p : Nat), TS B n po m l c p T → (a1 ≠ 0 → ∀ r, MR K true l c p r → MR K true l0 c0 p0 r) → (a1 = 0 → dn l = l ∧ ¬ (K.1 c = 93 ∧ l ≠ []) ∧ K.1 c ≠ 315 ∧ K.1 c ≠ 316 ∧ ∀ r, MR K false l c p r → MR K true l0 c0 p0 r) → wl (fm_tested_L12 N a1 T) (fun w => Sum.elim (fun a => ∃ l' c' p', TS B n po m l' c' p' a.2 ∧ Gm T a.2 ∧ dn l' = l' ∧ ¬ (K.1 c' = 93 ∧ l' ≠ []) ∧ K.1 c' ≠ 315 ∧ K.1 c' ≠ 316 ∧ ∀ r, MR K false l' c' p' r → MR K true l0 c0 p0 r) (fun x => x.1 = false ∧ ∃ r, r.1 ≠ 0 ∧ (x.2.1 0 9).toInt = r.1 ∧ MR K true l0 c0 p0 r) w) := by
  have l_1 : (1 : Int32).toInt = 1 := by decide
  intro N
  induction N with
  | zero => intro a1 T l c p _ _ _; exact wl_none
  | succ N ih =>
    intro a1 T l c p h g1 g0
    rw [fm_tested_L12]
    refine wl_if (fun z => wl_some ⟨l, c, p, h, Gm.rfl', g0 z⟩) (fun z => ?_)
    have g := g1 z
    refine wl_bind (um_fact hS hB h) (fun q4 h4 => ?_)
    rcases h4 with ⟨f, r, a, w, mr⟩ | ⟨t, l4, c4, p4, T4, G4, mr4⟩
    · exact wl_b (fun _ => wl_some ⟨rfl, r, a, w, g r mr⟩) (fun b' => by rw [f] at b'; cases b')
    refine wl_b (fun b' => by rw [t] at b'; cases b') (fun _ => ?_)
    refine wl_bind (um_closes hS hB T4) (fun q6 h6 => ?_)
    obtain ⟨l6, c6, T6, G6, d6, n6, mr6⟩ := h6
    have G46 := G4.trans G6
    have hc := T6.1
    have all : ∀ r, MR K false l6 c6 p4 r → MR K true l0 c0 p0 r := fun r k => g r (mr4 r (mr6 r k))
    refine wl_bind (um_wordK (i := 16) hS hB hc (by decide) (by decide +kernel) T6.2.1) (fun q7 h7 => ?_)
    obtain ⟨R7, x7, y7, n7⟩ := h7
    refine wl_bind (R := fun w : Int32 × mT => RQt B n po c6 p4 w.2 ∧ Nx q6 w.2 (po c6) ∧ ((w.1 = 0 ∧ K.1 c6 ≠ 315 ∧ K.1 c6 ≠ 316) ∨ (w.1 = 1 ∧ (K.1 c6 = 315 ∨ K.1 c6 = 316)))) ?_ (fun w8 h8 => ?_)
    · refine wl_b (fun b => ?_) (fun b => wl_some ⟨R7, x7, Or.inr ⟨rfl, Or.inr (y7 b)⟩⟩)
      refine wl_bind (um_wordK (i := 15) hS hB hc (by decide) (by decide +kernel) (R7.s hS hB hc)) (fun q10 h10 => ?_)
      obtain ⟨R10, x10, y10, n10⟩ := h10
      exact wl_b (fun b' => wl_some ⟨R10, x7.trans x10, Or.inl ⟨rfl, n10 b', n7 b⟩⟩) (fun b' => wl_some ⟨R10, x7.trans x10, Or.inr ⟨rfl, Or.inl (y10 b')⟩⟩)
    obtain ⟨R8, x8, w8c⟩ := h8
    have T8 : TS B n po m l6 c6 p4 w8.2 := T6.fm hc (R8.s hS hB hc) (Fm.nx x8)
    have G8 : Gm T w8.2 := G46.trans (Gm.f (Fm.nx x8))
    rcases w8c with ⟨e0, k1, k2⟩ | ⟨e1, kk⟩
    · refine wl_if (fun _ => ?_) (fun z' => absurd e0 z')
      rw [e0]
      refine wl_mono (ih 0 w8.2 l6 c6 p4 T8 (fun z' => absurd rfl z') (fun _ => ⟨d6, n6, k1, k2, all⟩)) (fun w hw => ?_)
      cases w with
      | inl a =>
        obtain ⟨l', c', p', z1, z2, z3⟩ := hw
        exact ⟨l', c', p', z1, G8.trans z2, z3⟩
      | inr x => exact hw
    · refine wl_if (fun z' => by rw [e1] at z'; exact absurd z' (by decide)) (fun _ => ?_)
      rw [e1]
      refine wl_bind (um_wordK (i := 16) hS hB hc (by decide) (by decide +kernel) (R8.s hS hB hc)) (fun q13 h13 => ?_)
      obtain ⟨R13, x13, y13, n13⟩ := h13
      refine wl_bind (R := fun c : Int32 => c = 12 ∨ c = 13) ?_ (fun w14 h14 => ?_)
      · exact wl_b (fun _ => wl_some (Or.inr rfl)) (fun _ => wl_some (Or.inl rfl))
      have cm := hS.lt hc (by omega)
      refine wl_bind (R := fun w => RSt B n po (c6 + 1) p4 w ∧ Nx q13.2 w (E (c6 + 1))) ?_ (fun q16 h16 => ?_)
      · rcases kk with k | k
        · exact um_passK (i := 15) hS hB hc (by decide) k R13
        · exact um_passK (i := 16) hS hB hc (by decide) k R13
      have T16 : TS B n po m l6 (c6 + 1) p4 q16 := T8.fm (by omega) h16.1 (Fm.nx (x13.trans h16.2))
      have G16 : Gm T q16 := G8.trans (Gm.f (Fm.nx (x13.trans h16.2)))
      refine wl_bind (R := fun q : Int32 => 1 ≤ q.toInt ∧ q.toInt ≤ 3) ?_ (fun q17 h17 => ?_)
      · rcases h14 with rfl | rfl
        · exact wl_of (x := fm_strength 12) ⟨2, rfl, by decide⟩
        · exact wl_of (x := fm_strength 13) ⟨1, rfl, by decide⟩
      refine wl_bind (um_settles h17.1 h17.2 T16) (fun q18 h18 => ?_)
      obtain ⟨T18, G18, _, _⟩ := h18
      rw [d6] at T18
      obtain ⟨z1, z2, z3, z4, k, z5, z6, z7⟩ := T18
      refine wl_bift (fun ib => ?_)
      have ib2 := (inb_to ib).2
      refine wl_letv (fun T19 e19 => ?_)
      rw [cl_idx z5] at e19
      refine wl_letv (fun T20 e20 => ?_)
      have a19 : T19.1 0 16 = q18.1 0 16 := by rw [e19]; exact ma_ne (Or.inl (by decide))
      have u := tA (a := T19.1 0 16) (b := 1) (by rw [a19]; omega) (by rw [a19]; omega)
      have y20 : ∀ r j, r ≠ 7 → (r ≠ 0 ∨ j ≠ 16) → T20.1 r j = q18.1 r j := fun r j a b => by rw [e20, mz_ne b, e19, ma_ne (Or.inl a)]
      have s20 : T20.1 7 = T19.1 7 := by rw [e20]; exact mz_no _ _ _ (by decide)
      have T20' : TS B n po m l6 (c6 + 1) p4 T20 := by
        refine ⟨z1, z2.fr (fun r j hj => y20 r j (by omega) (by omega)), z3, by rw [y20 0 13 (by decide) (by decide)]; exact z4, k + 1, by rw [e20, mz_at, u, a19, z5]; rfl, by omega, ?_⟩
        refine Or.inr (Or.inr ⟨?_, d6, StK_congr k l6 (fun i hi => ?_) z7⟩)
        · rw [s20, e19, ma_at]; exact h14
        · rw [s20, e19, ma_ne (Or.inr (by omega))]
      have G20 : Gm T T20 := (G16.trans G18).trans (fun r j a b d e => y20 r j d (by omega))
      refine wl_mono (ih 1 T20 l6 (c6 + 1) p4 T20' (fun _ r k' => all r (MR_jn kk (by rw [d6]; exact k'))) (fun z' => absurd z' (by decide))) (fun w hw => ?_)
      cases w with
      | inl a =>
        obtain ⟨l', c', p', z1, z2, z3⟩ := hw
        exact ⟨l', c', p', z1, G20.trans z2, z3⟩
      | inr x => exact hw
/-- a sum's or a test's end -/
def RG (B : Nat → Int) (n : Nat) (po : Nat → Nat) (m : Nat) (r : RS3) (T : mT) (w : Bool × mT) : Prop := (r.1 ≠ 0 ∧ w.1 = false ∧ (w.2.1 0 9).toInt = r.1) ∨ (r.1 = 0 ∧ w.1 = true ∧ r.2.1 ≤ m ∧ RSt B n po r.2.1 r.2.2 w.2 ∧ Gm T w.2)
theorem um_tested {c p : Nat} {T : mT} (hS : STR B n K m E po) (hB : BY B n) (hc : c ≤ m) (h : RSt B n po c p T) : wl (fm_tested T) (fun w => ∃ r, MR K true [] c p r ∧ RG B n po m r T w) := by
  unfold fm_tested
  have l_0 : (0 : Int32).toInt = 0 := by decide
  refine wl_letv (fun T1 e1 => ?_)
  refine wl_letv (fun T2 e2 => ?_)
  have y2 : ∀ r j, (r ≠ 0 ∨ (j ≠ 13 ∧ j ≠ 16)) → T2.1 r j = T.1 r j := fun r j hj => by rw [e2, mz_ne (by omega), e1, mz_ne (by omega)]
  have T2' : TS B n po m [] c p T2 := ⟨hc, h.fr (fun r j hj => y2 r j (by omega)), by decide, by rw [e2, mz_at]; exact l_0, 0, by rw [e2, mz_ne (by decide), e1, mz_at]; exact l_0, by decide, rfl⟩
  have G2 : Gm T T2 := fun r j a b d e => y2 r j (by omega)
  refine wl_bind (um_tested_L12 hS hB (l0 := []) (c0 := c) (p0 := p) FU 1 T2 [] c p T2' (fun _ r k => k) (fun z => absurd z (by decide))) (fun w hw => ?_)
  cases w with
  | inl a =>
    obtain ⟨l', c', p', Ta, Ga, d, n93, k1, k2, mr⟩ := hw
    show wl ((fm_isInside a.2).bind fun q22 => if (b2i q22) = 0 then ((fm_settles 1 a.2).bind fun q24 => some (true, q24)) else ((fm_see a.2).bind fun q25 => (fm_fails 0 (q25.2.1 0 8) q25.2).bind fun q26 => some (q26.1, q26.2))) _
    refine wl_bind (um_isInside Ta) (fun q22 h22 => ?_)
    refine wl_b (fun b => ?_) (fun b => ?_)
    · have e : l' = [] := by
        by_cases z : l' = []
        · exact z
        · exact absurd ((dn_in d).mpr z) (h22.2 b)
      subst e
      refine wl_bind (um_settles (k1 := 1) (by decide) (by decide) Ta) (fun q24 h24 => wl_some ⟨(0, c', p'), mr _ (MR_dn k1 k2 rfl), Or.inr ⟨rfl, rfl, h24.1.1, h24.1.2.1, (G2.trans Ga).trans h24.2.1⟩⟩)
    · have ne := (dn_in d).mp (h22.1 b)
      refine wl_bind (um_seeK hS hB Ta.1 Ta.2.1) (fun q25 h25 => ?_)
      refine wl_bind (um_failK hS hB Ta.1 h25.1.2.2.1 h25.1.2.1 l_0 (by decide) (by decide)) (fun q26 h26 => wl_some ⟨bdc K c' 0, mr _ (MR_in (fun z => n93 ⟨z, ne⟩) k1 k2 (by rw [d]; exact ne)), Or.inl ⟨h26.2.2, h26.1, h26.2.1⟩⟩)
  | inr x =>
    obtain ⟨z1, r, z2, z3, z4⟩ := hw
    exact wl_some ⟨r, z4, Or.inl ⟨z2, z1, z3⟩⟩
/-- all but what reading a clause writes -/
def Hm (T T' : mT) : Prop := ∀ r j, r ≠ 2 → r ≠ 3 → r ≠ 4 → r ≠ 5 → r ≠ 7 → (r ≠ 0 ∨ (j ≠ 8 ∧ j ≠ 9 ∧ j ≠ 10 ∧ j ≠ 12 ∧ j ≠ 13 ∧ j ≠ 14 ∧ j ≠ 16)) → T'.1 r j = T.1 r j
theorem Hm.g {A B : mT} (h : Gm A B) : Hm A B := fun r j a b _ _ e f => h r j a b e (by omega)
theorem Hm.trans {A B C : mT} (h : Hm A B) (g : Hm B C) : Hm A C := fun r j a b c d e f => (g r j a b c d e f).trans (h r j a b c d e f)
def RH (B : Nat → Int) (n : Nat) (po : Nat → Nat) (m : Nat) (r : RS3) (T : mT) (w : Bool × mT) : Prop := (r.1 ≠ 0 ∧ w.1 = false ∧ (w.2.1 0 9).toInt = r.1) ∨ (r.1 = 0 ∧ w.1 = true ∧ r.2.1 ≤ m ∧ RSt B n po r.2.1 r.2.2 w.2 ∧ Hm T w.2 ∧ w.2.1 0 14 = T.1 0 14)
theorem um_isDoingHere {c p i : Nat} {v : Int32} {T : mT} (hS : STR B n K m E po) (hB : BY B n) (hc : c ≤ m) (k : K.1 c = 312 ∨ K.1 c = 313) (hi : i < 12) (h : RQt B n po c p T) : wl (fm_isDoingHere v T) (fun w => ∃ r, CLS K i c p r ∧ RH B n po m r T w) := by
  unfold fm_isDoingHere
  have cm := hS.lt hc (by omega)
  refine wl_bind (R := fun w => RSt B n po (c + 1) p w ∧ Nx T w (E (c + 1))) ?_ (fun q1 h1 => ?_)
  · rcases k with k | k
    · exact um_passK (i := 12) hS hB hc (by decide) k h
    · exact um_passK (i := 13) hS hB hc (by decide) k h
  refine wl_bif (wl_letv (fun v2 _ => ?_))
  refine wl_bif (wl_letv (fun T3 e3 => ?_))
  refine wl_bif (wl_letv (fun v4 _ => ?_))
  refine wl_bif (wl_letv (fun T5 e5 => ?_))
  have y5 : ∀ r j, r ≠ 4 → T5.1 r j = q1.1 r j := fun r j hr => by rw [e5, ma_ne (Or.inl hr), e3, ma_ne (Or.inl hr)]
  have R5 : RSt B n po (c + 1) p T5 := h1.1.fr (fun r j hj => y5 r j (by omega))
  refine wl_bind (um_summed hS hB (by omega) R5) (fun q6 h6 => ?_)
  obtain ⟨s, sm, ro⟩ := h6
  rcases ro with ⟨a, f, w⟩ | ⟨a, t, cm6, R6, f6⟩
  · exact wl_b (fun _ => wl_some ⟨s, Or.inr ⟨k, Or.inr ⟨hi, s, sm, Or.inl ⟨a, rfl⟩⟩⟩, Or.inl ⟨a, rfl, w⟩⟩) (fun b' => by rw [f] at b'; cases b')
  refine wl_b (fun b' => by rw [t] at b'; cases b') (fun _ => ?_)
  refine wl_bif (wl_letv (fun v8 _ => ?_))
  refine wl_bif (wl_letv (fun T9 e9 => ?_))
  refine wl_bif (wl_letv (fun T10 e10 => ?_))
  have y10 : ∀ r j, r ≠ 4 → T10.1 r j = q6.2.1 r j := fun r j hr => by rw [e10, ma_ne (Or.inl hr), e9, ma_ne (Or.inl hr)]
  have R10 : RSt B n po s.2.1 s.2.2 T10 := R6.fr (fun r j hj => y10 r j (by omega))
  have H10 : ∀ r j, r ≠ 2 → r ≠ 3 → r ≠ 4 → (r ≠ 0 ∨ (j ≠ 8 ∧ j ≠ 9 ∧ j ≠ 10 ∧ j ≠ 12)) → T10.1 r j = T.1 r j := fun r j a b d e => by rw [y10 r j d, f6 r j a b e, y5 r j d, h1.2.2 r j (by omega)]
  refine wl_bind (R := fun w : Bool × mT => (w.1 = true ∧ K.1 s.2.1 = 314 ∧ RSt B n po (s.2.1 + 1) s.2.2 w.2 ∧ ∃ q, Nx T10 w.2 q) ∨ (w.1 = false ∧ K.1 s.2.1 ≠ 314 ∧ RSt B n po s.2.1 s.2.2 w.2 ∧ ∃ q, Nx T10 w.2 q)) ?_ (fun q11 h11 => ?_)
  · unfold fm_takesWord
    refine wl_bind (um_wordK (i := 14) hS hB cm6 (by decide) (by decide +kernel) R10) (fun q h' => ?_)
    obtain ⟨Rq, xq, yq, nq⟩ := h'
    refine wl_b (fun b => wl_some (Or.inr ⟨rfl, nq b, Rq.s hS hB cm6, _, xq⟩)) (fun b => ?_)
    exact wl_bind (um_passK (i := 14) hS hB cm6 (by decide) (yq b) Rq) (fun q3 h3 => wl_some (Or.inl ⟨rfl, yq b, h3.1, _, xq.trans h3.2⟩))
  have fin : ∀ (q : mT) (c' p' : Nat) (vv ww : Int32) (i1 i2 : Nat), c' ≤ m → RSt B n po c' p' q → Gm T10 q → CLS K i c p (0, c', p') → wl (some (true, ma (ma q 4 i1 vv) 5 i2 ww)) (fun w => ∃ r, CLS K i c p r ∧ RH B n po m r T w) := by
    intro q c' p' vv ww i1 i2 hc' R g cl
    have yf : ∀ r j, r ≠ 4 → r ≠ 5 → (ma (ma q 4 i1 vv) 5 i2 ww).1 r j = q.1 r j := fun r j h4 h5 => by rw [ma_ne (Or.inl h5), ma_ne (Or.inl h4)]
    refine wl_some ⟨(0, c', p'), cl, Or.inr ⟨rfl, rfl, hc', R.fr (fun r j hj => yf r j (by omega) (by omega)), fun r j a b d e f g' => ?_, ?_⟩⟩
    · dsimp only
      rw [yf r j d e, g r j a b f (by omega), H10 r j a b d (by omega)]
    · dsimp only
      rw [yf 0 14 (by decide) (by decide), g 0 14 (by decide) (by decide) (by decide) (Or.inr (by decide)), H10 0 14 (by decide) (by decide) (by decide) (Or.inr (by decide))]
  rcases h11 with ⟨t11, k14, R11, q, x11⟩ | ⟨t11, k14, R11, q, x11⟩
  · refine wl_b (fun b' => by rw [t11] at b'; cases b') (fun _ => ?_)
    have cm7 := hS.lt cm6 (by omega)
    refine wl_bif (wl_letv (fun v17 _ => ?_))
    refine wl_bif (wl_letv (fun T18 e18 => ?_))
    have y18 : ∀ r j, r ≠ 4 → T18.1 r j = q11.2.1 r j := fun r j hr => by rw [e18, ma_ne (Or.inl hr)]
    refine wl_bind (um_tested hS hB (by omega) (R11.fr (fun r j hj => y18 r j (by omega)))) (fun q19 h19 => ?_)
    obtain ⟨r, mr, rg⟩ := h19
    have cl : CLS K i c p r := Or.inr ⟨k, Or.inr ⟨hi, s, sm, Or.inr ⟨a, Or.inl ⟨k14, mr⟩⟩⟩⟩
    rcases rg with ⟨a2, f2, w2⟩ | ⟨a2, t2, cm2, R2, g2⟩
    · exact wl_b (fun _ => wl_some ⟨r, cl, Or.inl ⟨a2, rfl, w2⟩⟩) (fun b' => by rw [f2] at b'; cases b')
    refine wl_b (fun b' => by rw [t2] at b'; cases b') (fun _ => ?_)
    refine wl_bif (wl_letv (fun v21 _ => ?_))
    refine wl_bif (wl_letv (fun T22 e22 => ?_))
    refine wl_bif (wl_letv (fun v23 _ => ?_))
    refine wl_bif (wl_letv (fun T24 e24 => ?_))
    rw [e24, e22]
    have er : r = (0, r.2.1, r.2.2) := by rw [← a2]
    rw [er] at cl
    have yt : ∀ r j, r ≠ 2 → r ≠ 3 → r ≠ 4 → r ≠ 7 → (r ≠ 0 ∨ (j ≠ 8 ∧ j ≠ 9 ∧ j ≠ 10 ∧ j ≠ 12 ∧ j ≠ 13 ∧ j ≠ 16)) → q19.2.1 r j = T10.1 r j := fun r j a b d e f => by rw [g2 r j a b e f, y18 r j d, x11.2 r j (by omega)]
    have yf : ∀ (vv ww : Int32) (i1 i2 : Nat) r j, r ≠ 4 → r ≠ 5 → (ma (ma q19.2 4 i1 vv) 5 i2 ww).1 r j = q19.2.1 r j := fun vv ww i1 i2 r j h4 h5 => by rw [ma_ne (Or.inl h5), ma_ne (Or.inl h4)]
    refine wl_some ⟨(0, r.2.1, r.2.2), cl, Or.inr ⟨rfl, rfl, cm2, R2.fr (fun r j hj => yf _ _ _ _ r j (by omega) (by omega)), fun r j a b d e f g' => ?_, ?_⟩⟩
    · dsimp only
      rw [yf _ _ _ _ r j d e, yt r j a b d f (by omega), H10 r j a b d (by omega)]
    · dsimp only
      rw [yf _ _ _ _ 0 14 (by decide) (by decide), yt 0 14 (by decide) (by decide) (by decide) (by decide) (Or.inr (by decide)), H10 0 14 (by decide) (by decide) (by decide) (Or.inr (by decide))]
  · refine wl_b (fun _ => ?_) (fun b' => by rw [t11] at b'; cases b')
    refine wl_bif (wl_letv (fun v13 _ => ?_))
    refine wl_bif (wl_letv (fun T14 e14 => ?_))
    refine wl_bif (wl_letv (fun v15 _ => ?_))
    refine wl_bif (wl_letv (fun T16 e16 => ?_))
    rw [e16, e14]
    refine fin _ _ _ _ _ _ _ cm6 R11 (Gm.f (Fm.nx x11)) (Or.inr ⟨k, Or.inr ⟨hi, s, sm, Or.inr ⟨a, Or.inr ⟨k14, ?_⟩⟩⟩⟩)
    rw [← a]
theorem um_clauseHere {c p i : Nat} {T : mT} (hS : STR B n K m E po) (hB : BY B n) (hc : c ≤ m) (h11 : (T.1 0 11).toInt ≠ 6) (h14 : (T.1 0 14).toInt = (i : Int)) (hi : i ≤ 12) (h : RSt B n po c p T) : wl (fm_clauseHere T) (fun w => ∃ r, CLS K i c p r ∧ ((r.1 ≠ 0 ∧ w.1 = false ∧ (w.2.1 0 9).toInt = r.1) ∨ (r.1 = 0 ∧ w.1 = true ∧ r.2.1 ≤ m ∧ i < 12 ∧ RSt B n po r.2.1 r.2.2 w.2 ∧ Hm T w.2 ∧ (w.2.1 0 14).toInt = (i : Int) + 1))) := by
  unfold fm_clauseHere
  have l_0 : (0 : Int32).toInt = 0 := by decide
  have l_1 : (1 : Int32).toInt = 1 := by decide
  have l_6 : (6 : Int32).toInt = 6 := by decide
  have l_12 : (12 : Int32).toInt = 12 := by decide
  refine wl_bind (um_seeK hS hB hc h) (fun q1 h1 => ?_)
  obtain ⟨R1, x1, _⟩ := h1
  refine wl_bind (R := fun w : Int32 => w = 0) ?_ (fun w2 e2 => ?_)
  · refine wl_eq (fun z => ?_) (fun _ => wl_some rfl)
    rw [x1.2 0 11 (by decide)] at z
    exfalso
    omega
  subst e2
  rw [if_pos (rfl : (0 : Int32) = 0)]
  have go : ∀ q : mT, (K.1 c = 312 ∨ K.1 c = 313) → RQt B n po c p q → Nx T q (po c) → wl (Option.bind (if (0 : Int32) = 0 then (some (12)) else (some (40)) : Option (Int32)) fun w20 => if (q.1 0 14) = w20 then ((fm_fails 4 (q1.2.1 0 8) q).bind fun q30 => some (q30.1, q30.2)) else (letv (mz q 14 ((q.1 0 14) + 1)) fun T23 => if (0 : Int32) = 0 then ((fm_isWord 1952803948 T23).bind fun q25 => if (b2i q25.1) = 0 then ((fm_isDoingHere 1 q25.2).bind fun q27 => some (q27.1, q27.2)) else ((fm_isDoingHere 0 q25.2).bind fun q28 => some (q28.1, q28.2))) else ((fm_islandLineHere (q1.2.1 0 8) T23).bind fun q29 => some (q29.1, q29.2)))) (fun w => ∃ r, CLS K i c p r ∧ ((r.1 ≠ 0 ∧ w.1 = false ∧ (w.2.1 0 9).toInt = r.1) ∨ (r.1 = 0 ∧ w.1 = true ∧ r.2.1 ≤ m ∧ i < 12 ∧ RSt B n po r.2.1 r.2.2 w.2 ∧ Hm T w.2 ∧ (w.2.1 0 14).toInt = (i : Int) + 1))) := by
    intro q kk R x
    rw [if_pos (rfl : (0 : Int32) = 0)]
    refine wl_bind (wl_some (Q := fun w : Int32 => w = 12) rfl) (fun w20 e20 => ?_)
    subst e20
    have e14 : q.1 0 14 = T.1 0 14 := x.2 0 14 (by decide)
    refine wl_eq (fun z => ?_) (fun z => ?_)
    · rw [e14] at z
      exact wl_bind (um_failK hS hB hc R.2.2.1 R1.2.1 (by decide) (by decide) (by decide)) (fun q30 h30 => wl_some ⟨bdc K c 4, Or.inr ⟨kk, Or.inl ⟨by omega, rfl⟩⟩, Or.inl ⟨h30.2.2, h30.1, h30.2.1⟩⟩)
    · rw [e14] at z
      have i12 : i < 12 := by omega
      have u := tA (a := q.1 0 14) (b := 1) (by rw [e14]; omega) (by rw [e14]; omega)
      refine wl_letv (fun T23 e23 => ?_)
      have y23 : ∀ r j, (r ≠ 0 ∨ j ≠ 14) → T23.1 r j = q.1 r j := fun r j hj => by rw [e23]; exact mz_ne hj
      have v14 : (T23.1 0 14).toInt = (i : Int) + 1 := by rw [e23, mz_at, u, e14, h14, l_1]
      have S23 : RSt B n po c p T23 := (R.s hS hB hc).fr (fun r j hj => y23 r j (by omega))
      rw [if_pos (rfl : (0 : Int32) = 0)]
      refine wl_bind (um_wordK (i := 12) hS hB hc (by decide) (by decide +kernel) S23) (fun q25 h25 => ?_)
      obtain ⟨R25, x25, _⟩ := h25
      have dg : ∀ v : Int32, wl ((fm_isDoingHere v q25.2).bind fun q27 => some (q27.1, q27.2)) (fun w => ∃ r, CLS K i c p r ∧ ((r.1 ≠ 0 ∧ w.1 = false ∧ (w.2.1 0 9).toInt = r.1) ∨ (r.1 = 0 ∧ w.1 = true ∧ r.2.1 ≤ m ∧ i < 12 ∧ RSt B n po r.2.1 r.2.2 w.2 ∧ Hm T w.2 ∧ (w.2.1 0 14).toInt = (i : Int) + 1))) := by
        intro v
        refine wl_bind (um_isDoingHere (i := i) hS hB hc kk i12 R25) (fun q27 h27 => wl_some ?_)
        obtain ⟨r, cl, rh⟩ := h27
        refine ⟨r, cl, ?_⟩
        rcases rh with ⟨a, f, w⟩ | ⟨a, t, cm, R', hm, e⟩
        · exact Or.inl ⟨a, f, w⟩
        · refine Or.inr ⟨a, t, cm, i12, R', fun r j b2 b3 b4 b5 b7 b0 => ?_, ?_⟩
          · dsimp only
            rw [hm r j b2 b3 b4 b5 b7 b0, x25.2 r j (by omega), y23 r j (by omega), x.2 r j (by omega)]
          · dsimp only
            rw [e, x25.2 0 14 (by decide)]
            exact v14
      exact wl_b (fun _ => dg 1) (fun _ => dg 0)
  refine wl_bind (um_wordK (i := 12) hS hB hc (by decide) (by decide +kernel) (R1.s hS hB hc)) (fun q5 h5 => ?_)
  obtain ⟨R5, x5, y5, n5⟩ := h5
  refine wl_b (fun b => ?_) (fun b => go q5.2 (Or.inl (y5 b)) R5 (x1.trans x5))
  refine wl_bind (um_wordK (i := 13) hS hB hc (by decide) (by decide +kernel) (R5.s hS hB hc)) (fun q18 h18 => ?_)
  obtain ⟨R18, x18, y18, n18⟩ := h18
  refine wl_b (fun b' => ?_) (fun b' => go q18.2 (Or.inr (y18 b')) R18 ((x1.trans x5).trans x18))
  have n1 := n5 b
  have n2 := n18 b'
  exact wl_bind (um_failK hS hB hc R18.2.2.1 R1.2.1 l_0 (by decide) (by decide)) (fun q31 h31 => wl_some ⟨bdc K c 0, Or.inl ⟨fun z => by rcases z with z | z; exact n1 z; exact n2 z, rfl⟩, Or.inl ⟨h31.2.2, h31.1, h31.2.1⟩⟩)
theorem um_readsAll_L35 (hS : STR B n K m E po) (hB : BY B n) : ∀ (N : Nat) (T : mT) (c p i : Nat), c ≤ m → RSt B n po c p T → (T.1 0 11).toInt ≠ 6 → (T.1 0 14).toInt = ((i + 1 : Nat) : Int) → i < 12 → wl (fm_readsAll_L35 N 1 T) (fun w => (w.1 = 0 ∧ ∃ r, r.1 ≠ 0 ∧ (w.2.1 0 9).toInt = r.1 ∧ K.1 c = 59 ∧ ALL K (i + 1) (c + 1) p r) ∨ (w.1 = 1 ∧ ∃ c' p', c' ≤ m ∧ RSt B n po c' p' w.2 ∧ Hm T w.2 ∧ K.1 c' ≠ 59 ∧ ((c' = c ∧ p' = p) ∨ (K.1 c = 59 ∧ (K.1 c' = 260 → ALL K (i + 1) (c + 1) p (0, c', p')) ∧ (K.1 c' ≠ 260 → ALL K (i + 1) (c + 1) p (bdc K c' 0)))))) := by
  have l_59 : (59 : Int32).toInt = 59 := by decide
  intro N
  induction N with
  | zero => intro T c p i _ _ _ _ _; exact wl_none
  | succ N ih =>
    intro T c p i hc h h11 h14 hi
    rw [fm_readsAll_L35]
    refine wl_if (fun z => absurd z (by decide)) (fun _ => ?_)
    refine wl_bind (um_seeK hS hB hc h) (fun q8 h8 => ?_)
    obtain ⟨R8, x8, s8, _⟩ := h8
    refine wl_eq (fun z => ?_) (fun z => wl_some (Or.inr ⟨rfl, c, p, hc, R8.s hS hB hc, Hm.g (Gm.f (Fm.nx x8)), fun k => z (by rw [(s8 59 (by decide)).mpr k]; exact l_59.symm), Or.inl ⟨rfl, rfl⟩⟩))
    have k59 := (s8 59 (by decide)).mp (by omega)
    have cm := hS.lt hc (by omega)
    refine wl_letv (fun T10 e10 => ?_)
    have o := um_onK hS hB hc (s := 59) (by decide) k59 R8
    rw [← e10] at o
    have x10 := x8.trans o.2
    refine wl_bind (um_clauseHere (i := i + 1) hS hB (by omega) (by rw [x10.2 0 11 (by decide)]; exact h11) (by rw [x10.2 0 14 (by decide)]; exact h14) (by omega) o.1) (fun q11 h11' => ?_)
    obtain ⟨r, cl, rr⟩ := h11'
    rcases rr with ⟨a, f, w⟩ | ⟨a, t, cm2, i12, R, hm, e14⟩
    · rw [f]
      cases N with
      | zero => exact wl_none
      | succ N =>
        rw [show b2i false = 0 from rfl, fm_readsAll_L35]
        exact wl_if (fun _ => wl_some (Or.inl ⟨rfl, r, a, w, k59, ALL_bad cl a⟩)) (fun z' => absurd rfl z')
    · rw [t, show b2i true = 1 from rfl]
      have H : Hm T q11.2 := (Hm.g (Gm.f (Fm.nx x10))).trans hm
      refine wl_mono (ih q11.2 r.2.1 r.2.2 (i + 1) cm2 R (by rw [H 0 11 (by decide) (by decide) (by decide) (by decide) (by decide) (Or.inr (by decide))]; exact h11) (by rw [e14]; rfl) (by omega)) (fun w hw => ?_)
      rcases hw with ⟨w0, s, z1, z2, z3, z4⟩ | ⟨w1, c', p', z1, z2, z3, z4, z5⟩
      · exact Or.inl ⟨w0, s, z1, z2, k59, ALL_go cl a z3 z4⟩
      · refine Or.inr ⟨w1, c', p', z1, z2, H.trans z3, z4, Or.inr ⟨k59, fun k => ?_, fun k => ?_⟩⟩
        · rcases z5 with ⟨rfl, rfl⟩ | ⟨y1, y2, _⟩
          · have er : r = (0, r.2.1, r.2.2) := by rw [← a]
            rw [← er]
            exact ALL_end cl a z4 k
          · exact ALL_go cl a y1 (y2 k)
        · rcases z5 with ⟨rfl, rfl⟩ | ⟨y1, _, y3⟩
          · exact ALL_more cl a z4 k
          · exact ALL_go cl a y1 (y3 k)
end RTS
