/-! ===== what both readers do to a row of signs; rules for what an end would tell ===== -/
section WL
variable {α β γ : Type} {Q : α → Prop}
def wl {α : Type} (x : Option α) (Q : α → Prop) : Prop := ∀ a, x = some a → Q a
theorem wl_some {a : α} (h : Q a) : wl (some a) Q := fun b e => by rw [← Option.some.inj e]; exact h
theorem wl_none : wl (none : Option α) Q := fun _ e => by cases e
theorem wl_bif {b : Bool} {x : Option α} (h : wl x Q) : wl (bif b then x else none) Q := by
  cases b with
  | true => exact h
  | false => exact wl_none
theorem wl_letv {x : β} {f : β → Option α} (h : ∀ a, a = x → wl (f a) Q) : wl (letv x f) Q := h x rfl
theorem wl_bind {x : Option β} {f : β → Option α} {R : β → Prop} (hx : wl x R) (h : ∀ a, R a → wl (f a) Q) : wl (x.bind f) Q := by
  intro a e
  cases x with
  | none => cases e
  | some b => exact h b (hx b rfl) a e
theorem wl_mono {x : Option α} {R : α → Prop} (hx : wl x R) (h : ∀ a, R a → Q a) : wl x Q := fun a e => h a (hx a e)
theorem wl_if {c : Prop} {D : Decidable c} {e f : Option α} (kt : c → wl e Q) (kf : ¬ c → wl f Q) : wl (@ite _ c D e f) Q := by
  by_cases h : c
  · rw [if_pos h]; exact kt h
  · rw [if_neg h]; exact kf h
theorem wl_lt {a b : Int32} {D : Decidable (a < b)} {e f : Option α} (kt : a.toInt < b.toInt → wl e Q) (kf : b.toInt ≤ a.toInt → wl f Q) : wl (@ite _ (a < b) D e f) Q :=
  wl_if (fun h => kt (Int32.lt_iff_toInt_lt.mp h)) (fun h => kf (Int.not_lt.mp (fun z => h (Int32.lt_iff_toInt_lt.mpr z))))
theorem wl_le {a b : Int32} {D : Decidable (a ≤ b)} {e f : Option α} (kt : a.toInt ≤ b.toInt → wl e Q) (kf : b.toInt < a.toInt → wl f Q) : wl (@ite _ (a ≤ b) D e f) Q :=
  wl_if (fun h => kt (Int32.le_iff_toInt_le.mp h)) (fun h => kf (Int.not_le.mp (fun z => h (Int32.le_iff_toInt_le.mpr z))))
theorem wl_eq {a b : Int32} {D : Decidable (a = b)} {e f : Option α} (kt : a.toInt = b.toInt → wl e Q) (kf : a.toInt ≠ b.toInt → wl f Q) : wl (@ite _ (a = b) D e f) Q :=
  wl_if (fun h => kt (by rw [h])) (fun h => kf (fun z => h (Int32.toInt_inj.mp z)))
theorem wl_b {b : Bool} {D : Decidable (b2i b = 0)} {e f : Option α} (kt : b = false → wl e Q) (kf : b = true → wl f Q) : wl (@ite _ (b2i b = 0) D e f) Q :=
  wl_if (fun h => kt (b2i_f h)) (fun h => kf (b2i_t h))
theorem wl_any {x : Option α} : wl x (fun _ => True) := fun _ _ => trivial
theorem wl_and {x : Option α} {A B : α → Prop} (h : wl x A) (g : wl x B) : wl x (fun a => A a ∧ B a) := fun a e => ⟨h a e, g a e⟩
theorem wp_wl {x : Option α} {A B : α → Prop} (h : wp x A) (g : wl x B) : wp x (fun a => A a ∧ B a) := by
  obtain ⟨a, e, ha⟩ := h
  exact ⟨a, e, ha, g a e⟩
theorem wl_of {x : Option α} {A : α → Prop} (h : wp x A) : wl x A := by
  obtain ⟨a, e, ha⟩ := h
  intro b f
  rw [e] at f
  rw [← Option.some.inj f]
  exact ha
end WL
/-- kinds, numbers, places of a row of signs -/
abbrev KS : Type := (Nat → Int) × (Nat → Int) × (Nat → Int)
abbrev RS3 : Type := Int × Nat × Nat
def bdc (K : KS) (c : Nat) (why : Int) : RS3 := (1 + 8 * K.2.2 c + why, 0, 0)
def VALf (K : KS) (c p : Nat) : RS3 := if K.1 c = 258 then (if K.2.1 c = -1 then bdc K c 1 else if 60 ≤ p then bdc K c 3 else (0, c + 1, p + 1)) else if 300 ≤ K.1 c ∧ K.1 c < 308 then (if 60 ≤ p then bdc K c 3 else (0, c + 1, p + 1)) else bdc K c 0
abbrev isOp (k : Int) : Prop := k = 43 ∨ k = 45 ∨ k = 42 ∨ k = 47 ∨ k = 37
abbrev isCm (k : Int) : Prop := k = 60 ∨ k = 61 ∨ k = 62 ∨ k = 256 ∨ k = 257
def OPSn (K : KS) : Nat → Nat → Nat → RS3 → Prop
  | 0, _, _, _ => False
  | N + 1, c, p, r => (¬ isOp (K.1 c) ∧ r = (0, c, p)) ∨ (isOp (K.1 c) ∧ (((VALf K (c + 1) p).1 ≠ 0 ∧ r = VALf K (c + 1) p) ∨ ((VALf K (c + 1) p).1 = 0 ∧ OPSn K N (VALf K (c + 1) p).2.1 (VALf K (c + 1) p).2.2 r)))
def OPS (K : KS) (c p : Nat) (r : RS3) : Prop := ∃ N, OPSn K N c p r
theorem OPSn_det {K : KS} : ∀ (N N' c p : Nat) (r r' : RS3), OPSn K N c p r → OPSn K N' c p r' → r = r' := by
  intro N
  induction N with
  | zero => intro N' c p r r' h; exact h.elim
  | succ N ih =>
    intro N' c p r r' h h'
    cases N' with
    | zero => exact h'.elim
    | succ N' =>
      rcases h with ⟨a, rfl⟩ | ⟨a, ⟨b, rfl⟩ | ⟨b, h⟩⟩ <;> rcases h' with ⟨a', rfl⟩ | ⟨a', ⟨b', rfl⟩ | ⟨b', h'⟩⟩
      · rfl
      · exact absurd a' a
      · exact absurd a' a
      · exact absurd a a'
      · rfl
      · exact absurd b' b
      · exact absurd a a'
      · exact absurd b b'
      · exact ih N' _ _ _ _ h h'
theorem OPS_det {K : KS} {c p : Nat} {r r' : RS3} (h : OPS K c p r) (h' : OPS K c p r') : r = r' := by
  obtain ⟨N, h⟩ := h
  obtain ⟨N', h'⟩ := h'
  exact OPSn_det N N' c p r r' h h'
theorem OPS_stop {K : KS} {c p : Nat} (h : ¬ isOp (K.1 c)) : OPS K c p (0, c, p) := ⟨1, Or.inl ⟨h, rfl⟩⟩
theorem OPS_bad {K : KS} {c p : Nat} (h : isOp (K.1 c)) (v : (VALf K (c + 1) p).1 ≠ 0) : OPS K c p (VALf K (c + 1) p) := ⟨1, Or.inr ⟨h, Or.inl ⟨v, rfl⟩⟩⟩
theorem OPS_go {K : KS} {c p : Nat} {r : RS3} (h : isOp (K.1 c)) (v : (VALf K (c + 1) p).1 = 0) (g : OPS K (VALf K (c + 1) p).2.1 (VALf K (c + 1) p).2.2 r) : OPS K c p r := by
  obtain ⟨N, g⟩ := g
  exact ⟨N + 1, Or.inr ⟨h, Or.inr ⟨v, g⟩⟩⟩
def SUM (K : KS) (c p : Nat) (r : RS3) : Prop := ((VALf K c p).1 ≠ 0 ∧ r = VALf K c p) ∨ ((VALf K c p).1 = 0 ∧ OPS K (VALf K c p).2.1 (VALf K c p).2.2 r)
theorem SUM_det {K : KS} {c p : Nat} {r r' : RS3} (h : SUM K c p r) (h' : SUM K c p r') : r = r' := by
  rcases h with ⟨a, rfl⟩ | ⟨a, h⟩ <;> rcases h' with ⟨a', rfl⟩ | ⟨a', h'⟩
  · rfl
  · exact absurd a' a
  · exact absurd a a'
  · exact OPS_det h h'
def CMP (K : KS) (c p : Nat) (r : RS3) : Prop := ∃ s, SUM K c p s ∧ ((s.1 ≠ 0 ∧ r = s) ∨ (s.1 = 0 ∧ ((¬ isCm (K.1 s.2.1) ∧ r = bdc K s.2.1 0) ∨ (isCm (K.1 s.2.1) ∧ ((60 ≤ s.2.2 ∧ r = bdc K s.2.1 3) ∨ (s.2.2 < 60 ∧ SUM K (s.2.1 + 1) (s.2.2 + 1) r))))))
theorem CMP_det {K : KS} {c p : Nat} {r r' : RS3} (h : CMP K c p r) (h' : CMP K c p r') : r = r' := by
  obtain ⟨s, hs, h⟩ := h
  obtain ⟨s', hs', h'⟩ := h'
  have e := SUM_det hs hs'
  subst e
  rcases h with ⟨a, rfl⟩ | ⟨a, ⟨b, rfl⟩ | ⟨b, ⟨d, rfl⟩ | ⟨d, h⟩⟩⟩ <;> rcases h' with ⟨a', rfl⟩ | ⟨a', ⟨b', rfl⟩ | ⟨b', ⟨d', rfl⟩ | ⟨d', h'⟩⟩⟩
  · rfl
  · exact absurd a' a
  · exact absurd a' a
  · exact absurd a' a
  · exact absurd a a'
  · rfl
  · exact absurd b' b
  · exact absurd b' b
  · exact absurd a a'
  · exact absurd b b'
  · rfl
  · omega
  · exact absurd a a'
  · exact absurd b b'
  · omega
  · exact SUM_det h h'
/-- what is open without its nots on top -/
def dn : List Bool → List Bool
  | [] => []
  | true :: l => true :: l
  | false :: l => dn l
theorem dn_dn : ∀ l : List Bool, dn (dn l) = dn l := by
  intro l
  induction l with
  | nil => rfl
  | cons b l ih =>
    cases b with
    | true => rfl
    | false => exact ih
def MRn (K : KS) : Nat → Bool → List Bool → Nat → Nat → RS3 → Prop
  | 0, _, _, _, _, _ => False
  | N + 1, true, l, c, p, r => ((K.1 c = 317 ∨ K.1 c = 91) ∧ 10 ≤ l.length ∧ r = bdc K c 2) ∨ (K.1 c = 317 ∧ l.length < 10 ∧ MRn K N true (false :: l) (c + 1) p r) ∨ (K.1 c = 91 ∧ l.length < 10 ∧ MRn K N true (true :: l) (c + 1) p r) ∨ (K.1 c ≠ 317 ∧ K.1 c ≠ 91 ∧ ∃ s, CMP K c p s ∧ ((s.1 ≠ 0 ∧ r = s) ∨ (s.1 = 0 ∧ MRn K N false l s.2.1 s.2.2 r)))
  | N + 1, false, l, c, p, r => (K.1 c = 93 ∧ dn l ≠ [] ∧ MRn K N false (dn l).tail (c + 1) p r) ∨ ((K.1 c = 315 ∨ K.1 c = 316) ∧ MRn K N true (dn l) (c + 1) p r) ∨ (K.1 c ≠ 93 ∧ K.1 c ≠ 315 ∧ K.1 c ≠ 316 ∧ dn l ≠ [] ∧ r = bdc K c 0) ∨ (K.1 c ≠ 315 ∧ K.1 c ≠ 316 ∧ dn l = [] ∧ r = (0, c, p))
theorem MRn_det {K : KS} : ∀ (N N' : Nat) (m : Bool) (l : List Bool) (c p : Nat) (r r' : RS3), MRn K N m l c p r → MRn K N' m l c p r' → r = r' := by
  intro N
  induction N with
  | zero => intro N' m l c p r r' h; exact h.elim
  | succ N ih =>
    intro N' m l c p r r' h h'
    cases N' with
    | zero => cases m <;> exact h'.elim
    | succ N' =>
      cases m with
      | true =>
        rcases h with ⟨a, b, rfl⟩ | ⟨a, b, h⟩ | ⟨a, b, h⟩ | ⟨a, b, s, hs, h⟩ <;> rcases h' with ⟨a', b', rfl⟩ | ⟨a', b', h'⟩ | ⟨a', b', h'⟩ | ⟨a', b', s', hs', h'⟩
        · rfl
        · omega
        · omega
        · omega
        · omega
        · exact ih N' _ _ _ _ _ _ h h'
        · omega
        · omega
        · omega
        · omega
        · exact ih N' _ _ _ _ _ _ h h'
        · omega
        · omega
        · omega
        · omega
        · have e := CMP_det hs hs'
          subst e
          rcases h with ⟨d, rfl⟩ | ⟨d, h⟩ <;> rcases h' with ⟨d', rfl⟩ | ⟨d', h'⟩
          · rfl
          · exact absurd d' d
          · exact absurd d d'
          · exact ih N' _ _ _ _ _ _ h h'
      | false =>
        rcases h with ⟨a, b, h⟩ | ⟨a, h⟩ | ⟨a, b, d, e, rfl⟩ | ⟨a, b, d, rfl⟩ <;> rcases h' with ⟨a', b', h'⟩ | ⟨a', h'⟩ | ⟨a', b', d', e', rfl⟩ | ⟨a', b', d', rfl⟩
        · exact ih N' _ _ _ _ _ _ h h'
        · omega
        · omega
        · exact absurd d' b
        · omega
        · exact ih N' _ _ _ _ _ _ h h'
        · omega
        · omega
        · omega
        · omega
        · rfl
        · exact absurd d' e
        · exact absurd d b'
        · omega
        · exact absurd d e'
        · rfl
def MR (K : KS) (m : Bool) (l : List Bool) (c p : Nat) (r : RS3) : Prop := ∃ N, MRn K N m l c p r
theorem MR_det {K : KS} {m : Bool} {l : List Bool} {c p : Nat} {r r' : RS3} (h : MR K m l c p r) (h' : MR K m l c p r') : r = r' := by
  obtain ⟨N, h⟩ := h
  obtain ⟨N', h'⟩ := h'
  exact MRn_det N N' m l c p r r' h h'
theorem MR_deep {K : KS} {l : List Bool} {c p : Nat} (h : K.1 c = 317 ∨ K.1 c = 91) (g : 10 ≤ l.length) : MR K true l c p (bdc K c 2) := ⟨1, Or.inl ⟨h, g, rfl⟩⟩
theorem MR_not {K : KS} {l : List Bool} {c p : Nat} {r : RS3} (h : K.1 c = 317) (g : l.length < 10) (k : MR K true (false :: l) (c + 1) p r) : MR K true l c p r := by
  obtain ⟨N, k⟩ := k
  exact ⟨N + 1, Or.inr (Or.inl ⟨h, g, k⟩)⟩
theorem MR_br {K : KS} {l : List Bool} {c p : Nat} {r : RS3} (h : K.1 c = 91) (g : l.length < 10) (k : MR K true (true :: l) (c + 1) p r) : MR K true l c p r := by
  obtain ⟨N, k⟩ := k
  exact ⟨N + 1, Or.inr (Or.inr (Or.inl ⟨h, g, k⟩))⟩
theorem MR_cb {K : KS} {l : List Bool} {c p : Nat} {s : RS3} (h1 : K.1 c ≠ 317) (h2 : K.1 c ≠ 91) (hs : CMP K c p s) (hn : s.1 ≠ 0) : MR K true l c p s := ⟨1, Or.inr (Or.inr (Or.inr ⟨h1, h2, s, hs, Or.inl ⟨hn, rfl⟩⟩))⟩
theorem MR_co {K : KS} {l : List Bool} {c p : Nat} {s r : RS3} (h1 : K.1 c ≠ 317) (h2 : K.1 c ≠ 91) (hs : CMP K c p s) (hn : s.1 = 0) (k : MR K false l s.2.1 s.2.2 r) : MR K true l c p r := by
  obtain ⟨N, k⟩ := k
  exact ⟨N + 1, Or.inr (Or.inr (Or.inr ⟨h1, h2, s, hs, Or.inr ⟨hn, k⟩⟩))⟩
theorem MR_cl {K : KS} {l : List Bool} {c p : Nat} {r : RS3} (h : K.1 c = 93) (g : dn l ≠ []) (k : MR K false (dn l).tail (c + 1) p r) : MR K false l c p r := by
  obtain ⟨N, k⟩ := k
  exact ⟨N + 1, Or.inl ⟨h, g, k⟩⟩
theorem MR_jn {K : KS} {l : List Bool} {c p : Nat} {r : RS3} (h : K.1 c = 315 ∨ K.1 c = 316) (k : MR K true (dn l) (c + 1) p r) : MR K false l c p r := by
  obtain ⟨N, k⟩ := k
  exact ⟨N + 1, Or.inr (Or.inl ⟨h, k⟩)⟩
theorem MR_in {K : KS} {l : List Bool} {c p : Nat} (h1 : K.1 c ≠ 93) (h2 : K.1 c ≠ 315) (h3 : K.1 c ≠ 316) (g : dn l ≠ []) : MR K false l c p (bdc K c 0) := ⟨1, Or.inr (Or.inr (Or.inl ⟨h1, h2, h3, g, rfl⟩))⟩
theorem MR_dn {K : KS} {l : List Bool} {c p : Nat} (h2 : K.1 c ≠ 315) (h3 : K.1 c ≠ 316) (g : dn l = []) : MR K false l c p (0, c, p) := ⟨1, Or.inr (Or.inr (Or.inr ⟨h2, h3, g, rfl⟩))⟩
theorem MR_eq {K : KS} {l l' : List Bool} {c p : Nat} {r : RS3} (e : dn l = dn l') (k : MR K false l c p r) : MR K false l' c p r := by
  obtain ⟨N, k⟩ := k
  cases N with
  | zero => exact k.elim
  | succ N =>
    refine ⟨N + 1, ?_⟩
    unfold MRn at k ⊢
    rw [← e]
    exact k
def CLS (K : KS) (i c p : Nat) (r : RS3) : Prop := (¬ (K.1 c = 312 ∨ K.1 c = 313) ∧ r = bdc K c 0) ∨ ((K.1 c = 312 ∨ K.1 c = 313) ∧ ((12 ≤ i ∧ r = bdc K c 4) ∨ (i < 12 ∧ ∃ s, SUM K (c + 1) p s ∧ ((s.1 ≠ 0 ∧ r = s) ∨ (s.1 = 0 ∧ ((K.1 s.2.1 = 314 ∧ MR K true [] (s.2.1 + 1) s.2.2 r) ∨ (K.1 s.2.1 ≠ 314 ∧ r = s)))))))
theorem CLS_det {K : KS} {i c p : Nat} {r r' : RS3} (h : CLS K i c p r) (h' : CLS K i c p r') : r = r' := by
  rcases h with ⟨a, rfl⟩ | ⟨a, ⟨b, rfl⟩ | ⟨b, s, hs, h⟩⟩ <;> rcases h' with ⟨a', rfl⟩ | ⟨a', ⟨b', rfl⟩ | ⟨b', s', hs', h'⟩⟩
  · rfl
  · exact absurd a' a
  · exact absurd a' a
  · exact absurd a a'
  · rfl
  · omega
  · exact absurd a a'
  · omega
  · have e := SUM_det hs hs'
    subst e
    rcases h with ⟨d, rfl⟩ | ⟨d, ⟨f, h⟩ | ⟨f, rfl⟩⟩ <;> rcases h' with ⟨d', rfl⟩ | ⟨d', ⟨f', h'⟩ | ⟨f', rfl⟩⟩
    · rfl
    · exact absurd d' d
    · rfl
    · exact absurd d d'
    · exact MR_det h h'
    · exact absurd f f'
    · rfl
    · exact absurd f' f
    · rfl
def ALLn (K : KS) : Nat → Nat → Nat → Nat → RS3 → Prop
  | 0, _, _, _, _ => False
  | N + 1, i, c, p, r => ∃ s, CLS K i c p s ∧ ((s.1 ≠ 0 ∧ r = s) ∨ (s.1 = 0 ∧ ((K.1 s.2.1 = 59 ∧ ALLn K N (i + 1) (s.2.1 + 1) s.2.2 r) ∨ (K.1 s.2.1 ≠ 59 ∧ ((K.1 s.2.1 = 260 ∧ r = s) ∨ (K.1 s.2.1 ≠ 260 ∧ r = bdc K s.2.1 0))))))
theorem ALLn_det {K : KS} : ∀ (N N' i c p : Nat) (r r' : RS3), ALLn K N i c p r → ALLn K N' i c p r' → r = r' := by
  intro N
  induction N with
  | zero => intro N' i c p r r' h; exact h.elim
  | succ N ih =>
    intro N' i c p r r' h h'
    cases N' with
    | zero => exact h'.elim
    | succ N' =>
      obtain ⟨s, hs, h⟩ := h
      obtain ⟨s', hs', h'⟩ := h'
      have e := CLS_det hs hs'
      subst e
      rcases h with ⟨d, rfl⟩ | ⟨d, ⟨f, h⟩ | ⟨f, ⟨g, rfl⟩ | ⟨g, rfl⟩⟩⟩ <;> rcases h' with ⟨d', rfl⟩ | ⟨d', ⟨f', h'⟩ | ⟨f', ⟨g', rfl⟩ | ⟨g', rfl⟩⟩⟩
      · rfl
      · exact absurd d' d
      · rfl
      · exact absurd d' d
      · exact absurd d d'
      · exact ih N' _ _ _ _ _ h h'
      · exact absurd f f'
      · exact absurd f f'
      · rfl
      · exact absurd f' f
      · rfl
      · exact absurd g g'
      · exact absurd d d'
      · exact absurd f' f
      · exact absurd g' g
      · rfl
def ALL (K : KS) (i c p : Nat) (r : RS3) : Prop := ∃ N, ALLn K N i c p r
theorem ALL_det {K : KS} {i c p : Nat} {r r' : RS3} (h : ALL K i c p r) (h' : ALL K i c p r') : r = r' := by
  obtain ⟨N, h⟩ := h
  obtain ⟨N', h'⟩ := h'
  exact ALLn_det N N' i c p r r' h h'
theorem ALL_bad {K : KS} {i c p : Nat} {s : RS3} (hs : CLS K i c p s) (h : s.1 ≠ 0) : ALL K i c p s := ⟨1, s, hs, Or.inl ⟨h, rfl⟩⟩
theorem ALL_go {K : KS} {i c p : Nat} {s r : RS3} (hs : CLS K i c p s) (h : s.1 = 0) (g : K.1 s.2.1 = 59) (k : ALL K (i + 1) (s.2.1 + 1) s.2.2 r) : ALL K i c p r := by
  obtain ⟨N, k⟩ := k
  exact ⟨N + 1, s, hs, Or.inr ⟨h, Or.inl ⟨g, k⟩⟩⟩
theorem ALL_end {K : KS} {i c p : Nat} {s : RS3} (hs : CLS K i c p s) (h : s.1 = 0) (g : K.1 s.2.1 ≠ 59) (k : K.1 s.2.1 = 260) : ALL K i c p s := ⟨1, s, hs, Or.inr ⟨h, Or.inr ⟨g, Or.inl ⟨k, rfl⟩⟩⟩⟩
theorem ALL_more {K : KS} {i c p : Nat} {s : RS3} (hs : CLS K i c p s) (h : s.1 = 0) (g : K.1 s.2.1 ≠ 59) (k : K.1 s.2.1 ≠ 260) : ALL K i c p (bdc K s.2.1 0) := ⟨1, s, hs, Or.inr ⟨h, Or.inr ⟨g, Or.inr ⟨k, rfl⟩⟩⟩⟩
