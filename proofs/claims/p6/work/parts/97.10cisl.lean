/-! ===== islands: what both readers do; the class ===== -/
abbrev CR : Type := Nat → Int
abbrev RI : Type := Int × Nat × Nat × Nat × CR
def zR : CR := fun _ => 0
/-- faces at 0 to 7, ties at 8 to 71 -/
def wR (R : CR) (k : Nat) (v : Int) : CR := fun i => if i = k then v else R i
theorem wR_at {R : CR} {k : Nat} {v : Int} : wR R k v k = v := if_pos rfl
theorem wR_ne {R : CR} {k i : Nat} {v : Int} (h : i ≠ k) : wR R k v i = R i := if_neg h
/-- the class's faces and ties -/
def HCn (b : Nat) (R : CR) (S : cT) : Prop := (∀ p, p < 8 → (S.1 (b + 1) p).toInt = R p) ∧ (∀ i, i < 64 → (S.1 (b + 5) i).toInt = R (8 + i)) ∧ (S.1 (b + 8) 3).toInt = 0 ∧ (S.1 (b + 10) 3).toInt = 0
theorem HCn.fr {b : Nat} {R : CR} {S S' : cT} (h : HCn b R S) (f : ∀ q j, (q = b + 1 ∨ q = b + 5 ∨ q = b + 8 ∨ q = b + 10) → S'.1 q j = S.1 q j) : HCn b R S' := ⟨fun p hp => by rw [f _ _ (by omega)]; exact h.1 p hp, fun i hi => by rw [f _ _ (by omega)]; exact h.2.1 i hi, by rw [f _ _ (by omega)]; exact h.2.2.1, by rw [f _ _ (by omega)]; exact h.2.2.2⟩
def bdi (K : KS) (c : Nat) (why : Int) : RI := (1 + 8 * K.2.2 c + why, 0, 0, 0, zR)
def NUMf (K : KS) (c : Nat) (lo hi : Int) : Int := if K.1 c ≠ 258 then 1 + 8 * K.2.2 c + 0 else if K.2.1 c < lo ∨ hi < K.2.1 c then 1 + 8 * K.2.2 c + 1 else 0
theorem NUMf_258 {K : KS} {c : Nat} {lo hi : Int} (h : NUMf K c lo hi = 0) (h0 : 0 ≤ K.2.2 c) : K.1 c = 258 := by
  by_cases z : K.1 c = 258
  · exact z
  · unfold NUMf at h
    rw [if_pos z] at h
    exfalso
    omega
/-- the second of two -/
def OTHf (K : KS) (c : Nat) (hi : Int) : Int := if K.1 (c + 1) = 258 ∧ K.2.1 (c + 1) = K.2.1 c then 1 + 8 * K.2.2 (c + 1) + 1 else NUMf K (c + 1) 0 hi
def ILf (K : KS) (k : Int) (c mq pp : Nat) (R : CR) : RI :=
  if k = 308 then (if NUMf K c 1 6 = 0 then (0, c + 1, (K.2.1 c).toNat, pp, R) else (NUMf K c 1 6, 0, 0, 0, zR))
  else if k = 309 then (if NUMf K c 0 (2 ^ mq - 1) = 0 then (if NUMf K (c + 1) 0 99 = 0 then (0, c + 2, mq, pp + 1, wR R pp (K.2.1 c)) else (NUMf K (c + 1) 0 99, 0, 0, 0, zR)) else (NUMf K c 0 (2 ^ mq - 1), 0, 0, 0, zR))
  else if k = 305 then (if NUMf K c 0 ((pp : Int) - 1) = 0 then (if OTHf K c ((pp : Int) - 1) = 0 then (if NUMf K (c + 2) 1 9 = 0 then (0, c + 3, mq, pp, wR R (8 + 8 * (K.2.1 c).toNat + (K.2.1 (c + 1)).toNat) (K.2.1 (c + 2))) else (NUMf K (c + 2) 1 9, 0, 0, 0, zR)) else (OTHf K c ((pp : Int) - 1), 0, 0, 0, zR)) else (NUMf K c 0 ((pp : Int) - 1), 0, 0, 0, zR))
  else if k = 310 then (if NUMf K c 0 ((pp : Int) - 1) = 0 then (if OTHf K c ((pp : Int) - 1) = 0 then (0, c + 2, mq, pp, R) else (OTHf K c ((pp : Int) - 1), 0, 0, 0, zR)) else (NUMf K c 0 ((pp : Int) - 1), 0, 0, 0, zR))
  else (if NUMf K c 0 ((pp : Int) - 1) = 0 then (0, c + 1, mq, pp, R) else (NUMf K c 0 ((pp : Int) - 1), 0, 0, 0, zR))
abbrev isW (k : Int) : Prop := k = 308 ∨ k = 309 ∨ k = 305 ∨ k = 310 ∨ k = 311
def ICLf (K : KS) (i c mq pp : Nat) (R : CR) : RI := if ¬ isW (K.1 c) then bdi K c 0 else if 40 ≤ i ∨ (K.1 c = 308 ∧ i ≠ 0) ∨ (K.1 c ≠ 308 ∧ i = 0) ∨ (K.1 c = 309 ∧ 8 ≤ pp) then bdi K c 4 else ILf K (K.1 c) (c + 1) mq pp R
def IALn (K : KS) : Nat → Nat → Nat → Nat → Nat → CR → RI → Prop
  | 0, _, _, _, _, _, _ => False
  | N + 1, i, c, mq, pp, R, r => ((ICLf K i c mq pp R).1 ≠ 0 ∧ r = ICLf K i c mq pp R) ∨ ((ICLf K i c mq pp R).1 = 0 ∧ ((K.1 (ICLf K i c mq pp R).2.1 = 59 ∧ IALn K N (i + 1) ((ICLf K i c mq pp R).2.1 + 1) (ICLf K i c mq pp R).2.2.1 (ICLf K i c mq pp R).2.2.2.1 (ICLf K i c mq pp R).2.2.2.2 r) ∨ (K.1 (ICLf K i c mq pp R).2.1 ≠ 59 ∧ ((K.1 (ICLf K i c mq pp R).2.1 = 260 ∧ (ICLf K i c mq pp R).2.2.2.1 ≠ 0 ∧ r = ICLf K i c mq pp R) ∨ (¬ (K.1 (ICLf K i c mq pp R).2.1 = 260 ∧ (ICLf K i c mq pp R).2.2.2.1 ≠ 0) ∧ r = bdi K (ICLf K i c mq pp R).2.1 0)))))
theorem IALn_det {K : KS} : ∀ (N N' i c mq pp : Nat) (R : CR) (r r' : RI), IALn K N i c mq pp R r → IALn K N' i c mq pp R r' → r = r' := by
  intro N
  induction N with
  | zero => intro N' i c mq pp R r r' h; exact h.elim
  | succ N ih =>
    intro N' i c mq pp R r r' h h'
    cases N' with
    | zero => exact h'.elim
    | succ N' =>
      rcases h with ⟨d, rfl⟩ | ⟨d, ⟨f, h⟩ | ⟨f, ⟨g, g2, rfl⟩ | ⟨g, rfl⟩⟩⟩ <;> rcases h' with ⟨d', rfl⟩ | ⟨d', ⟨f', h'⟩ | ⟨f', ⟨g', g2', rfl⟩ | ⟨g', rfl⟩⟩⟩
      · rfl
      · exact absurd d' d
      · rfl
      · exact absurd d' d
      · exact absurd d d'
      · exact ih N' _ _ _ _ _ _ _ h h'
      · exact absurd f f'
      · exact absurd f f'
      · rfl
      · exact absurd f' f
      · rfl
      · exact absurd ⟨g, g2⟩ g'
      · exact absurd d d'
      · exact absurd f' f
      · exact absurd ⟨g', g2'⟩ g
      · rfl
def IAL (K : KS) (i c mq pp : Nat) (R : CR) (r : RI) : Prop := ∃ N, IALn K N i c mq pp R r
theorem IAL_det {K : KS} {i c mq pp : Nat} {R : CR} {r r' : RI} (h : IAL K i c mq pp R r) (h' : IAL K i c mq pp R r') : r = r' := by
  obtain ⟨N, h⟩ := h
  obtain ⟨N', h'⟩ := h'
  exact IALn_det N N' i c mq pp R r r' h h'
theorem IAL_bad {K : KS} {i c mq pp : Nat} {R : CR} (h : (ICLf K i c mq pp R).1 ≠ 0) : IAL K i c mq pp R (ICLf K i c mq pp R) := ⟨1, Or.inl ⟨h, rfl⟩⟩
theorem IAL_go {K : KS} {i c mq pp : Nat} {R : CR} {r : RI} (h : (ICLf K i c mq pp R).1 = 0) (g : K.1 (ICLf K i c mq pp R).2.1 = 59) (k : IAL K (i + 1) ((ICLf K i c mq pp R).2.1 + 1) (ICLf K i c mq pp R).2.2.1 (ICLf K i c mq pp R).2.2.2.1 (ICLf K i c mq pp R).2.2.2.2 r) : IAL K i c mq pp R r := by
  obtain ⟨N, k⟩ := k
  exact ⟨N + 1, Or.inr ⟨h, Or.inl ⟨g, k⟩⟩⟩
theorem IAL_end {K : KS} {i c mq pp : Nat} {R : CR} (h : (ICLf K i c mq pp R).1 = 0) (g : K.1 (ICLf K i c mq pp R).2.1 ≠ 59) (k : K.1 (ICLf K i c mq pp R).2.1 = 260 ∧ (ICLf K i c mq pp R).2.2.2.1 ≠ 0) : IAL K i c mq pp R (ICLf K i c mq pp R) := ⟨1, Or.inr ⟨h, Or.inr ⟨g, Or.inl ⟨k.1, k.2, rfl⟩⟩⟩⟩
theorem IAL_more {K : KS} {i c mq pp : Nat} {R : CR} (h : (ICLf K i c mq pp R).1 = 0) (g : K.1 (ICLf K i c mq pp R).2.1 ≠ 59) (k : ¬ (K.1 (ICLf K i c mq pp R).2.1 = 260 ∧ (ICLf K i c mq pp R).2.2.2.1 ≠ 0)) : IAL K i c mq pp R (bdi K (ICLf K i c mq pp R).2.1 0) := ⟨1, Or.inr ⟨h, Or.inr ⟨g, Or.inr ⟨k, rfl⟩⟩⟩⟩
theorem NUMf_ok {K : KS} {c : Nat} {lo hi : Int} (h : NUMf K c lo hi = 0) : lo ≤ K.2.1 c ∧ K.2.1 c ≤ hi := by
  unfold NUMf at h
  by_cases z : K.1 c ≠ 258
  · rw [if_pos z] at h
    exfalso; omega
  · rw [if_neg z] at h
    by_cases y : K.2.1 c < lo ∨ hi < K.2.1 c
    · rw [if_pos y] at h
      exfalso; omega
    · omega
theorem ICL_marks {K : KS} {i c mq pp : Nat} {R : CR} (h : (ICLf K i c mq pp R).1 = 0) (hm : i = 0 ∨ mq ≠ 0) : (ICLf K i c mq pp R).2.2.1 ≠ 0 := by
  unfold ICLf at h ⊢
  by_cases w : ¬ isW (K.1 c)
  · rw [if_pos w] at h
    have h' : 1 + 8 * K.2.2 c + 0 = 0 := h
    exfalso; omega
  rw [if_neg w] at h ⊢
  by_cases q : 40 ≤ i ∨ (K.1 c = 308 ∧ i ≠ 0) ∨ (K.1 c ≠ 308 ∧ i = 0) ∨ (K.1 c = 309 ∧ 8 ≤ pp)
  · rw [if_pos q] at h
    have h' : 1 + 8 * K.2.2 c + 4 = 0 := h
    exfalso; omega
  rw [if_neg q] at h ⊢
  unfold ILf at h ⊢
  by_cases k1 : K.1 c = 308
  · rw [if_pos k1] at h ⊢
    by_cases n : NUMf K (c + 1) 1 6 = 0
    · rw [if_pos n]
      have := NUMf_ok n
      show (K.2.1 (c + 1)).toNat ≠ 0
      omega
    · rw [if_neg n] at h
      exact absurd h n
  have m0 : mq ≠ 0 := by omega
  rw [if_neg k1] at h ⊢
  by_cases k2 : K.1 c = 309
  · rw [if_pos k2] at h ⊢
    by_cases n : NUMf K (c + 1) 0 (2 ^ mq - 1) = 0
    · rw [if_pos n] at h ⊢
      by_cases n2 : NUMf K (c + 1 + 1) 0 99 = 0
      · rw [if_pos n2]; exact m0
      · rw [if_neg n2] at h; exact absurd h n2
    · rw [if_neg n] at h; exact absurd h n
  rw [if_neg k2] at h ⊢
  by_cases k3 : K.1 c = 305
  · rw [if_pos k3] at h ⊢
    by_cases n : NUMf K (c + 1) 0 ((pp : Int) - 1) = 0
    · rw [if_pos n] at h ⊢
      by_cases n2 : OTHf K (c + 1) ((pp : Int) - 1) = 0
      · rw [if_pos n2] at h ⊢
        by_cases n3 : NUMf K (c + 1 + 2) 1 9 = 0
        · rw [if_pos n3]; exact m0
        · rw [if_neg n3] at h; exact absurd h n3
      · rw [if_neg n2] at h; exact absurd h n2
    · rw [if_neg n] at h; exact absurd h n
  rw [if_neg k3] at h ⊢
  by_cases k4 : K.1 c = 310
  · rw [if_pos k4] at h ⊢
    by_cases n : NUMf K (c + 1) 0 ((pp : Int) - 1) = 0
    · rw [if_pos n] at h ⊢
      by_cases n2 : OTHf K (c + 1) ((pp : Int) - 1) = 0
      · rw [if_pos n2]; exact m0
      · rw [if_neg n2] at h; exact absurd h n2
    · rw [if_neg n] at h; exact absurd h n
  rw [if_neg k4] at h ⊢
  by_cases n : NUMf K (c + 1) 0 ((pp : Int) - 1) = 0
  · rw [if_pos n]; exact m0
  · rw [if_neg n] at h; exact absurd h n
theorem IALn_marks {K : KS} : ∀ (N i c mq pp : Nat) (R : CR) (r : RI), IALn K N i c mq pp R r → r.1 = 0 → (i = 0 ∨ mq ≠ 0) → r.2.2.1 ≠ 0 := by
  intro N
  induction N with
  | zero => intro i c mq pp R r h; exact h.elim
  | succ N ih =>
    intro i c mq pp R r h h0 hm
    rcases h with ⟨d, rfl⟩ | ⟨d, ⟨f, h⟩ | ⟨f, ⟨g, g2, rfl⟩ | ⟨g, rfl⟩⟩⟩
    · exact absurd h0 d
    · exact ih _ _ _ _ _ _ h h0 (Or.inr (ICL_marks d hm))
    · exact ICL_marks d hm
    · have h' : 1 + 8 * K.2.2 (ICLf K i c mq pp R).2.1 + 0 = 0 := h0
      exfalso; omega
theorem IAL_marks {K : KS} {r : RI} (h : IAL K 0 0 0 0 zR r) (h0 : r.1 = 0) : r.2.2.1 ≠ 0 := by
  obtain ⟨N, h⟩ := h
  exact IALn_marks N _ _ _ _ _ _ h h0 (Or.inl rfl)
section CIS
variable {K : KS} {m b : Nat}
/-- the class's tape at sign c, no fault, an isle of mq marks and pp people -/
def CI (K : KS) (m b c mq pp : Nat) (R : CR) (S : cT) : Prop := CTp K m S ∧ c ≤ m ∧ (S.1 1 7).toInt = 0 ∧ (S.1 1 6).toInt = (c : Int) ∧ (S.1 1 8).toInt = K.1 c ∧ (S.1 1 9).toInt = K.2.1 c ∧ (S.1 b 8).toInt = (mq : Int) ∧ mq ≤ 6 ∧ (S.1 b 9).toInt = (pp : Int) ∧ pp ≤ 8 ∧ HCn b R S
def CJ (w : Int) (S : cT) : Prop := w ≠ 0 ∧ (S.1 1 7).toInt = w ∧ (S.1 1 8).toInt = 259
def CIO (K : KS) (m b : Nat) (r : RI) (S : cT) : Prop := (r.1 ≠ 0 ∧ CJ r.1 S) ∨ (r.1 = 0 ∧ CI K m b r.2.1 r.2.2.1 r.2.2.2.1 r.2.2.2.2 S)
theorem CTp.fr {S S' : cT} (h : CTp K m S) (f : ∀ q j, (q = 3 ∨ q = 4 ∨ q = 5 ∨ (q = 1 ∧ j = 5)) → S'.1 q j = S.1 q j) : CTp K m S' := by
  obtain ⟨t5, tm, ta, tz⟩ := h
  refine ⟨by rw [f 1 5 (by omega)]; exact t5, tm, fun c hc => ?_, tz⟩
  rw [f 3 c (by omega), f 4 c (by omega), f 5 c (by omega)]
  exact ta c hc
theorem ui_step {c mq pp : Nat} {R : CR} {S : cT} (hb : 50 ≤ b) (h : CI K m b c mq pp R S) (hc : c < m) : wl (fc_X10_step 1 S) (fun S' => CI K m b (c + 1) mq pp R S') := by
  obtain ⟨hT, c1, e7, e6, e8, e9, em, m6, ep, p8, hr⟩ := h
  have hT' := hT
  obtain ⟨t5, tm, ta, tz⟩ := hT'
  unfold fc_X10_step
  have l_0 : (0 : Int32).toInt = 0 := by decide
  have l_1 : (1 : Int32).toInt = 1 := by decide
  have l_400 : (400 : Int32).toInt = 400 := by decide
  have u := tA (a := S.1 1 6) (b := 1) (by omega) (by omega)
  refine wl_eq (fun _ => ?_) (fun z => by exfalso; omega)
  refine wl_lt (fun z => by exfalso; omega) (fun _ => ?_)
  refine wl_le (fun z => by exfalso; omega) (fun _ => ?_)
  refine wl_le (fun z => by exfalso; omega) (fun _ => ?_)
  refine wl_letv (fun S5 e5 => ?_)
  have y6 : (S5.1 1 6).toInt = ((c + 1 : Nat) : Int) := by rw [e5, ca_at]; omega
  refine wl_bif (wl_letv (fun v6 ev6 => ?_))
  rw [cl_idx y6] at ev6
  refine wl_letv (fun S7 e7' => ?_)
  have z6 : (S7.1 1 6).toInt = ((c + 1 : Nat) : Int) := by rw [e7', ca_ne (by decide)]; exact y6
  refine wl_bif (wl_letv (fun v8 ev8 => ?_))
  rw [cl_idx z6] at ev8
  refine wl_letv (fun S9 e9' => wl_some ?_)
  have f9 : ∀ q j, (q ≠ 1 ∨ (j ≠ 6 ∧ j ≠ 8 ∧ j ≠ 9)) → S9.1 q j = S.1 q j := fun q j hq => by rw [e9', ca_ne (by omega), e7', ca_ne (by omega), e5, ca_ne (by omega)]
  have a := ta (c + 1) (by omega)
  refine ⟨hT.fr (fun q j hq => f9 q j (by omega)), by omega, ?_, ?_, ?_, ?_, ?_, m6, ?_, p8, hr.fr (fun q j hq => f9 q j (by omega))⟩
  · rw [f9 1 7 (by omega)]; exact e7
  · rw [e9', ca_ne (by decide)]; exact z6
  · rw [e9', ca_ne (by decide), e7', ca_at, ev6]
    show (S5.1 3 (c + 1)).toInt = _
    rw [e5, ca_ne (Or.inl (by decide))]
    exact a.1
  · rw [e9', ca_at, ev8]
    show (S7.1 5 (c + 1)).toInt = _
    rw [e7', ca_ne (Or.inl (by decide)), e5, ca_ne (Or.inl (by decide))]
    exact a.2.1
  · rw [f9 b 8 (by omega)]; exact em
  · rw [f9 b 9 (by omega)]; exact ep
theorem ui_step_b {w : Int} {S : cT} (h : CJ w S) : wl (fc_X10_step 1 S) (fun S' => CJ w S') := by
  unfold fc_X10_step
  have l_0 : (0 : Int32).toInt = 0 := by decide
  exact wl_eq (fun z => absurd h.1 (by have := h.2.1; omega)) (fun _ => wl_some h)
theorem ui_refuse {c mq pp : Nat} {R : CR} {y : Int32} {why : Int} {S : cT} (h : CI K m b c mq pp R S) (hy : y.toInt = why) (h0 : 0 ≤ why) (h7 : why ≤ 7) : wl (fc_X10_refuse 1 y S) (fun S' => CJ (1 + 8 * K.2.2 c + why) S') := by
  obtain ⟨⟨t5, tm, ta, tz⟩, c1, e7, e6, e8, e9, em, m6, ep, p8, hr⟩ := h
  unfold fc_X10_refuse
  have l_0 : (0 : Int32).toInt = 0 := by decide
  have l_1 : (1 : Int32).toInt = 1 := by decide
  have l_400 : (400 : Int32).toInt = 400 := by decide
  refine wl_eq (fun _ => ?_) (fun z => by exfalso; omega)
  refine wl_lt (fun z => by exfalso; omega) (fun _ => ?_)
  refine wl_lt (fun z => by exfalso; omega) (fun _ => ?_)
  refine wl_bif (wl_letv (fun v4 e4 => ?_))
  rw [cl_idx e6] at e4
  have a := ta c c1
  have e4' : v4.toInt = K.2.2 c := by
    rw [e4]
    exact a.2.2.1
  have m8 := tML (a := 8) (b := v4) (n := 8) (by decide) (by omega) (by omega)
  have t1 := tA (a := 1) (b := 8 * v4) (by omega) (by omega)
  have t2 := tA (a := 1 + 8 * v4) (b := y) (by omega) (by omega)
  refine wl_letv (fun S5 e5 => ?_)
  refine wl_letv (fun S6 e6' => wl_some ⟨by omega, ?_, ?_⟩)
  · rw [e6', ca_ne (by decide), e5, ca_at]
    omega
  · rw [e6', ca_at]; decide
theorem ui_refuse_b {w : Int} {y : Int32} {S : cT} (h : CJ w S) : wl (fc_X10_refuse 1 y S) (fun S' => CJ w S') := by
  unfold fc_X10_refuse
  have l_0 : (0 : Int32).toInt = 0 := by decide
  exact wl_eq (fun z => absurd h.1 (by have := h.2.1; omega)) (fun _ => wl_some h)
theorem CI.lt {c mq pp : Nat} {R : CR} {S : cT} (h : CI K m b c mq pp R S) (k : K.1 c ≠ 260) : c < m := by
  have := h.2.1
  by_cases z : c = m
  · rw [z] at k; exact absurd h.1.2.2.2 k
  · omega
theorem ui_take {c mq pp : Nat} {R : CR} {lo hi : Int32} {S : cT} (hb : 50 ≤ b) (h : CI K m b c mq pp R S) : wl (fc_X10_takeNumber 1 lo hi S) (fun w => (NUMf K c lo.toInt hi.toInt ≠ 0 ∧ CJ (NUMf K c lo.toInt hi.toInt) w.2) ∨ (NUMf K c lo.toInt hi.toInt = 0 ∧ w.1.toInt = K.2.1 c ∧ lo.toInt ≤ K.2.1 c ∧ K.2.1 c ≤ hi.toInt ∧ CI K m b (c + 1) mq pp R w.2)) := by
  have h' := h
  obtain ⟨hT, c1, e7, e6, e8, e9, em, m6, ep, p8, hr⟩ := h'
  unfold fc_X10_takeNumber
  have l_0 : (0 : Int32).toInt = 0 := by decide
  have l_1 : (1 : Int32).toInt = 1 := by decide
  have l_258 : (258 : Int32).toInt = 258 := by decide
  refine wl_eq (fun z => ?_) (fun z => ?_)
  · have k : K.1 c = 258 := by omega
    have nb : (K.2.1 c < lo.toInt ∨ hi.toInt < K.2.1 c) → NUMf K c lo.toInt hi.toInt = 1 + 8 * K.2.2 c + 1 := fun y => by unfold NUMf; rw [if_neg (fun x => x k), if_pos y]
    refine wl_lt (fun y => ?_) (fun y => ?_)
    · refine wl_bind (ui_refuse h l_1 (by decide) (by decide)) (fun q hq => wl_some (Or.inl ?_))
      rw [nb (Or.inl (by omega))]
      exact ⟨hq.1, hq⟩
    · refine wl_le (fun x => ?_) (fun x => ?_)
      · have n0 : NUMf K c lo.toInt hi.toInt = 0 := by unfold NUMf; rw [if_neg (fun x => x k), if_neg (by omega)]
        exact wl_bind (ui_step hb h (h.lt (by omega))) (fun q hq => wl_some (Or.inr ⟨n0, e9, by omega, by omega, hq⟩))
      · refine wl_bind (ui_refuse h l_1 (by decide) (by decide)) (fun q hq => wl_some (Or.inl ?_))
        rw [nb (Or.inr (by omega))]
        exact ⟨hq.1, hq⟩
  · refine wl_bind (ui_refuse h l_0 (by decide) (by decide)) (fun q hq => wl_some (Or.inl ?_))
    have n0 : NUMf K c lo.toInt hi.toInt = 1 + 8 * K.2.2 c + 0 := by unfold NUMf; rw [if_pos (by omega)]
    rw [n0]
    exact ⟨hq.1, hq⟩
theorem ui_take_b {w : Int} {lo hi : Int32} {S : cT} (h : CJ w S) : wl (fc_X10_takeNumber 1 lo hi S) (fun y => CJ w y.2) := by
  unfold fc_X10_takeNumber
  have l_258 : (258 : Int32).toInt = 258 := by decide
  have e8 := h.2.2
  exact wl_eq (fun z => by exfalso; omega) (fun _ => wl_bind (ui_refuse_b h) (fun q hq => wl_some hq))
theorem ui_other {c mq pp : Nat} {R : CR} {one : Int32} {S : cT} (hb : 50 ≤ b) (h : CI K m b (c + 1) mq pp R S) (ho : one.toInt = K.2.1 c) : wl (fc_X3_takeOther 1 b one S) (fun w => (OTHf K c ((pp : Int) - 1) ≠ 0 ∧ CJ (OTHf K c ((pp : Int) - 1)) w.2) ∨ (OTHf K c ((pp : Int) - 1) = 0 ∧ w.1.toInt = K.2.1 (c + 1) ∧ K.2.1 (c + 1) ≠ K.2.1 c ∧ 0 ≤ K.2.1 (c + 1) ∧ K.2.1 (c + 1) ≤ (pp : Int) - 1 ∧ CI K m b (c + 2) mq pp R w.2)) := by
  have h' := h
  obtain ⟨hT, c1, e7, e6, e8, e9, em, m6, ep, p8, hr⟩ := h'
  unfold fc_X3_takeOther
  have l_0 : (0 : Int32).toInt = 0 := by decide
  have l_1 : (1 : Int32).toInt = 1 := by decide
  have l_258 : (258 : Int32).toInt = 258 := by decide
  refine wl_bind (R := fun q => (K.1 (c + 1) = 258 ∧ K.2.1 (c + 1) = K.2.1 c ∧ CJ (1 + 8 * K.2.2 (c + 1) + 1) q) ∨ (¬ (K.1 (c + 1) = 258 ∧ K.2.1 (c + 1) = K.2.1 c) ∧ q = S)) ?_ (fun w1 h1 => ?_)
  · refine wl_eq (fun z => ?_) (fun z => wl_some (Or.inr ⟨fun y => z (by omega), rfl⟩))
    refine wl_eq (fun y => ?_) (fun y => wl_some (Or.inr ⟨fun x => y (by omega), rfl⟩))
    exact wl_bind (ui_refuse h l_1 (by decide) (by decide)) (fun q hq => wl_some (Or.inl ⟨by omega, by omega, hq⟩))
  rcases h1 with ⟨a1, a2, cj⟩ | ⟨na, rfl⟩
  · have o : OTHf K c ((pp : Int) - 1) = 1 + 8 * K.2.2 (c + 1) + 1 := by unfold OTHf; rw [if_pos ⟨a1, a2⟩]
    refine wl_bind (ui_take_b cj) (fun q hq => wl_some (Or.inl ?_))
    rw [o]
    exact ⟨hq.1, hq⟩
  · have u := tS (a := w1.1 b 9) (b := 1) (by omega) (by omega)
    have o : OTHf K c ((pp : Int) - 1) = NUMf K (c + 1) 0 ((pp : Int) - 1) := by unfold OTHf; rw [if_neg na]
    have hu : (w1.1 b 9 - 1).toInt = (pp : Int) - 1 := by omega
    refine wl_bind (ui_take (lo := 0) (hi := w1.1 b 9 - 1) hb h) (fun q hq => wl_some ?_)
    rw [hu, l_0, ← o] at hq
    rcases hq with ⟨x, y⟩ | ⟨x, y, y1, y2, z⟩
    · exact Or.inl ⟨x, y⟩
    · refine Or.inr ⟨x, y, fun e => na ⟨?_, e⟩, y1, y2, z⟩
      rw [o] at x
      exact NUMf_258 x (h.1.2.2.1 (c + 1) h.2.1).2.2.2.1
theorem ui_fr {c mq pp : Nat} {R : CR} {S S' : cT} (hb : 50 ≤ b) (h : CI K m b c mq pp R S) (f : ∀ q j, (q < b ∨ (q = b ∧ (j = 8 ∨ j = 9)) ∨ q = b + 1 ∨ q = b + 5 ∨ q = b + 8 ∨ q = b + 10) → S'.1 q j = S.1 q j) : CI K m b c mq pp R S' := by
  obtain ⟨hT, c1, e7, e6, e8, e9, em, m6, ep, p8, hr⟩ := h
  exact ⟨hT.fr (fun q j hq => f q j (by omega)), c1, by rw [f 1 7 (by omega)]; exact e7, by rw [f 1 6 (by omega)]; exact e6, by rw [f 1 8 (by omega)]; exact e8, by rw [f 1 9 (by omega)]; exact e9, by rw [f b 8 (by omega)]; exact em, m6, by rw [f b 9 (by omega)]; exact ep, p8, hr.fr (fun q j hq => f q j (by omega))⟩
theorem shl_face {v : Int32} {mq : Nat} (h : v.toInt = (mq : Int)) (h6 : mq ≤ 6) : (((1 : Int32) <<< (v &&& 31)) - 1).toInt = 2 ^ mq - 1 := by
  have g : ∀ {x : Int32}, v.toInt = x.toInt → v = x := fun z => Int32.toInt_inj.mp z
  have c : mq = 0 ∨ mq = 1 ∨ mq = 2 ∨ mq = 3 ∨ mq = 4 ∨ mq = 5 ∨ mq = 6 := by omega
  rcases c with rfl | rfl | rfl | rfl | rfl | rfl | rfl
  · have e : v = 0 := g (by rw [h]; decide)
    subst e; decide
  · have e : v = 1 := g (by rw [h]; decide)
    subst e; decide
  · have e : v = 2 := g (by rw [h]; decide)
    subst e; decide
  · have e : v = 3 := g (by rw [h]; decide)
    subst e; decide
  · have e : v = 4 := g (by rw [h]; decide)
    subst e; decide
  · have e : v = 5 := g (by rw [h]; decide)
    subst e; decide
  · have e : v = 6 := g (by rw [h]; decide)
    subst e; decide
theorem ui_person {c mq pp : Nat} {R : CR} {S : cT} (hb : 50 ≤ b) (h : CI K m b c mq pp R S) (hp : pp < 8) : wl (fc_X3_readPerson 1 b S) (fun S' => CIO K m b (ILf K 309 c mq pp R) S') := by
  have h' := h
  obtain ⟨hT, c1, e7, e6, e8, e9, em, m6, ep, p8, hr⟩ := h'
  unfold fc_X3_readPerson
  have l_0 : (0 : Int32).toInt = 0 := by decide
  have l_1 : (1 : Int32).toInt = 1 := by decide
  have l_8 : (8 : Int32).toInt = 8 := by decide
  have l_99 : (99 : Int32).toInt = 99 := by decide
  have i0 : ILf K 309 c mq pp R = (if NUMf K c 0 (2 ^ mq - 1) = 0 then (if NUMf K (c + 1) 0 99 = 0 then (0, c + 2, mq, pp + 1, wR R pp (K.2.1 c)) else (NUMf K (c + 1) 0 99, 0, 0, 0, zR)) else (NUMf K c 0 (2 ^ mq - 1), 0, 0, 0, zR)) := by unfold ILf; rw [if_neg (by decide), if_pos rfl]
  unfold fc_X2_lastFace
  refine wl_bind (wl_some (Q := fun v : Int32 => v.toInt = 2 ^ mq - 1) (shl_face em m6)) (fun q1 h1 => ?_)
  refine wl_bind (ui_take (lo := 0) (hi := q1) hb h) (fun q2 h2 => ?_)
  rw [h1, l_0] at h2
  rcases h2 with ⟨x, cj⟩ | ⟨x, vf, _, _, ci⟩
  · refine wl_bind (ui_take_b cj) (fun q3 h3 => ?_)
    have e := h3.2.1
    refine wl_eq (fun z => absurd h3.1 (by omega)) (fun _ => wl_some (Or.inl ?_))
    rw [i0, if_neg x]
    exact ⟨x, h3⟩
  · refine wl_bind (ui_take (lo := 0) (hi := 99) hb ci) (fun q3 h3 => ?_)
    rw [l_99, l_0] at h3
    rcases h3 with ⟨y, cj⟩ | ⟨y, _, _, _, ci3⟩
    · have e := cj.2.1
      refine wl_eq (fun z => absurd cj.1 (by omega)) (fun _ => wl_some (Or.inl ?_))
      rw [i0, if_pos x, if_neg y]
      exact ⟨y, cj⟩
    · have ci3' := ci3
      obtain ⟨gT, g1, g7, g6, g8, g9, gm, gm6, gp, gp8, gr⟩ := ci3'
      have ix7 : (q3.2.1 b 9).toNatClampNeg = pp := cl_idx gp
      refine wl_eq (fun _ => ?_) (fun z => by exfalso; omega)
      refine wl_le (fun z => by exfalso; omega) (fun _ => ?_)
      refine wl_bif (wl_letv (fun S7 e7' => ?_))
      refine wl_bif (wl_letv (fun S9 e9' => ?_))
      refine wl_letv (fun S10 e10 => wl_some (Or.inr ?_))
      have f9 : ∀ q j, q ≤ b → S9.1 q j = q3.2.1 q j := fun q j hq => by rw [e9', ca_ne (Or.inl (by omega)), e7', ca_ne (Or.inl (by omega))]
      have u := tA (a := S9.1 b 9) (b := 1) (by rw [f9 b 9 (by omega)]; omega) (by rw [f9 b 9 (by omega)]; omega)
      rw [f9 b 9 (by omega)] at u
      have f10 : ∀ q j, q ≤ b → (q ≠ b ∨ j ≠ 9) → S10.1 q j = q3.2.1 q j := fun q j hq hj => by rw [e10, ca_ne hj, f9 q j hq]
      rw [ix7] at e7'
      rw [i0, if_pos x, if_pos y]
      refine ⟨rfl, gT.fr (fun q j hq => f10 q j (by omega) (by omega)), g1, by rw [f10 1 7 (by omega) (by omega)]; exact g7, by rw [f10 1 6 (by omega) (by omega)]; exact g6, by rw [f10 1 8 (by omega) (by omega)]; exact g8, by rw [f10 1 9 (by omega) (by omega)]; exact g9, by rw [f10 b 8 (by omega) (by omega)]; exact gm, gm6, ?_, ?_, ?_, ?_, by rw [e10, ca_ne (Or.inl (by omega)), e9', ca_ne (Or.inl (by omega)), e7', ca_ne (Or.inl (by omega))]; exact gr.2.2.1, by rw [e10, ca_ne (Or.inl (by omega)), e9', ca_ne (Or.inl (by omega)), e7', ca_ne (Or.inl (by omega))]; exact gr.2.2.2⟩
      · rw [e10, ca_at, f9 b 9 (by omega)]
        show _ = ((pp + 1 : Nat) : Int)
        omega
      · show pp + 1 ≤ 8
        omega
      · intro p hp8
        rw [e10, ca_ne (Or.inl (by omega)), e9', ca_ne (Or.inl (by omega)), e7']
        show _ = wR R pp (K.2.1 c) p
        by_cases z : p = pp
        · rw [z, ca_at, wR_at]; exact vf
        · rw [ca_ne (Or.inr z), wR_ne z]; exact gr.1 p hp8
      · intro k hk
        rw [e10, ca_ne (Or.inl (by omega)), e9', ca_ne (Or.inl (by omega)), e7', ca_ne (Or.inl (by omega))]
        show _ = wR R pp (K.2.1 c) (8 + k)
        rw [wR_ne (by omega)]; exact gr.2.1 k hk
theorem ui_two {pp : Nat} {a b' : Int32} {S : cT} (hp : (S.1 b 9).toInt = (pp : Int)) (hp8 : pp ≤ 8) (h0 : 0 ≤ a.toInt) (h1 : a.toInt < (pp : Int)) (h2 : 0 ≤ b'.toInt) (h3 : b'.toInt < (pp : Int)) (ne : a.toInt ≠ b'.toInt) : wl (fc_X2_hasTwo b a b' S) (fun q => q = true) := by
  have l_0 : (0 : Int32).toInt = 0 := by decide
  have l_8 : (8 : Int32).toInt = 8 := by decide
  have one : ∀ x : Int32, 0 ≤ x.toInt → x.toInt < (pp : Int) → wl (fc_X2_has b x S) (fun q => q = true) := fun x y0 y1 => by
    unfold fc_X2_has
    refine wl_lt (fun z => by exfalso; omega) (fun _ => ?_)
    refine wl_le (fun z => by exfalso; omega) (fun _ => ?_)
    exact wl_le (fun z => by exfalso; omega) (fun _ => wl_some rfl)
  unfold fc_X2_hasTwo
  refine wl_bind (one a h0 h1) (fun q1 e1 => ?_)
  refine wl_b (fun z => by rw [e1] at z; cases z) (fun _ => ?_)
  refine wl_bind (one b' h2 h3) (fun q3 e3 => ?_)
  refine wl_b (fun z => by rw [e3] at z; cases z) (fun _ => ?_)
  exact wl_eq (fun z => absurd z ne) (fun _ => wl_some rfl)
theorem ui_tie {c mq pp : Nat} {R : CR} {S : cT} (hb : 50 ≤ b) (h : CI K m b c mq pp R S) : wl (fc_X3_readTie 1 b S) (fun S' => CIO K m b (ILf K 305 c mq pp R) S') := by
  have h' := h
  obtain ⟨hT, c1, e7, e6, e8, e9, em, m6, ep, p8, hr⟩ := h'
  unfold fc_X3_readTie
  have l_0 : (0 : Int32).toInt = 0 := by decide
  have l_1 : (1 : Int32).toInt = 1 := by decide
  have l_9 : (9 : Int32).toInt = 9 := by decide
  have i0 : ILf K 305 c mq pp R = (if NUMf K c 0 ((pp : Int) - 1) = 0 then (if OTHf K c ((pp : Int) - 1) = 0 then (if NUMf K (c + 2) 1 9 = 0 then (0, c + 3, mq, pp, wR R (8 + 8 * (K.2.1 c).toNat + (K.2.1 (c + 1)).toNat) (K.2.1 (c + 2))) else (NUMf K (c + 2) 1 9, 0, 0, 0, zR)) else (OTHf K c ((pp : Int) - 1), 0, 0, 0, zR)) else (NUMf K c 0 ((pp : Int) - 1), 0, 0, 0, zR)) := by unfold ILf; rw [if_neg (by decide), if_neg (by decide), if_pos rfl]
  have u := tS (a := S.1 b 9) (b := 1) (by omega) (by omega)
  have hu : (S.1 b 9 - 1).toInt = (pp : Int) - 1 := by omega
  have ob : ∀ {w : Int} {one : Int32} {S : cT}, CJ w S → wl (fc_X3_takeOther 1 b one S) (fun y => CJ w y.2) := by
    intro w one S cj
    unfold fc_X3_takeOther
    refine wl_bind (R := fun q => CJ w q) ?_ (fun w1 h1 => wl_bind (ui_take_b h1) (fun q hq => wl_some hq))
    refine wl_if (fun _ => ?_) (fun _ => wl_some cj)
    exact wl_if (fun _ => wl_bind (ui_refuse_b cj) (fun q hq => wl_some hq)) (fun _ => wl_some cj)
  refine wl_bind (ui_take (lo := 0) (hi := S.1 b 9 - 1) hb h) (fun q1 h1 => ?_)
  rw [hu, l_0] at h1
  have out : ∀ {w : Int} {q : Int32 × cT} {X : Option cT}, CJ w q.2 → ILf K 305 c mq pp R = (w, 0, 0, 0, zR) → wl (if (q.2.1 1 7) = 0 then X else (some q.2)) (fun S' => CIO K m b (ILf K 305 c mq pp R) S') := by
    intro w q X cj e
    have e7' := cj.2.1
    refine wl_eq (fun z => absurd cj.1 (by omega)) (fun _ => wl_some (Or.inl ?_))
    rw [e]
    exact ⟨cj.1, cj⟩
  rcases h1 with ⟨x, cj⟩ | ⟨x, v1, d1, d2, ci⟩
  · refine wl_bind (ob cj) (fun q2 h2 => wl_bind (ui_take_b h2) (fun q3 h3 => out h3 (by rw [i0, if_neg x])))
  · refine wl_bind (ui_other hb ci v1) (fun q2 h2 => ?_)
    rcases h2 with ⟨y, cj⟩ | ⟨y, v2, ne, d3, d4, ci2⟩
    · exact wl_bind (ui_take_b cj) (fun q3 h3 => out h3 (by rw [i0, if_pos x, if_neg y]))
    · refine wl_bind (ui_take (lo := 1) (hi := 9) hb ci2) (fun q3 h3 => ?_)
      rw [l_9, l_1] at h3
      rcases h3 with ⟨z, cj⟩ | ⟨z, v3, _, _, ci3⟩
      · exact out cj (by rw [i0, if_pos x, if_pos y, if_neg z])
      · have e := ci3.2.2.1
        have il : ILf K 305 c mq pp R = (0, c + 3, mq, pp, wR R (8 + 8 * (K.2.1 c).toNat + (K.2.1 (c + 1)).toNat) (K.2.1 (c + 2))) := by rw [i0, if_pos x, if_pos y, if_pos z]
        refine wl_eq (fun _ => ?_) (fun w => by exfalso; omega)
        have ci3' := ci3
        obtain ⟨gT, g1, g7, g6, g8, g9, gm, gm6, gp, gp8, gr⟩ := ci3'
        refine wl_bind (ui_two (a := q1.1) (b' := q2.1) (S := q3.2) gp gp8 (by omega) (by omega) (by omega) (by omega) (by omega)) (fun q5 h5 => ?_)
        rw [il]
        refine wl_b (fun z5 => by rw [h5] at z5; cases z5) (fun _ => ?_)
        obtain ⟨o1, ho1⟩ : ∃ o : Nat, K.2.1 c = (o : Int) := ⟨(K.2.1 c).toNat, by omega⟩
        obtain ⟨o2, ho2⟩ : ∃ o : Nat, K.2.1 (c + 1) = (o : Int) := ⟨(K.2.1 (c + 1)).toNat, by omega⟩
        have l_8 : (8 : Int32).toInt = 8 := by decide
        have m1 := tMR (a := q1.1) (b := 8) (n := 8) (by decide) (by omega) (by omega)
        have a1 := tA (a := q1.1 * 8) (b := q2.1) (by omega) (by omega)
        refine wl_bif (wl_letv (fun S8 e8' => wl_some (Or.inr ⟨rfl, ?_⟩)))
        rw [cl_idx (n := 8 * o1 + o2) (by omega)] at e8'
        have f8 : ∀ q j, q ≤ b → S8.1 q j = q3.2.1 q j := fun q j hq => by rw [e8', ca_ne (Or.inl (by omega))]
        refine ⟨gT.fr (fun q j hq => f8 q j (by omega)), g1, by rw [f8 1 7 (by omega)]; exact g7, by rw [f8 1 6 (by omega)]; exact g6, by rw [f8 1 8 (by omega)]; exact g8, by rw [f8 1 9 (by omega)]; exact g9, by rw [f8 b 8 (by omega)]; exact gm, gm6, by rw [f8 b 9 (by omega)]; exact gp, gp8, ?_, ?_, by rw [e8', ca_ne (Or.inl (by omega))]; exact gr.2.2.1, by rw [e8', ca_ne (Or.inl (by omega))]; exact gr.2.2.2⟩
        · intro p hp8
          rw [e8', ca_ne (Or.inl (by omega))]
          show _ = wR R _ _ p
          rw [wR_ne (by omega)]; exact gr.1 p hp8
        · intro k hk
          rw [e8']
          show _ = wR R (8 + 8 * (K.2.1 c).toNat + (K.2.1 (c + 1)).toNat) (K.2.1 (c + 2)) (8 + k)
          rw [ho1, ho2]
          show _ = wR R (8 + 8 * o1 + o2) (K.2.1 (c + 2)) (8 + k)
          by_cases z : k = 8 * o1 + o2
          · rw [z, ca_at, show 8 + (8 * o1 + o2) = 8 + 8 * o1 + o2 from by omega, wR_at]; exact v3
          · rw [ca_ne (Or.inr z), wR_ne (by omega)]; exact gr.2.1 k hk
theorem ui_boat {c mq pp : Nat} {R : CR} {S : cT} (hb : 50 ≤ b) (h : CI K m b c mq pp R S) : wl (fc_X3_readBoat 1 b S) (fun S' => CIO K m b (ILf K 310 c mq pp R) S') := by
  have h' := h
  obtain ⟨hT, c1, e7, e6, e8, e9, em, m6, ep, p8, hr⟩ := h'
  unfold fc_X3_readBoat
  have l_0 : (0 : Int32).toInt = 0 := by decide
  have l_1 : (1 : Int32).toInt = 1 := by decide
  have i0 : ILf K 310 c mq pp R = (if NUMf K c 0 ((pp : Int) - 1) = 0 then (if OTHf K c ((pp : Int) - 1) = 0 then (0, c + 2, mq, pp, R) else (OTHf K c ((pp : Int) - 1), 0, 0, 0, zR)) else (NUMf K c 0 ((pp : Int) - 1), 0, 0, 0, zR)) := by unfold ILf; rw [if_neg (by decide), if_neg (by decide), if_neg (by decide), if_pos rfl]
  have u := tS (a := S.1 b 9) (b := 1) (by omega) (by omega)
  have hu : (S.1 b 9 - 1).toInt = (pp : Int) - 1 := by omega
  have ob : ∀ {w : Int} {one : Int32} {S : cT}, CJ w S → wl (fc_X3_takeOther 1 b one S) (fun y => CJ w y.2) := by
    intro w one S cj
    unfold fc_X3_takeOther
    refine wl_bind (R := fun q => CJ w q) ?_ (fun w1 h1 => wl_bind (ui_take_b h1) (fun q hq => wl_some hq))
    refine wl_if (fun _ => ?_) (fun _ => wl_some cj)
    exact wl_if (fun _ => wl_bind (ui_refuse_b cj) (fun q hq => wl_some hq)) (fun _ => wl_some cj)
  refine wl_bind (ui_take (lo := 0) (hi := S.1 b 9 - 1) hb h) (fun q1 h1 => ?_)
  rw [hu, l_0] at h1
  have out : ∀ {w : Int} {q : Int32 × cT} {X : Option cT}, CJ w q.2 → ILf K 310 c mq pp R = (w, 0, 0, 0, zR) → wl (if (q.2.1 1 7) = 0 then X else (some q.2)) (fun S' => CIO K m b (ILf K 310 c mq pp R) S') := by
    intro w q X cj e
    have e7' := cj.2.1
    refine wl_eq (fun z => absurd cj.1 (by omega)) (fun _ => wl_some (Or.inl ?_))
    rw [e]
    exact ⟨cj.1, cj⟩
  rcases h1 with ⟨x, cj⟩ | ⟨x, v1, _, _, ci⟩
  · refine wl_bind (ob cj) (fun q2 h2 => out h2 (by rw [i0, if_neg x]))
  · refine wl_bind (ui_other hb ci v1) (fun q2 h2 => ?_)
    rcases h2 with ⟨y, cj⟩ | ⟨y, v2, ne, d3, d4, ci2⟩
    · exact out cj (by rw [i0, if_pos x, if_neg y])
    · have e := ci2.2.2.1
      have il : ILf K 310 c mq pp R = (0, c + 2, mq, pp, R) := by rw [i0, if_pos x, if_pos y]
      refine wl_eq (fun _ => ?_) (fun w => by exfalso; omega)
      refine wl_bind wl_any (fun q4 _ => ?_)
      rw [il]
      refine wl_if (fun _ => wl_some (Or.inr ⟨rfl, ci2⟩)) (fun _ => ?_)
      refine wl_bif (wl_letv (fun v6 _ => ?_))
      refine wl_bif (wl_letv (fun S8 e8' => ?_))
      refine wl_bif (wl_letv (fun v9 _ => ?_))
      refine wl_bif (wl_letv (fun S11 e11 => wl_some (Or.inr ⟨rfl, ui_fr hb ci2 (fun q j hq => ?_)⟩)))
      rw [e11, ca_ne (Or.inl (by omega)), e8', ca_ne (Or.inl (by omega))]
end CIS
