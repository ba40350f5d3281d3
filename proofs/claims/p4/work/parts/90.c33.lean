/-! ===== the class: x, the images' x, and which images are made ===== -/
def PC (i : Nat) (x : Int) (X M : Nat → Int) : Nat → Nat → Option Int := fun q j =>
  if j = 14 ∧ q = i then some x else if j = 14 ∧ (q = 50 ∨ q = 62 ∨ q = 74 ∨ q = 86) then some (X ((q - 50) / 12)) else if q = 98 ∧ j < 4 then some (M j) else none
def RC (x : Int) (X M : Nat → Int) (S : cT) : Prop := IC (PC S.2.2.1 x X M) S
theorem pc_none {i q j : Nat} {x : Int} {X M : Nat → Int} (h1 : ¬ (j = 14 ∧ q = i)) (h2 : ¬ (j = 14 ∧ (q = 50 ∨ q = 62 ∨ q = 74 ∨ q = 86))) (h3 : ¬ (q = 98 ∧ j < 4)) : PC i x X M q j = none := by
  unfold PC
  rw [if_neg h1, if_neg h2, if_neg h3]
theorem RC_keep {x : Int} {X M : Nat → Int} {S S' : cT} (hI : IC (PC S.2.2.1 x X M) S') (hp : S'.2.2 = S.2.2) : RC x X M S' := by
  unfold RC
  rw [hp]
  exact hI
theorem RC_spare {x : Int} {X M : Nat → Int} {S : cT} (h : RC x X M S) {j : Nat} : PC S.2.2.1 x X M S.2.2.2 j = none := by
  rcases h.2.2 with ⟨a, b⟩ | ⟨a, b⟩ <;> rw [a, b] <;> exact pc_none (by omega) (by omega) (by omega)
/-- a cell is written, and held to what was written -/
theorem IC_put {P : Nat → Nat → Option Int} {S : cT} {q j : Nat} {v : Int32} (hI : IC P S) (hr : rgB q j = fullI) (hp : pinO q j = true) : IC (pnA P q j v.toInt) (ca S q j v) := by
  refine ⟨fun q' j' => ?_, fun q' j' u hu => ?_, hI.2.2⟩
  · by_cases e : q' = q ∧ j' = j
    · obtain ⟨rfl, rfl⟩ := e
      rw [hr]
      exact bnd _
    · rw [ca_ne (by by_cases z : q' = q; exact Or.inr (fun w => e ⟨z, w⟩); exact Or.inl z)]
      exact hI.1 q' j'
  · unfold pnA at hu
    by_cases e : q' = q ∧ j' = j
    · rw [if_pos e] at hu
      obtain ⟨rfl, rfl⟩ := e
      refine ⟨hp, ?_⟩
      rw [ca_at]
      exact Option.some.inj hu
    · rw [if_neg e] at hu
      rw [ca_ne (by by_cases z : q' = q; exact Or.inr (fun w => e ⟨z, w⟩); exact Or.inl z)]
      exact hI.2.1 q' j' u hu
theorem IC_free {P P' : Nat → Nat → Option Int} {S : cT} (hI : IC P S) (h : ∀ q j v, P' q j = some v → P q j = some v) : IC P' S := ⟨hI.1, fun q j v hv => hI.2.1 q j v (h q j v hv), hI.2.2⟩
theorem rg14 {q : Nat} (h : cK q = 2) : rgB q 14 = fullI := by unfold rgB; rw [h]; rfl
theorem pin14 {q : Nat} (h : cK q = 2) : pinO q 14 = true := by unfold pinO; rw [h]; rfl
theorem RC_x {x : Int} {X M : Nat → Int} {S : cT} (h : RC x X M S) : (S.1 S.2.2.1 14).toInt = x := (h.2.1 S.2.2.1 14 x (by unfold PC; rw [if_pos ⟨rfl, rfl⟩])).2
theorem tc_seed {x : Int} {X M : Nat → Int} {p0 : Int32} {S : cT} (h : RC x X M S) : wp (fc_X11_seed 0 p0 S) (fun w => (0 ≤ p0.toInt → w.1.toInt = x ∧ RC p0.toInt X M w.2) ∧ (p0.toInt < 0 → w.1 = -1 ∧ RC x X M w.2)) := by
  unfold fc_X11_seed
  have l_0 : (0 : Int32).toInt = 0 := by decide
  refine wp_le (fun h0 => ?_) (fun h0 => wp_some ⟨fun z => by omega, fun _ => ⟨rfl, h⟩⟩)
  refine wp_bif (beq_k (IC_isle h)) ?_
  refine wp_letv (fun S3 e3 => wp_some ⟨fun _ => ⟨RC_x h, ?_⟩, fun z => by omega⟩)
  show IC (PC S3.2.2.1 p0.toInt X M) S3
  rw [e3]
  refine IC_free (IC_put h (rg14 (IC_isle h)) (pin14 (IC_isle h))) (fun q j v hv => ?_)
  have hv' : PC S.2.2.1 p0.toInt X M q j = some v := hv
  unfold pnA
  unfold PC at hv' ⊢
  by_cases e : q = S.2.2.1 ∧ j = 14
  · rw [if_pos e]
    rw [if_pos ⟨e.2, e.1⟩] at hv'
    exact hv'
  · rw [if_neg e]
    rw [if_neg (fun z => e ⟨z.2, z.1⟩)] at hv' ⊢
    exact hv'
theorem IC_pinv {P : Nat → Nat → Option Int} {S : cT} {q j : Nat} {v : Int} (hI : IC P S) (h : pinO q j = true) (hv : (S.1 q j).toInt = v) : IC (pnA P q j v) S := by
  subst hv
  exact IC_pin hI h
def noP (P : Nat → Nat → Option Int) (q j : Nat) : Nat → Nat → Option Int := fun q' j' => if q' = q ∧ j' = j then none else P q' j'
theorem IC_noP {P : Nat → Nat → Option Int} {S : cT} (q j : Nat) (hI : IC P S) : IC (noP P q j) S := IC_free hI (fun q' j' v hv => by
  unfold noP at hv
  by_cases e : q' = q ∧ j' = j
  · rw [if_pos e] at hv; cases hv
  · rw [if_neg e] at hv; exact hv)
def upX (X : Nat → Int) (k : Nat) (v : Int) : Nat → Int := fun j => if j = k then v else X j
theorem img_place {k : Nat} (hk : k < 4) : 50 + 12 * k = 50 ∨ 50 + 12 * k = 62 ∨ 50 + 12 * k = 74 ∨ 50 + 12 * k = 86 := by omega
theorem tc_image {x : Int} {X M : Nat → Int} {p0 : Int32} {S : cT} (h : RC x X M S) : wp (fc_X11_image 0 p0 S) (fun w => (¬ (0 ≤ p0.toInt ∧ p0.toInt ≤ 3) → RC x X M w.2) ∧ (0 ≤ p0.toInt ∧ p0.toInt ≤ 3 → RC x (upX X p0.toInt.toNat x) (upX M p0.toInt.toNat 1) w.2)) := by
  unfold fc_X11_image
  have l_0 : (0 : Int32).toInt = 0 := by decide
  have l_4 : (4 : Int32).toInt = 4 := by decide
  refine wp_lt (fun h0 => wp_some ⟨fun _ => h, fun z => by omega⟩) (fun h0 => ?_)
  refine wp_lt (fun h1 => ?_) (fun h1 => wp_some ⟨fun _ => h, fun z => by omega⟩)
  have hkk : p0.toNatClampNeg = p0.toInt.toNat := rfl
  obtain ⟨k, hk⟩ : ∃ k, k = p0.toNatClampNeg := ⟨_, rfl⟩
  have hk4 : k < 4 := by omega
  have hq : cK (50 + 12 * p0.toNatClampNeg) = 2 := k_img (by omega) (by omega)
  have hi := IC_isle h
  have hne : S.2.2.1 ≠ 50 + 12 * p0.toNatClampNeg := by
    rcases h.2.2 with ⟨a, -⟩ | ⟨a, -⟩ <;> rw [a] <;> omega
  refine wp_bif (inb_of (by omega) (by omega)) ?_
  refine wp_bif (beq_k hi) ?_
  have hJ := IC_noP (50 + 12 * p0.toNatClampNeg) 14 h
  have n13 : noP (PC S.2.2.1 x X M) (50 + 12 * p0.toNatClampNeg) 14 (50 + 12 * p0.toNatClampNeg) 13 = none := by
    unfold noP
    rw [if_neg (by omega)]
    exact pc_none (by omega) (by omega) (by omega)
  refine wp_bind (tc_X2_copyFrom hq hi n13 (if_pos ⟨rfl, rfl⟩) hne hJ) (fun q5 r => ?_)
  obtain ⟨i5, p5, -, e14, -⟩ := r
  have i6 := IC_pinv (q := 50 + 12 * p0.toNatClampNeg) (j := 14) (v := x) i5 (pin14 hq) (by rw [e14]; exact RC_x h)
  refine wp_bif (inb_of (by omega) (by omega)) ?_
  refine wp_letv (fun S7 e7 => ?_)
  have hv : (vp_nar .boolean 1 : Int32).toInt = 1 := by decide +kernel
  have i7 : IC (pnA (pnA (noP (PC S.2.2.1 x X M) (50 + 12 * p0.toNatClampNeg) 14) (50 + 12 * p0.toNatClampNeg) 14 x) 98 p0.toNatClampNeg 1) S7 := by
    rw [e7]
    have := IC_put (q := 98) (j := p0.toNatClampNeg) (v := vp_nar .boolean 1) i6 rfl rfl
    rw [hv] at this
    exact this
  have p7 : S7.2.2 = S.2.2 := by rw [e7]; exact p5
  refine wp_bind (tc_X1_forget (b := 0 + 99) rfl i7) (fun q8 r => ?_)
  obtain ⟨i8, p8⟩ := r
  refine wp_bif (beq_k (IC_isle i8)) ?_
  refine wp_some ⟨fun z => absurd ⟨by omega, by omega⟩ z, fun _ => ?_⟩
  show IC (PC q8.2.2.1 x _ _) q8
  rw [p8, p7]
  refine IC_free i8 (fun q j v hv => ?_)
  rw [← hkk, ← hk] at hv
  rw [← hk]
  unfold PC at hv
  unfold pnA noP PC
  by_cases a1 : j = 14 ∧ q = S.2.2.1
  · rw [if_pos a1] at hv
    rw [if_neg (by rcases h.2.2 with ⟨a, -⟩ | ⟨a, -⟩ <;> omega), if_neg (by rcases h.2.2 with ⟨a, -⟩ | ⟨a, -⟩ <;> omega), if_neg (by rcases h.2.2 with ⟨a, -⟩ | ⟨a, -⟩ <;> omega), if_pos a1]
    exact hv
  · rw [if_neg a1] at hv
    by_cases a2 : j = 14 ∧ (q = 50 ∨ q = 62 ∨ q = 74 ∨ q = 86)
    · rw [if_pos a2] at hv
      rw [if_neg (by omega)]
      by_cases a3 : q = 50 + 12 * k ∧ j = 14
      · rw [if_pos a3]
        unfold upX at hv
        rw [if_pos (by omega)] at hv
        exact hv
      · rw [if_neg a3, if_neg a3, if_neg a1, if_pos a2]
        unfold upX at hv
        rw [if_neg (by omega)] at hv
        exact hv
    · rw [if_neg a2] at hv
      by_cases a4 : q = 98 ∧ j < 4
      · rw [if_pos a4] at hv
        unfold upX at hv
        by_cases a5 : q = 98 ∧ j = k
        · rw [if_pos a5]
          rw [if_pos a5.2] at hv
          exact hv
        · rw [if_neg a5, if_neg (by omega), if_neg (by omega), if_neg a1, if_neg a2, if_pos a4]
          rw [if_neg (fun z => a5 ⟨a4.1, z⟩)] at hv
          exact hv
      · rw [if_neg a4] at hv
        cases hv
theorem RC_M {x : Int} {X M : Nat → Int} {S : cT} (h : RC x X M S) {k : Nat} (hk : k < 4) : (S.1 98 k).toInt = M k := (h.2.1 98 k (M k) (by unfold PC; rw [if_neg (by rcases h.2.2 with ⟨a, -⟩ | ⟨a, -⟩ <;> omega), if_neg (by omega), if_pos ⟨rfl, hk⟩])).2
theorem RC_X {x : Int} {X M : Nat → Int} {S : cT} (h : RC x X M S) {k : Nat} (hk : k < 4) : (S.1 (50 + 12 * k) 14).toInt = X k := (h.2.1 (50 + 12 * k) 14 (X k) (by
  unfold PC
  rw [if_neg (by rcases h.2.2 with ⟨a, -⟩ | ⟨a, -⟩ <;> omega), if_pos ⟨rfl, img_place hk⟩, show (50 + 12 * k - 50) / 12 = k by omega])).2
theorem tc_back {x : Int} {X M : Nat → Int} {p0 : Int32} {S : cT} (h : RC x X M S) : wp (fc_X11_back 0 p0 S) (fun w => (¬ (0 ≤ p0.toInt ∧ p0.toInt ≤ 3 ∧ M p0.toInt.toNat ≠ 0) → RC x X M w.2) ∧ (0 ≤ p0.toInt ∧ p0.toInt ≤ 3 ∧ M p0.toInt.toNat ≠ 0 → RC (X p0.toInt.toNat) X M w.2)) := by
  unfold fc_X11_back
  have l_0 : (0 : Int32).toInt = 0 := by decide
  have l_4 : (4 : Int32).toInt = 4 := by decide
  refine wp_lt (fun h0 => wp_some ⟨fun _ => h, fun z => by omega⟩) (fun h0 => ?_)
  refine wp_le (fun h1 => wp_some ⟨fun _ => h, fun z => by omega⟩) (fun h1 => ?_)
  have hkk : p0.toNatClampNeg = p0.toInt.toNat := rfl
  have hq : cK (50 + 12 * p0.toNatClampNeg) = 2 := k_img (by omega) (by omega)
  have hi := IC_isle h
  have hne : 50 + 12 * p0.toNatClampNeg ≠ S.2.2.1 := by
    rcases h.2.2 with ⟨a, -⟩ | ⟨a, -⟩ <;> rw [a] <;> omega
  refine wp_bif (inb_of (by omega) (by omega)) ?_
  refine wp_letv (fun v3 e3 => ?_)
  have m3 : v3.toInt = M p0.toInt.toNat := by
    rw [e3]
    exact RC_M h (k := p0.toInt.toNat) (by omega)
  refine wp_eq (fun hz => wp_some ⟨fun _ => h, fun z => absurd (by omega) z.2.2⟩) (fun hz => ?_)
  refine wp_bif (beq_k hi) ?_
  refine wp_bif (inb_of (by omega) (by omega)) ?_
  have hJ := IC_noP S.2.2.1 14 h
  have n13 : noP (PC S.2.2.1 x X M) S.2.2.1 14 S.2.2.1 13 = none := by
    unfold noP
    rw [if_neg (by omega)]
    exact pc_none (by omega) (by omega) (by rcases h.2.2 with ⟨a, -⟩ | ⟨a, -⟩ <;> omega)
  refine wp_bind (tc_X2_copyFrom hi hq n13 (if_pos ⟨rfl, rfl⟩) hne hJ) (fun q7 r => ?_)
  obtain ⟨i7, p7, -, e14, -⟩ := r
  have i8 := IC_pinv (q := S.2.2.1) (j := 14) (v := X p0.toInt.toNat) i7 (pin14 hi) (by rw [e14]; exact RC_X h (k := p0.toInt.toNat) (by omega))
  refine wp_bind (tc_X1_forget (b := 0 + 99) rfl i8) (fun q8 r => ?_)
  obtain ⟨i9, p9⟩ := r
  refine wp_bif (beq_k (IC_isle i9)) ?_
  refine wp_some ⟨fun z => absurd ⟨by omega, by omega, by omega⟩ z, fun _ => ?_⟩
  show IC (PC q8.2.2.1 _ X M) q8
  rw [p9, p7]
  refine IC_free i9 (fun q j v hv => ?_)
  unfold PC at hv
  unfold pnA noP PC
  by_cases a1 : j = 14 ∧ q = S.2.2.1
  · rw [if_pos a1] at hv
    rw [if_pos ⟨a1.2, a1.1⟩]
    exact hv
  · rw [if_neg a1] at hv
    rw [if_neg (fun z => a1 ⟨z.2, z.1⟩), if_neg (fun z => a1 ⟨z.2, z.1⟩), if_neg a1]
    exact hv
theorem tc_island {x : Int} {X M : Nat → Int} {S : cT} (h : RC x X M S) : wp (fc_X11_island 0 S) (fun w => RC x X M w.2) := by
  unfold fc_X11_island
  have l_0 : (0 : Int32).toInt = 0 := by decide
  refine wp_bif (beq_k (IC_spare h)) ?_
  refine wp_bind (tc_X3_readAll (p0 := 0 + 1) rfl (IC_spare h) h) (fun q2 r => ?_)
  obtain ⟨i2, p2⟩ := r
  refine wp_letv (fun S3 e3 => ?_)
  have i3 : IC (PC S.2.2.1 x X M) S3 := by
    rw [e3]
    exact iw_8_4 (b := 0 + 1) i2 rfl (by omega) (by omega) (pc_none (by omega) (by omega) (by omega))
  have p3 : S3.2.2 = S.2.2 := by rw [e3]; exact p2
  refine wp_eqn (fun _ => ?_) (wp_some (RC_keep i3 p3))
  refine wp_bif (beq_k (IC_spare i3)) ?_
  refine wp_bif (beq_k (IC_isle i3)) ?_
  refine wp_letv (fun S7 e7 => ?_)
  have i7 : IC (PC S.2.2.1 x X M) S7 := by
    rw [e7]
    exact iw_2_13 i3 (IC_spare i3) (by rw [p3]; exact RC_spare h)
  have p7 : S7.2.2 = S.2.2 := by rw [e7]; exact p3
  refine wp_bif (beq_k (IC_spare i7)) ?_
  refine wp_bif (beq_k (IC_isle i7)) ?_
  refine wp_letv (fun S10 e10 => ?_)
  have x7 : (S7.1 S7.2.2.1 14).toInt = x := RC_x (RC_keep i7 p7)
  have i10 : IC (PC S.2.2.1 x X M) S10 := by
    rw [e10]
    exact iw_2_14 i7 (IC_spare i7) (by rw [p7]; exact RC_spare h)
  have p10 : S10.2.2 = S.2.2 := by rw [e10]; exact p7
  have x10 : (S10.1 S10.2.2.2 14).toInt = x := by
    rw [e10]
    show ((ca S7 S7.2.2.2 14 (S7.1 S7.2.2.1 14)).1 S7.2.2.2 14).toInt = x
    rw [ca_at]
    exact x7
  refine wp_bif (beq_k (IC_isle i10)) ?_
  refine wp_bif (beq_k (IC_spare i10)) ?_
  refine wp_letv (fun S13 e13 => ?_)
  refine wp_letv (fun S14 e14 => ?_)
  have hs : S14 = cs S10 S10.2.2.2 S10.2.2.1 := by rw [e14, e13]; rfl
  have i14 : IC (PC S10.2.2.2 x X M) S14 := by
    rw [hs]
    refine ⟨i10.1, fun q j v hv => ?_, ?_⟩
    · unfold PC at hv
      by_cases a1 : j = 14 ∧ q = S10.2.2.2
      · rw [if_pos a1] at hv
        obtain ⟨rfl, rfl⟩ := a1
        exact ⟨pin14 (IC_spare i10), x10.trans (Option.some.inj hv)⟩
      · rw [if_neg a1] at hv
        refine i10.2.1 q j v ?_
        unfold PC
        by_cases a2 : j = 14 ∧ q = S.2.2.1
        · exfalso
          rw [if_neg (by rcases h.2.2 with ⟨a, -⟩ | ⟨a, -⟩ <;> omega), if_neg (by omega)] at hv
          cases hv
        · rw [if_neg a2]
          exact hv
    · show (S10.2.2.2 = 113 ∧ S10.2.2.1 = 125) ∨ (S10.2.2.2 = 125 ∧ S10.2.2.1 = 113)
      rcases i10.2.2 with ⟨a, b⟩ | ⟨a, b⟩
      · exact Or.inr ⟨b, a⟩
      · exact Or.inl ⟨b, a⟩
  have p14 : S14.2.2.1 = S10.2.2.2 := by rw [hs]; rfl
  refine wp_bind (tc_X1_forget (b := 0 + 99) rfl i14) (fun q15 r => ?_)
  obtain ⟨i15, p15⟩ := r
  refine wp_bif (beq_k (IC_isle i15)) ?_
  refine wp_some ?_
  show IC (PC q15.2.2.1 x X M) q15
  rw [p15, p14]
  exact i15
