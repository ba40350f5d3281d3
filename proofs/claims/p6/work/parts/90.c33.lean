/-! ===== the class: x, the images' x, and which images are made ===== -/
def PC (i : Nat) (x : Int) (X M : Nat → Int) : Nat → Nat → Option Int := fun q j =>
  if j = 14 ∧ q = i then some x else if j = 14 ∧ (q = 50 ∨ q = 62 ∨ q = 74 ∨ q = 86) then some (X ((q - 50) / 12)) else if q = 98 ∧ j < 4 then some (M j) else none
def RC (x : Int) (X M : Nat → Int) (S : cT) : Prop := IC (PC S.2.2.1 x X M) S
theorem pc_none {i q j : Nat} {x : Int} {X M : Nat → Int} (h1 : ¬ (j = 14 ∧ q = i)) (h2 : ¬ (j = 14 ∧ (q = 50 ∨ q = 62 ∨ q = 74 ∨ q = 86))) (h3 : ¬ (q = 98 ∧ j < 4)) : PC i x X M q j = none := by
  unfold PC
  rw [if_neg h1, if_neg h2, if_neg h3]
theorem RC_keep {x : Int} {X M : Nat → Int} {S S' : cT} (hI : IC (PC S.2.2.1 x X M) S') (hp : S'.2.2 = S.2.2) : RC x X M S' := by
  unfold RC
  rw [hp]
  exact hI
theorem RC_spare {x : Int} {X M : Nat → Int} {S : cT} (h : RC x X M S) {j : Nat} : PC S.2.2.1 x X M S.2.2.2 j = none := by
  rcases h.2.2 with ⟨a, b⟩ | ⟨a, b⟩ <;> rw [a, b] <;> exact pc_none (by omega) (by omega) (by omega)
/-- a cell is written, and held to what was written -/
theorem IC_put {P : Nat → Nat → Option Int} {S : cT} {q j : Nat} {v : Int32} (hI : IC P S) (hr : rgB q j = fullI) (hp : pinO q j = true) : IC (pnA P q j v.toInt) (ca S q j v) := by
  refine ⟨fun q' j' => ?_, fun q' j' u hu => ?_, hI.2.2⟩
  · by_cases e : q' = q ∧ j' = j
    · obtain ⟨rfl, rfl⟩ := e
      rw [hr]
      exact bnd _
    · rw [ca_ne (by by_cases z : q' = q; exact Or.inr (fun w => e ⟨z, w⟩); exact Or.inl z)]
      exact hI.1 q' j'
  · unfold pnA at hu
    by_cases e : q' = q ∧ j' = j
    · rw [if_pos e] at hu
      obtain ⟨rfl, rfl⟩ := e
      refine ⟨hp, ?_⟩
      rw [ca_at]
      exact Option.some.inj hu
    · rw [if_neg e] at hu
      rw [ca_ne (by by_cases z : q' = q; exact Or.inr (fun w => e ⟨z, w⟩); exact Or.inl z)]
      exact hI.2.1 q' j' u hu
theorem IC_free {P P' : Nat → Nat → Option Int} {S : cT} (hI : IC P S) (h : ∀ q j v, P' q j = some v → P q j = some v) : IC P' S := ⟨hI.1, fun q j v hv => hI.2.1 q j v (h q j v hv), hI.2.2⟩
theorem rg14 {q : Nat} (h : cK q = 2) : rgB q 14 = fullI := by unfold rgB; rw [h]; rfl
theorem pin14 {q : Nat} (h : cK q = 2) : pinO q 14 = true := by unfold pinO; rw [h]; rfl
theorem RC_x {x : Int} {X M : Nat → Int} {S : cT} (h : RC x X M S) : (S.1 S.2.2.1 14).toInt = x := (h.2.1 S.2.2.1 14 x (by unfold PC; rw [if_pos ⟨rfl, rfl⟩])).2
theorem tc_seed {x : Int} {X M : Nat → Int} {p0 : Int32} {S : cT} (h : RC x X M S) : wp (fc_X11_seed 0 p0 S) (fun w => (0 ≤ p0.toInt → w.1.toInt = x ∧ RC p0.toInt X M w.2) ∧ (p0.toInt < 0 → w.1 = -1 ∧ RC x X M w.2)) := by
  unfold fc_X11_seed
  have l_0 : (0 : Int32).toInt = 0 := by decide
  refine wp_le (fun h0 => ?_) (fun h0 => wp_some ⟨fun z => by omega, fun _ => ⟨rfl, h⟩⟩)
  refine wp_bif (beq_k (IC_isle h)) ?_
  refine wp_letv (fun S3 e3 => wp_some ⟨fun _ => ⟨RC_x h, ?_⟩, fun z => by omega⟩)
  show IC (PC S3.2.2.1 p0.toInt X M) S3
  rw [e3]
  refine IC_free (IC_put h (rg14 (IC_isle h)) (pin14 (IC_isle h))) (fun q j v hv => ?_)
  have hv' : PC S.2.2.1 p0.toInt X M q j = some v := hv
  unfold pnA
  unfold PC at hv' ⊢
  by_cases e : q = S.2.2.1 ∧ j = 14
  · rw [if_pos e]
    rw [if_pos ⟨e.2, e.1⟩] at hv'
    exact hv'
  · rw [if_neg e]
    rw [if_neg (fun z => e ⟨z.2, z.1⟩)] at hv' ⊢
    exact hv'
theorem IC_pinv {P : Nat → Nat → Option Int} {S : cT} {q j : Nat} {v : Int} (hI : IC P S) (h : pinO q j = true) (hv : (S.1 q j).toInt = v) : IC (pnA P q j v) S := by
  subst hv
  exact IC_pin hI h
def noP (P : Nat → Nat → Option Int) (q j : Nat) : Nat → Nat → Option Int := fun q' j' => if q' = q ∧ j' = j then none else P q' j'
theorem IC_noP {P : Nat → Nat → Option Int} {S : cT} (q j : Nat) (hI : IC P S) : IC (noP P q j) S := IC_free hI (fun q' j' v hv => by
  unfold noP at hv
  by_cases e : q' = q ∧ j' = j
  · rw [if_pos e] at hv; cases hv
  · rw [if_neg e] at hv; exact hv)
def upX (X : Nat → Int) (k : Nat) (v : Int) : Nat → Int := fun j => if j = k then v else X j
theorem img_place {k : Nat} (hk : k < 4) : 50 + 12 * k = 50 ∨ 50 + 12 * k = 62 ∨ 50 + 12 * k = 74 ∨ 50 + 12 * k = 86 := by omega
