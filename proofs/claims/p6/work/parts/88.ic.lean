/-! ===== what is told of the class's cells: ranges by kind, cells that are held to a number, the two isles ===== -/
abbrev fullI : Int × Int := (-2147483648, 2147483647)
def rW (q : Nat) : Int := if cN (q + 1) = 280 then 7 else if cN (q + 1) = 40 then 4 else 2
def rR (q : Nat) : Int := if cN (q + 1) = 280 then 40 else if cN (q + 1) = 40 then 10 else 8
def rgB (q j : Nat) : Int × Int := match cK q with
  | 2 => if j = 8 then (0, 6) else if j = 9 then (0, 8) else if j = 11 then (0, 1) else fullI
  | 4 => if j = 3 then (0, 16) else fullI
  | 5 => if j = 1 then (rW q, rW q) else if j = 2 then (rR q, rR q) else if j = 3 then (0, rR q) else fullI
  | 6 => if j = 5 then (0, 400) else if j = 6 then (0, 12) else fullI
  | 8 => if j = 4 then (0, 400) else if j = 5 then (0, 401) else if j = 6 then (0, 400) else fullI
  | 9 => if j = 11 then (0, 6) else fullI
  | _ => fullI
/-- rows of an isle that no act writes: faces, boats, ties, wishes, views; and the two that count wishes and views -/
def sRL : List Nat := [51, 54, 55, 59, 61, 63, 66, 67, 71, 73, 75, 78, 79, 83, 85, 87, 90, 91, 95, 97, 114, 117, 118, 122, 124, 126, 129, 130, 134, 136]
def sQL : List Nat := [58, 60, 70, 72, 82, 84, 94, 96, 121, 123, 133, 135]
def sR (q : Nat) : Bool := sRL.any (Nat.beq q)
def sQ (q : Nat) : Bool := sQL.any (Nat.beq q)
def pinO (q j : Nat) : Bool := match cK q with
  | 2 => Nat.beq j 8 || Nat.beq j 9 || Nat.beq j 13 || Nat.beq j 14
  | 5 => Nat.beq j 3 && sQ q
  | 23 => true
  | 9 => Nat.beq j 11
  | 8 => Nat.beq j 4
  | 20 => Nat.beq q 2 || sR q
  | _ => false
def IC (P : Nat → Nat → Option Int) (S : cT) : Prop := (∀ q j, (rgB q j).1 ≤ (S.1 q j).toInt ∧ (S.1 q j).toInt ≤ (rgB q j).2) ∧ (∀ q j v, P q j = some v → pinO q j = true ∧ (S.1 q j).toInt = v) ∧ ((S.2.2.1 = 113 ∧ S.2.2.2 = 125) ∨ (S.2.2.1 = 125 ∧ S.2.2.2 = 113))
section ICS
variable {P : Nat → Nat → Option Int} {S : cT} {q b : Nat}
theorem ca_ne {S : cT} {q i q' i' : Nat} {v : Int32} (h : q' ≠ q ∨ i' ≠ i) : (ca S q i v).1 q' i' = S.1 q' i' := by
  by_cases e : q' = q
  · subst e
    exact ca_ni S q' v (h.elim (fun z => absurd rfl z) id)
  · rw [ca_no S i v e]
theorem cf_ne {S : cT} {q q' i' : Nat} {F : Nat → Int32} (h : q' ≠ q) : (cf S q F).1 q' i' = S.1 q' i' := congrFun (va_up_ne _ _ h) i'
theorem IC.isle_or (hI : IC P S) : (S.2.2.1 = 113 ∧ S.2.2.2 = 125) ∨ (S.2.2.1 = 125 ∧ S.2.2.2 = 113) := hI.2.2
theorem IC_isle (hI : IC P S) : cK S.2.2.1 = 2 := by
  rcases hI.2.2 with ⟨h, -⟩ | ⟨h, -⟩ <;> rw [h] <;> rfl
theorem IC_spare (hI : IC P S) : cK S.2.2.2 = 2 := by
  rcases hI.2.2 with ⟨-, h⟩ | ⟨-, h⟩ <;> rw [h] <;> rfl
theorem no_pin (hI : IC P S) {q i : Nat} (h : pinO q i = false) : P q i = none := by
  cases e : P q i with
  | none => rfl
  | some v => exact absurd (hI.2.1 q i v e).1 (by rw [h]; decide)
theorem IC_ca (hI : IC P S) {q i : Nat} {v : Int32} (h : (rgB q i).1 ≤ v.toInt ∧ v.toInt ≤ (rgB q i).2) (hp : P q i = none) : IC P (ca S q i v) := by
  refine ⟨fun q' j => ?_, fun q' j u hu => ?_, hI.2.2⟩
  · by_cases e : q' = q ∧ j = i
    · obtain ⟨rfl, rfl⟩ := e
      rw [ca_at]
      exact h
    · rw [ca_ne (by by_cases z : q' = q; exact Or.inr (fun w => e ⟨z, w⟩); exact Or.inl z)]
      exact hI.1 q' j
  · have e : ¬ (q' = q ∧ j = i) := by
      rintro ⟨rfl, rfl⟩
      rw [hp] at hu
      cases hu
    obtain ⟨h1, h2⟩ := hI.2.1 q' j u hu
    refine ⟨h1, ?_⟩
    rw [ca_ne (by by_cases z : q' = q; exact Or.inr (fun w => e ⟨z, w⟩); exact Or.inl z)]
    exact h2
theorem rg20 {q j : Nat} (hk : cK q = 20) : rgB q j = fullI := by unfold rgB; rw [hk]; rfl
theorem beqf {a b : Nat} (h : a ≠ b) : Nat.beq a b = false := by
  cases e : Nat.beq a b with
  | false => rfl
  | true => exact absurd (Nat.eq_of_beq_eq_true e) h
theorem pin20 {j : Nat} (hk : cK q = 20 ∧ q ≠ 2 ∧ sR q = false) : pinO q j = false := by
  unfold pinO
  rw [hk.1]
  show (Nat.beq q 2 || sR q) = false
  rw [beqf hk.2.1, hk.2.2]
  rfl
/-- nothing of isle b is held -/
def NP (P : Nat → Nat → Option Int) (b : Nat) : Prop := ∀ o j, o < 12 → P (b + o) j = none
theorem iw_b (hI : IC P S) {i : Nat} {v : Int32} (hk : cK q = 20) (hp : P q i = none) : IC P (ca S q i v) := IC_ca hI (by rw [rg20 hk]; exact bnd v) hp
theorem iw_20 (hI : IC P S) {i : Nat} {v : Int32} (hk : cK q = 20 ∧ q ≠ 2 ∧ sR q = false) : IC P (ca S q i v) := IC_ca hI (by rw [rg20 hk.1]; exact bnd v) (no_pin hI (pin20 hk))
theorem iwf_20 (hI : IC P S) {F : Nat → Int32} (hk : cK q = 20 ∧ q ≠ 2 ∧ sR q = false) : IC P (cf S q F) := by
  refine ⟨fun q' j => ?_, fun q' j u hu => ?_, hI.2.2⟩
  · by_cases e : q' = q
    · subst e
      rw [rg20 hk.1]
      exact bnd _
    · rw [cf_ne e]
      exact hI.1 q' j
  · have e : q' ≠ q := by
      rintro rfl
      rw [no_pin hI (pin20 hk)] at hu
      cases hu
    rw [cf_ne e]
    exact hI.2.1 q' j u hu
theorem iwf_b (hI : IC P S) {F : Nat → Int32} (hk : cK q = 20) (hp : ∀ j, P q j = none) : IC P (cf S q F) := by
  refine ⟨fun q' j => ?_, fun q' j u hu => ?_, hI.2.2⟩
  · by_cases e : q' = q
    · subst e
      rw [rg20 hk]
      exact bnd _
    · rw [cf_ne e]
      exact hI.1 q' j
  · have e : q' ≠ q := by
      rintro rfl
      rw [hp j] at hu
      cases hu
    rw [cf_ne e]
    exact hI.2.1 q' j u hu
theorem iw_cb (hI : IC P S) {i : Nat} {v : Int64} : IC P (cb S q i v) := hI
theorem k_rule {e : Int32} (h0 : 0 ≤ e.toInt) (h1 : e.toInt < 6) : cK (7 + 6 * e.toNatClampNeg) = 6 := by
  have h : e.toNatClampNeg = e.toInt.toNat := rfl
  rw [h]
  obtain ⟨n, hn⟩ : ∃ n, n = e.toInt.toNat := ⟨_, rfl⟩
  rw [← hn]
  rcases (show n = 0 ∨ n = 1 ∨ n = 2 ∨ n = 3 ∨ n = 4 ∨ n = 5 by omega) with rfl | rfl | rfl | rfl | rfl | rfl <;> rfl
theorem k_img {e : Int32} (h0 : 0 ≤ e.toInt) (h1 : e.toInt < 4) : cK (50 + 12 * e.toNatClampNeg) = 2 := by
  have h : e.toNatClampNeg = e.toInt.toNat := rfl
  rw [h]
  obtain ⟨n, hn⟩ : ∃ n, n = e.toInt.toNat := ⟨_, rfl⟩
  rw [← hn]
  rcases (show n = 0 ∨ n = 1 ∨ n = 2 ∨ n = 3 by omega) with rfl | rfl | rfl | rfl <;> rfl
theorem ko_of {K o K2 : Nat} (h : ((List.range 137).all fun q => !(Nat.beq (cK q) K) || Nat.beq (cK (q + o)) K2) = true) (hK : K < 99) (hb : cK b = K) : cK (b + o) = K2 := by
  have := cK_all h (cK_lt hb hK)
  rw [hb, Nat.beq_refl] at this
  exact Nat.eq_of_beq_eq_true (by simpa using this)
theorem ks_of {K o : Nat} (h : ((List.range 137).all fun q => !(Nat.beq (cK q) K) || !(sR (q + o))) = true) (hK : K < 99) (hb : cK b = K) : sR (b + o) = false := by
  have := cK_all h (cK_lt hb hK)
  rw [hb, Nat.beq_refl] at this
  simpa using this
theorem np_of {K o j : Nat} (h : ((List.range 137).all fun q => !(Nat.beq (cK q) K) || !(pinO (q + o) j)) = true) (hK : K < 99) (hI : IC P S) (hb : cK b = K) : P (b + o) j = none := no_pin hI (by
  have := cK_all h (cK_lt hb hK)
  rw [hb, Nat.beq_refl] at this
  simpa using this)
theorem np_26 (hI : IC P S) (hb : cK b = 2) : P (b + 6) 3 = none := np_of (by decide +kernel) (by decide) hI hb
theorem kwz {b c k : Nat} (h : b = c) (hb : cK b = k) (n : cK c ≠ k) : False := by
  rw [h] at hb
  exact n hb
theorem ko_0_1 (hb : cK b = 0) : cK (b + 1) = 20 := ko_of (K2 := 20) (by decide +kernel) (by decide) hb
theorem kw_0_1 (hb : cK b = 0) : cK (b + 1) = 20 ∧ b + 1 ≠ 2 ∧ sR (b + 1) = false := ⟨ko_0_1 hb, fun z => kwz (show b = 1 by omega) hb (by decide), ks_of (by decide +kernel) (by decide) hb⟩
theorem ko_0_2 (hb : cK b = 0) : cK (b + 2) = 20 := ko_of (K2 := 20) (by decide +kernel) (by decide) hb
theorem kw_0_2 (hb : cK b = 0) : cK (b + 2) = 20 ∧ b + 2 ≠ 2 ∧ sR (b + 2) = false := ⟨ko_0_2 hb, fun z => kwz (show b = 0 by omega) hb (by decide), ks_of (by decide +kernel) (by decide) hb⟩
theorem ko_1_1 (hb : cK b = 1) : cK (b + 1) = 20 := ko_of (K2 := 20) (by decide +kernel) (by decide) hb
theorem kw_1_1 (hb : cK b = 1) : cK (b + 1) = 20 ∧ b + 1 ≠ 2 ∧ sR (b + 1) = false := ⟨ko_1_1 hb, fun z => kwz (show b = 1 by omega) hb (by decide), ks_of (by decide +kernel) (by decide) hb⟩
theorem ko_2_1 (hb : cK b = 2) : cK (b + 1) = 20 := ko_of (K2 := 20) (by decide +kernel) (by decide) hb
theorem ko_2_2 (hb : cK b = 2) : cK (b + 2) = 20 := ko_of (K2 := 20) (by decide +kernel) (by decide) hb
theorem kw_2_2 (hb : cK b = 2) : cK (b + 2) = 20 ∧ b + 2 ≠ 2 ∧ sR (b + 2) = false := ⟨ko_2_2 hb, fun z => kwz (show b = 0 by omega) hb (by decide), ks_of (by decide +kernel) (by decide) hb⟩
theorem ko_2_3 (hb : cK b = 2) : cK (b + 3) = 20 := ko_of (K2 := 20) (by decide +kernel) (by decide) hb
theorem kw_2_3 (hb : cK b = 2) : cK (b + 3) = 20 ∧ b + 3 ≠ 2 ∧ sR (b + 3) = false := ⟨ko_2_3 hb, fun z => by omega, ks_of (by decide +kernel) (by decide) hb⟩
theorem ko_2_4 (hb : cK b = 2) : cK (b + 4) = 20 := ko_of (K2 := 20) (by decide +kernel) (by decide) hb
theorem ko_2_5 (hb : cK b = 2) : cK (b + 5) = 20 := ko_of (K2 := 20) (by decide +kernel) (by decide) hb
theorem ko_2_6 (hb : cK b = 2) : cK (b + 6) = 5 := ko_of (K2 := 5) (by decide +kernel) (by decide) hb
theorem ko_2_7 (hb : cK b = 2) : cK (b + 7) = 20 := ko_of (K2 := 20) (by decide +kernel) (by decide) hb
theorem kw_2_7 (hb : cK b = 2) : cK (b + 7) = 20 ∧ b + 7 ≠ 2 ∧ sR (b + 7) = false := ⟨ko_2_7 hb, fun z => by omega, ks_of (by decide +kernel) (by decide) hb⟩
theorem np_27 (hI : IC P S) (hb : cK b = 2) (j : Nat) : P (b + 6 + 1) j = none := no_pin hI (pin20 (by
  have e : b + 6 + 1 = b + 7 := rfl
  rw [e]
  exact kw_2_7 hb))
theorem ko_2_8 (hb : cK b = 2) : cK (b + 8) = 5 := ko_of (K2 := 5) (by decide +kernel) (by decide) hb
theorem ko_2_9 (hb : cK b = 2) : cK (b + 9) = 20 := ko_of (K2 := 20) (by decide +kernel) (by decide) hb
theorem ko_2_10 (hb : cK b = 2) : cK (b + 10) = 5 := ko_of (K2 := 5) (by decide +kernel) (by decide) hb
theorem ko_2_11 (hb : cK b = 2) : cK (b + 11) = 20 := ko_of (K2 := 20) (by decide +kernel) (by decide) hb
theorem ko_3_1 (hb : cK b = 3) : cK (b + 1) = 7 := ko_of (K2 := 7) (by decide +kernel) (by decide) hb
theorem ko_3_4 (hb : cK b = 3) : cK (b + 4) = 20 := ko_of (K2 := 20) (by decide +kernel) (by decide) hb
theorem kw_3_4 (hb : cK b = 3) : cK (b + 4) = 20 ∧ b + 4 ≠ 2 ∧ sR (b + 4) = false := ⟨ko_3_4 hb, fun z => by omega, ks_of (by decide +kernel) (by decide) hb⟩
theorem ko_4_2 (hb : cK b = 4) : cK (b + 2) = 20 := ko_of (K2 := 20) (by decide +kernel) (by decide) hb
theorem kw_4_2 (hb : cK b = 4) : cK (b + 2) = 20 ∧ b + 2 ≠ 2 ∧ sR (b + 2) = false := ⟨ko_4_2 hb, fun z => kwz (show b = 0 by omega) hb (by decide), ks_of (by decide +kernel) (by decide) hb⟩
theorem ko_4_3 (hb : cK b = 4) : cK (b + 3) = 20 := ko_of (K2 := 20) (by decide +kernel) (by decide) hb
theorem kw_4_3 (hb : cK b = 4) : cK (b + 3) = 20 ∧ b + 3 ≠ 2 ∧ sR (b + 3) = false := ⟨ko_4_3 hb, fun z => by omega, ks_of (by decide +kernel) (by decide) hb⟩
theorem ko_5_1 (hb : cK b = 5) : cK (b + 1) = 20 := ko_of (K2 := 20) (by decide +kernel) (by decide) hb
theorem ko_6_1 (hb : cK b = 6) : cK (b + 1) = 20 := ko_of (K2 := 20) (by decide +kernel) (by decide) hb
theorem kw_6_1 (hb : cK b = 6) : cK (b + 1) = 20 ∧ b + 1 ≠ 2 ∧ sR (b + 1) = false := ⟨ko_6_1 hb, fun z => kwz (show b = 1 by omega) hb (by decide), ks_of (by decide +kernel) (by decide) hb⟩
theorem ko_6_2 (hb : cK b = 6) : cK (b + 2) = 20 := ko_of (K2 := 20) (by decide +kernel) (by decide) hb
theorem kw_6_2 (hb : cK b = 6) : cK (b + 2) = 20 ∧ b + 2 ≠ 2 ∧ sR (b + 2) = false := ⟨ko_6_2 hb, fun z => kwz (show b = 0 by omega) hb (by decide), ks_of (by decide +kernel) (by decide) hb⟩
theorem ko_6_3 (hb : cK b = 6) : cK (b + 3) = 20 := ko_of (K2 := 20) (by decide +kernel) (by decide) hb
theorem kw_6_3 (hb : cK b = 6) : cK (b + 3) = 20 ∧ b + 3 ≠ 2 ∧ sR (b + 3) = false := ⟨ko_6_3 hb, fun z => by omega, ks_of (by decide +kernel) (by decide) hb⟩
theorem ko_6_4 (hb : cK b = 6) : cK (b + 4) = 20 := ko_of (K2 := 20) (by decide +kernel) (by decide) hb
theorem kw_6_4 (hb : cK b = 6) : cK (b + 4) = 20 ∧ b + 4 ≠ 2 ∧ sR (b + 4) = false := ⟨ko_6_4 hb, fun z => by omega, ks_of (by decide +kernel) (by decide) hb⟩
theorem ko_6_5 (hb : cK b = 6) : cK (b + 5) = 20 := ko_of (K2 := 20) (by decide +kernel) (by decide) hb
theorem kw_6_5 (hb : cK b = 6) : cK (b + 5) = 20 ∧ b + 5 ≠ 2 ∧ sR (b + 5) = false := ⟨ko_6_5 hb, fun z => by omega, ks_of (by decide +kernel) (by decide) hb⟩
theorem ko_7_2 (hb : cK b = 7) : cK (b + 2) = 21 := ko_of (K2 := 21) (by decide +kernel) (by decide) hb
theorem ko_8_1 (hb : cK b = 8) : cK (b + 1) = 20 := ko_of (K2 := 20) (by decide +kernel) (by decide) hb
theorem ko_8_2 (hb : cK b = 8) : cK (b + 2) = 20 := ko_of (K2 := 20) (by decide +kernel) (by decide) hb
theorem kw_8_2 (hb : cK b = 8) : cK (b + 2) = 20 ∧ b + 2 ≠ 2 ∧ sR (b + 2) = false := ⟨ko_8_2 hb, fun z => kwz (show b = 0 by omega) hb (by decide), ks_of (by decide +kernel) (by decide) hb⟩
theorem ko_8_3 (hb : cK b = 8) : cK (b + 3) = 20 := ko_of (K2 := 20) (by decide +kernel) (by decide) hb
theorem kw_8_3 (hb : cK b = 8) : cK (b + 3) = 20 ∧ b + 3 ≠ 2 ∧ sR (b + 3) = false := ⟨ko_8_3 hb, fun z => by omega, ks_of (by decide +kernel) (by decide) hb⟩
theorem ko_8_4 (hb : cK b = 8) : cK (b + 4) = 20 := ko_of (K2 := 20) (by decide +kernel) (by decide) hb
theorem kw_8_4 (hb : cK b = 8) : cK (b + 4) = 20 ∧ b + 4 ≠ 2 ∧ sR (b + 4) = false := ⟨ko_8_4 hb, fun z => by omega, ks_of (by decide +kernel) (by decide) hb⟩
theorem ko_9_1 (hb : cK b = 9) : cK (b + 1) = 8 := ko_of (K2 := 8) (by decide +kernel) (by decide) hb
theorem ko_9_43 (hb : cK b = 9) : cK (b + 43) = 6 := ko_of (K2 := 6) (by decide +kernel) (by decide) hb
theorem ko_9_98 (hb : cK b = 9) : cK (b + 98) = 23 := ko_of (K2 := 23) (by decide +kernel) (by decide) hb
theorem ko_9_99 (hb : cK b = 9) : cK (b + 99) = 1 := ko_of (K2 := 1) (by decide +kernel) (by decide) hb
theorem ko_9_101 (hb : cK b = 9) : cK (b + 101) = 3 := ko_of (K2 := 3) (by decide +kernel) (by decide) hb
theorem ko_9_106 (hb : cK b = 9) : cK (b + 106) = 4 := ko_of (K2 := 4) (by decide +kernel) (by decide) hb
theorem ko_9_110 (hb : cK b = 9) : cK (b + 110) = 0 := ko_of (K2 := 0) (by decide +kernel) (by decide) hb
theorem ic_2_8 (hI : IC P S) (hb : cK b = 2) : 0 ≤ (S.1 b 8).toInt ∧ (S.1 b 8).toInt ≤ 6 := by
  have := hI.1 b 8
  unfold rgB at this
  rw [hb] at this
  exact this
theorem ic_2_9 (hI : IC P S) (hb : cK b = 2) : 0 ≤ (S.1 b 9).toInt ∧ (S.1 b 9).toInt ≤ 8 := by
  have := hI.1 b 9
  unfold rgB at this
  rw [hb] at this
  exact this
theorem ic_2_11 (hI : IC P S) (hb : cK b = 2) : 0 ≤ (S.1 b 11).toInt ∧ (S.1 b 11).toInt ≤ 1 := by
  have := hI.1 b 11
  unfold rgB at this
  rw [hb] at this
  exact this
theorem ic_4_3 (hI : IC P S) (hb : cK b = 4) : 0 ≤ (S.1 b 3).toInt ∧ (S.1 b 3).toInt ≤ 16 := by
  have := hI.1 b 3
  unfold rgB at this
  rw [hb] at this
  exact this
theorem ic_6_5 (hI : IC P S) (hb : cK b = 6) : 0 ≤ (S.1 b 5).toInt ∧ (S.1 b 5).toInt ≤ 400 := by
  have := hI.1 b 5
  unfold rgB at this
  rw [hb] at this
  exact this
theorem ic_6_6 (hI : IC P S) (hb : cK b = 6) : 0 ≤ (S.1 b 6).toInt ∧ (S.1 b 6).toInt ≤ 12 := by
  have := hI.1 b 6
  unfold rgB at this
  rw [hb] at this
  exact this
theorem ic_8_4 (hI : IC P S) (hb : cK b = 8) : 0 ≤ (S.1 b 4).toInt ∧ (S.1 b 4).toInt ≤ 400 := by
  have := hI.1 b 4
  unfold rgB at this
  rw [hb] at this
  exact this
theorem ic_8_5 (hI : IC P S) (hb : cK b = 8) : 0 ≤ (S.1 b 5).toInt ∧ (S.1 b 5).toInt ≤ 401 := by
  have := hI.1 b 5
  unfold rgB at this
  rw [hb] at this
  exact this
theorem ic_8_6 (hI : IC P S) (hb : cK b = 8) : 0 ≤ (S.1 b 6).toInt ∧ (S.1 b 6).toInt ≤ 400 := by
  have := hI.1 b 6
  unfold rgB at this
  rw [hb] at this
  exact this
theorem ic_9_11 (hI : IC P S) (hb : cK b = 9) : 0 ≤ (S.1 b 11).toInt ∧ (S.1 b 11).toInt ≤ 6 := by
  have := hI.1 b 11
  unfold rgB at this
  rw [hb] at this
  exact this
theorem rows3 (hb : cK b = 5) : (rW b = 7 ∧ rR b = 40 ∧ cN (b + 1) = 280) ∨ (rW b = 4 ∧ rR b = 10 ∧ cN (b + 1) = 40) ∨ (rW b = 2 ∧ rR b = 8 ∧ cN (b + 1) = 16) := by
  have h : ((List.range 137).all fun q => !(Nat.beq (cK q) 5) || (Nat.beq (cN (q + 1)) 280 || Nat.beq (cN (q + 1)) 40 || Nat.beq (cN (q + 1)) 16)) = true := by decide +kernel
  have := cK_all h (cK_lt hb (by decide))
  rw [hb, Nat.beq_refl] at this
  have h2 : cN (b + 1) = 280 ∨ cN (b + 1) = 40 ∨ cN (b + 1) = 16 := by
    rcases Bool.or_eq_true_iff.mp (show (Nat.beq (cN (b + 1)) 280 || Nat.beq (cN (b + 1)) 40 || Nat.beq (cN (b + 1)) 16) = true by simpa using this) with z | z
    · rcases Bool.or_eq_true_iff.mp z with w | w
      · exact Or.inl (Nat.eq_of_beq_eq_true w)
      · exact Or.inr (Or.inl (Nat.eq_of_beq_eq_true w))
    · exact Or.inr (Or.inr (Nat.eq_of_beq_eq_true z))
  unfold rW rR
  rcases h2 with h | h | h <;> rw [h] <;> decide
theorem ic_5 (hI : IC P S) (hb : cK b = 5) : (S.1 b 1).toInt = rW b ∧ (S.1 b 2).toInt = rR b ∧ 0 ≤ (S.1 b 3).toInt ∧ (S.1 b 3).toInt ≤ rR b ∧ rR b ≤ 40 ∧ 2 ≤ rW b ∧ rW b ≤ 7 := by
  have h1 := hI.1 b 1
  have h2 := hI.1 b 2
  have h3 := hI.1 b 3
  unfold rgB at h1 h2 h3
  rw [hb] at h1 h2 h3
  have r := rows3 hb
  exact ⟨Int.le_antisymm h1.2 h1.1, Int.le_antisymm h2.2 h2.1, h3.1, h3.2, by omega, by omega, by omega⟩
theorem cn_of {K o n : Nat} (h : ((List.range 137).all fun q => !(Nat.beq (cK q) K) || Nat.beq (cN (q + o)) n) = true) (hK : K < 99) (hb : cK b = K) : cN (b + o) = n := by
  have := cK_all h (cK_lt hb hK)
  rw [hb, Nat.beq_refl] at this
  exact Nat.eq_of_beq_eq_true (by simpa using this)
theorem rr_2_6 (hb : cK b = 2) : rW (b + 6) = 7 ∧ rR (b + 6) = 40 := by
  have := cn_of (b := b) (o := 7) (n := 280) (by decide +kernel) (by decide) hb
  unfold rW rR
  rw [show b + 6 + 1 = b + 7 from rfl, this]
  decide
theorem ic_2_6_1 (hI : IC P S) (hb : cK b = 2) : 7 ≤ (S.1 (b + 6) 1).toInt ∧ (S.1 (b + 6) 1).toInt ≤ 7 := by
  have h := ic_5 hI (ko_2_6 hb)
  have r := rr_2_6 hb
  omega
theorem ic_2_6_2 (hI : IC P S) (hb : cK b = 2) : 40 ≤ (S.1 (b + 6) 2).toInt ∧ (S.1 (b + 6) 2).toInt ≤ 40 := by
  have h := ic_5 hI (ko_2_6 hb)
  have r := rr_2_6 hb
  omega
theorem ic_2_6_3 (hI : IC P S) (hb : cK b = 2) : 0 ≤ (S.1 (b + 6) 3).toInt ∧ (S.1 (b + 6) 3).toInt ≤ 40 := by
  have h := ic_5 hI (ko_2_6 hb)
  have r := rr_2_6 hb
  omega
theorem rr_2_8 (hb : cK b = 2) : rW (b + 8) = 4 ∧ rR (b + 8) = 10 := by
  have := cn_of (b := b) (o := 9) (n := 40) (by decide +kernel) (by decide) hb
  unfold rW rR
  rw [show b + 8 + 1 = b + 9 from rfl, this]
  decide
theorem ic_2_8_1 (hI : IC P S) (hb : cK b = 2) : 4 ≤ (S.1 (b + 8) 1).toInt ∧ (S.1 (b + 8) 1).toInt ≤ 4 := by
  have h := ic_5 hI (ko_2_8 hb)
  have r := rr_2_8 hb
  omega
theorem ic_2_8_2 (hI : IC P S) (hb : cK b = 2) : 10 ≤ (S.1 (b + 8) 2).toInt ∧ (S.1 (b + 8) 2).toInt ≤ 10 := by
  have h := ic_5 hI (ko_2_8 hb)
  have r := rr_2_8 hb
  omega
theorem ic_2_8_3 (hI : IC P S) (hb : cK b = 2) : 0 ≤ (S.1 (b + 8) 3).toInt ∧ (S.1 (b + 8) 3).toInt ≤ 10 := by
  have h := ic_5 hI (ko_2_8 hb)
  have r := rr_2_8 hb
  omega
theorem rr_2_10 (hb : cK b = 2) : rW (b + 10) = 2 ∧ rR (b + 10) = 8 := by
  have := cn_of (b := b) (o := 11) (n := 16) (by decide +kernel) (by decide) hb
  unfold rW rR
  rw [show b + 10 + 1 = b + 11 from rfl, this]
  decide
theorem ic_2_10_1 (hI : IC P S) (hb : cK b = 2) : 2 ≤ (S.1 (b + 10) 1).toInt ∧ (S.1 (b + 10) 1).toInt ≤ 2 := by
  have h := ic_5 hI (ko_2_10 hb)
  have r := rr_2_10 hb
  omega
theorem ic_2_10_2 (hI : IC P S) (hb : cK b = 2) : 8 ≤ (S.1 (b + 10) 2).toInt ∧ (S.1 (b + 10) 2).toInt ≤ 8 := by
  have h := ic_5 hI (ko_2_10 hb)
  have r := rr_2_10 hb
  omega
theorem ic_2_10_3 (hI : IC P S) (hb : cK b = 2) : 0 ≤ (S.1 (b + 10) 3).toInt ∧ (S.1 (b + 10) 3).toInt ≤ 8 := by
  have h := ic_5 hI (ko_2_10 hb)
  have r := rr_2_10 hb
  omega
theorem iw_1_1 (hI : IC P S) {v : Int32} (hb : cK b = 1) : IC P (ca S b 1 v) := IC_ca hI (by unfold rgB; rw [hb]; exact bnd v) (no_pin hI (by unfold pinO; rw [hb]; rfl))
theorem iw_1_2 (hI : IC P S) {v : Int32} (hb : cK b = 1) : IC P (ca S b 2 v) := IC_ca hI (by unfold rgB; rw [hb]; exact bnd v) (no_pin hI (by unfold pinO; rw [hb]; rfl))
theorem iw_2_8 (hI : IC P S) {v : Int32} (hb : cK b = 2) (h1 : 0 ≤ v.toInt) (h2 : v.toInt ≤ 6) (hp : P b 8 = none) : IC P (ca S b 8 v) := IC_ca hI (by unfold rgB; rw [hb]; exact ⟨h1, h2⟩) hp
theorem iw_2_9 (hI : IC P S) {v : Int32} (hb : cK b = 2) (h1 : 0 ≤ v.toInt) (h2 : v.toInt ≤ 8) (hp : P b 9 = none) : IC P (ca S b 9 v) := IC_ca hI (by unfold rgB; rw [hb]; exact ⟨h1, h2⟩) hp
theorem iw_2_10 (hI : IC P S) {v : Int32} (hb : cK b = 2) : IC P (ca S b 10 v) := IC_ca hI (by unfold rgB; rw [hb]; exact bnd v) (no_pin hI (by unfold pinO; rw [hb]; rfl))
theorem iw_2_11 (hI : IC P S) {v : Int32} (hb : cK b = 2) (h1 : 0 ≤ v.toInt) (h2 : v.toInt ≤ 1) : IC P (ca S b 11 v) := IC_ca hI (by unfold rgB; rw [hb]; exact ⟨h1, h2⟩) (no_pin hI (by unfold pinO; rw [hb]; rfl))
theorem iw_2_12 (hI : IC P S) {v : Int32} (hb : cK b = 2) : IC P (ca S b 12 v) := IC_ca hI (by unfold rgB; rw [hb]; exact bnd v) (no_pin hI (by unfold pinO; rw [hb]; rfl))
theorem iw_2_13 (hI : IC P S) {v : Int32} (hb : cK b = 2) (hp : P b 13 = none) : IC P (ca S b 13 v) := IC_ca hI (by unfold rgB; rw [hb]; exact bnd v) hp
theorem iw_2_14 (hI : IC P S) {v : Int32} (hb : cK b = 2) (hp : P b 14 = none) : IC P (ca S b 14 v) := IC_ca hI (by unfold rgB; rw [hb]; exact bnd v) hp
theorem iw_4_3 (hI : IC P S) {v : Int32} (hb : cK b = 4) (h1 : 0 ≤ v.toInt) (h2 : v.toInt ≤ 16) : IC P (ca S b 3 v) := IC_ca hI (by unfold rgB; rw [hb]; exact ⟨h1, h2⟩) (no_pin hI (by unfold pinO; rw [hb]; rfl))
theorem iw_4_4 (hI : IC P S) {v : Int32} (hb : cK b = 4) : IC P (ca S b 4 v) := IC_ca hI (by unfold rgB; rw [hb]; exact bnd v) (no_pin hI (by unfold pinO; rw [hb]; rfl))
theorem iw_5_3 (hI : IC P S) {v : Int32} (hb : cK b = 5) (h1 : 0 ≤ v.toInt) (h2 : v.toInt ≤ rR b) (hp : P b 3 = none) : IC P (ca S b 3 v) := IC_ca hI (by unfold rgB; rw [hb]; exact ⟨h1, h2⟩) hp
theorem iw_6_5 (hI : IC P S) {v : Int32} (hb : cK b = 6) (h1 : 0 ≤ v.toInt) (h2 : v.toInt ≤ 400) : IC P (ca S b 5 v) := IC_ca hI (by unfold rgB; rw [hb]; exact ⟨h1, h2⟩) (no_pin hI (by unfold pinO; rw [hb]; rfl))
theorem iw_6_6 (hI : IC P S) {v : Int32} (hb : cK b = 6) (h1 : 0 ≤ v.toInt) (h2 : v.toInt ≤ 12) : IC P (ca S b 6 v) := IC_ca hI (by unfold rgB; rw [hb]; exact ⟨h1, h2⟩) (no_pin hI (by unfold pinO; rw [hb]; rfl))
theorem iw_6_7 (hI : IC P S) {v : Int32} (hb : cK b = 6) : IC P (ca S b 7 v) := IC_ca hI (by unfold rgB; rw [hb]; exact bnd v) (no_pin hI (by unfold pinO; rw [hb]; rfl))
theorem iw_8_4 (hI : IC P S) {v : Int32} (hb : cK b = 8) (h1 : 0 ≤ v.toInt) (h2 : v.toInt ≤ 400) (hp : P b 4 = none) : IC P (ca S b 4 v) := IC_ca hI (by unfold rgB; rw [hb]; exact ⟨h1, h2⟩) hp
theorem iw_8_5 (hI : IC P S) {v : Int32} (hb : cK b = 8) (h1 : 0 ≤ v.toInt) (h2 : v.toInt ≤ 401) : IC P (ca S b 5 v) := IC_ca hI (by unfold rgB; rw [hb]; exact ⟨h1, h2⟩) (no_pin hI (by unfold pinO; rw [hb]; rfl))
theorem iw_8_6 (hI : IC P S) {v : Int32} (hb : cK b = 8) (h1 : 0 ≤ v.toInt) (h2 : v.toInt ≤ 400) : IC P (ca S b 6 v) := IC_ca hI (by unfold rgB; rw [hb]; exact ⟨h1, h2⟩) (no_pin hI (by unfold pinO; rw [hb]; rfl))
theorem iw_8_7 (hI : IC P S) {v : Int32} (hb : cK b = 8) : IC P (ca S b 7 v) := IC_ca hI (by unfold rgB; rw [hb]; exact bnd v) (no_pin hI (by unfold pinO; rw [hb]; rfl))
theorem iw_8_8 (hI : IC P S) {v : Int32} (hb : cK b = 8) : IC P (ca S b 8 v) := IC_ca hI (by unfold rgB; rw [hb]; exact bnd v) (no_pin hI (by unfold pinO; rw [hb]; rfl))
theorem iw_8_9 (hI : IC P S) {v : Int32} (hb : cK b = 8) : IC P (ca S b 9 v) := IC_ca hI (by unfold rgB; rw [hb]; exact bnd v) (no_pin hI (by unfold pinO; rw [hb]; rfl))
theorem iw_9_11 (hI : IC P S) {v : Int32} (hb : cK b = 9) (h1 : 0 ≤ v.toInt) (h2 : v.toInt ≤ 6) (hp : P b 11 = none) : IC P (ca S b 11 v) := IC_ca hI (by unfold rgB; rw [hb]; exact ⟨h1, h2⟩) hp
end ICS
theorem fm_i (x : Int32) {y : Int} {c : Int32} (hc : c.toInt = y) (hy : 0 < y) : 0 ≤ (fmI x c).toInt ∧ (fmI x c).toInt ≤ y - 1 := by
  have hr := rem_toInt x c
  rw [hc] at hr
  obtain ⟨b1, b2⟩ := tmod_bounds (a := x.toInt) hy
  have hxor : 0 ≤ x ^^^ c ↔ 0 ≤ x.toInt := by
    rw [Int32.le_iff_toInt_le]
    have e0 : (0 : Int32).toInt = 0 := by decide
    rw [e0]
    have h1 : (x ^^^ c).toBitVec.msb = (x.toBitVec.msb ^^ c.toBitVec.msb) := BitVec.msb_xor
    have h2 : c.toBitVec.msb = false := by
      rw [BitVec.msb_eq_toInt]
      have : c.toBitVec.toInt = y := hc
      rw [this]
      exact decide_eq_false (by omega)
    rw [h2, Bool.xor_false] at h1
    rw [BitVec.msb_eq_toInt, BitVec.msb_eq_toInt] at h1
    have h3 : (x ^^^ c).toInt < 0 ↔ x.toInt < 0 := decide_eq_decide.mp h1
    omega
  unfold fmI
  by_cases hx : 0 ≤ x ^^^ c
  · rw [if_pos hx, hr]
    have := Int.tmod_nonneg y (hxor.mp hx)
    omega
  · rw [if_neg hx]
    have hneg : x.toInt < 0 := by
      have := mt hxor.mpr hx
      omega
    have hle : x.toInt.tmod y ≤ 0 := by
      have := Int.tmod_nonneg y (show 0 ≤ -x.toInt by omega)
      rw [Int.neg_tmod] at this
      omega
    by_cases hz : x - x / c * c = 0
    · rw [if_pos hz, hz]
      have e0 : (0 : Int32).toInt = 0 := by decide
      omega
    · rw [if_neg hz]
      have hne : x.toInt.tmod y ≠ 0 := fun z => hz (Int32.toInt_inj.mp (by rw [hr, z]; decide))
      have hb := bnd c
      rw [tA (by rw [hr, hc]; omega) (by rw [hr, hc]; omega), hr, hc]
      omega
