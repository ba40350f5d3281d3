/-! ===== the reference's reader: values ===== -/
theorem and15_0 (x : Int32) : ((0 : Int32) + 16 * x) &&& 15 = 0 := by
  apply Int32.toBitVec_inj.mp
  apply BitVec.eq_of_toNat_eq
  show (((0 : BitVec 32) + 16 * x.toBitVec) &&& 15).toNat = 0
  rw [BitVec.toNat_and, BitVec.toNat_add, BitVec.toNat_mul]
  show ((0 + (16 * x.toBitVec.toNat) % 4294967296) % 4294967296) &&& (2 ^ 4 - 1) = 0
  rw [Nat.and_two_pow_sub_one_eq_mod]
  omega
theorem st_num {x : Int32} {h : Nat} (hh : h < 64) : stepH (0 + 16 * x) h = some (h + 1) := by
  unfold stepH
  rw [if_pos (and15_0 x), if_pos hh]
theorem st_word {k : Int32} {h : Nat} (h0 : 0 ≤ k.toInt) (h7 : k.toInt ≤ 7) (hh : h < 64) : stepH (1 + 16 * k) h = some (h + 1) := by
  have c : k = 0 ∨ k = 1 ∨ k = 2 ∨ k = 3 ∨ k = 4 ∨ k = 5 ∨ k = 6 ∨ k = 7 := by
    have e : k.toInt = 0 ∨ k.toInt = 1 ∨ k.toInt = 2 ∨ k.toInt = 3 ∨ k.toInt = 4 ∨ k.toInt = 5 ∨ k.toInt = 6 ∨ k.toInt = 7 := by omega
    have g : ∀ {m : Int32}, k.toInt = m.toInt → k = m := fun z => Int32.toInt_inj.mp z
    rcases e with z | z | z | z | z | z | z | z
    · exact Or.inl (g z)
    · exact Or.inr (Or.inl (g z))
    · exact Or.inr (Or.inr (Or.inl (g z)))
    · exact Or.inr (Or.inr (Or.inr (Or.inl (g z))))
    · exact Or.inr (Or.inr (Or.inr (Or.inr (Or.inl (g z)))))
    · exact Or.inr (Or.inr (Or.inr (Or.inr (Or.inr (Or.inl (g z))))))
    · exact Or.inr (Or.inr (Or.inr (Or.inr (Or.inr (Or.inr (Or.inl (g z)))))))
    · exact Or.inr (Or.inr (Or.inr (Or.inr (Or.inr (Or.inr (Or.inr (g z)))))))
  unfold stepH
  rcases c with rfl | rfl | rfl | rfl | rfl | rfl | rfl | rfl <;> rw [if_neg (by decide), if_pos (by decide), if_pos ⟨by decide, by decide, hh⟩]
theorem st_two {c : Int32} {h : Nat} (hc : c = 2 ∨ c = 3 ∨ c = 4 ∨ c = 5 ∨ c = 6 ∨ c = 7 ∨ c = 8 ∨ c = 9 ∨ c = 10 ∨ c = 12 ∨ c = 13 ∨ c = 14) (hh : 2 ≤ h) : stepH (c + 16 * 0) h = some (h - 1) := by
  unfold stepH
  rcases hc with rfl | rfl | rfl | rfl | rfl | rfl | rfl | rfl | rfl | rfl | rfl | rfl <;> rw [if_neg (by decide), if_neg (by decide), if_neg (by decide), if_pos hh]
theorem st_not {h : Nat} (hh : 1 ≤ h) : stepH (11 + 16 * 0) h = some h := by
  unfold stepH
  rw [if_neg (by decide), if_neg (by decide), if_pos (by decide), if_pos hh]
/-- all but how much is made stands -/
def M12 (T w : mT) : Prop := w.2 = T.2 ∧ (∀ r j, (r ≠ 0 ∨ j ≠ 12) → w.1 r j = T.1 r j) ∧ (w.1 0 12).toInt = (T.1 0 12).toInt + 1
theorem tm_makes {P : Nat → Nat → Option Int} {t st h : Nat} {sl : Int} {p0 : Int32} {T : mT} (hr : Rd P t st h sl T) : wp (fm_makes p0 T) (fun w => Bad P t T w.2 ∧ (w.1 = true → Rd P t st h sl w.2 ∧ M12 T w.2)) := by
  have hr' := hr
  obtain ⟨r1, r2, r3, r4, r5, r6, r7, r8, r9⟩ := hr
  unfold fm_makes
  have l_1 : (1 : Int32).toInt = 1 := by decide
  have l_60 : (60 : Int32).toInt = 60 := by decide
  have c := im_0_12 r1
  refine wp_eq (fun _ => ?_) (fun hc => ?_)
  · exact wp_bind (tm_fails r2 r1) (fun q3 h3 => wp_some ⟨⟨h3.2.1, h3.2.2.2.2, Ex.ofT h3.2.2.1⟩, fun z => by rw [h3.1] at z; cases z⟩)
  · have u := tA (a := T.1 0 12) (b := 1) (by omega) (by omega)
    refine wp_letv (fun T2 e2 => wp_some ?_)
    have i2 : IQ P T2 := by rw [e2]; exact iz_12 r1 (by omega) (by omega)
    have z : ∀ r j, (r ≠ 0 ∨ j ≠ 12) → T2.1 r j = T.1 r j := fun r j hj => by rw [e2]; exact mz_ne hj
    have m : (T2.1 0 12).toInt = (T.1 0 12).toInt + 1 := by rw [e2, mz_at]; omega
    have R : Rd P t st h sl T2 := by
      unfold Rd
      rw [z 0 8 (by decide), z 0 1 (by decide), z 0 11 (by decide), z 0 2 (by decide), z 3 t (Or.inl (by decide)), m, show T2.1 2 = T.1 2 from funext (fun j => z 2 j (Or.inl (by decide)))]
      exact ⟨i2, r2, r3, r4, r5, r6, r7, r8, by omega⟩
    exact ⟨R.bad (by rw [e2]; exact Ex.z (by decide)), fun _ => ⟨R, by rw [e2]; rfl, z, m⟩⟩
