/-! ===== what of the JDK the class calls besides: to be proved ===== -/
/-- Math.floorMod -/
def fmI (x y : Int32) : Int32 := if 0 ≤ x ^^^ y then x - x / y * y else if x - x / y * y = 0 then x - x / y * y else x - x / y * y + y
section CWS
variable {l : Launch} {Y : aY} {d : Nat} {r : Option Value} {S' : cT} {pc : Nat} {ls : List (Option Value)} {st : List Value} {S : cT}
theorem CW.fmod {idx : Nat} {x y : Int32} (hl : Cond.methodLink Y.1.cls idx ⟨"java/lang/Math", "floorMod", "(II)I"⟩ ∈ wG) (hy : ¬ y = 0) (hd : decode Y.2.1 pc = .ok (.invokestatic idx, 3)) (hdd : 0 < d) (hsum : (st.map fun v => v.category).sum ≤ 8) (k : CW l Y d r S' (pc + 3) ls (.int (fmI x y) :: st) S) : CW l Y d r S' pc ls (.int y :: .int x :: st) S := sorry
theorem CW.getW (hY : Y.1.cls = RX5) (hd : decode Y.2.1 pc = .ok (.getstatic 87, 3)) (k : CW l Y d r S' (pc + 3) ls (.ref kW :: st) S) : CW l Y d r S' pc ls st S := sorry
theorem CW.lalW {i : Int32} (hd : decode Y.2.1 pc = .ok (.laload, 1)) (hi : vp_in i 6) (k : CW l Y d r S' (pc + 1) ls (.long (wo i.toNatClampNeg) :: st) S) : CW l Y d r S' pc ls (.int i :: .ref kW :: st) S := sorry
theorem CW.ldcS (hY : Y.1.cls = RX10) (hd : decode Y.2.1 pc = .ok (.ldc 69, 2)) (k : CW l Y d r S' (pc + 2) ls (.ref kS :: st) S) : CW l Y d r S' pc ls st S := sorry
theorem CW.strlen (hY : Y.1.cls = RX10) (hd : decode Y.2.1 pc = .ok (.invokevirtual 71, 3)) (hdd : 5 < d) (hsum : (st.map fun v => v.category).sum ≤ 8) (k : CW l Y d r S' (pc + 3) ls (.int 93 :: st) S) : CW l Y d r S' pc ls (.ref kS :: st) S := sorry
theorem CW.charAt {i : Int32} (hY : Y.1.cls = RX10) (hd : decode Y.2.1 pc = .ok (.invokevirtual 77, 3)) (hi : vp_in i 93) (hdd : 5 < d) (hsum : (st.map fun v => v.category).sum ≤ 8) (k : CW l Y d r S' (pc + 3) ls (.int (wby.getD i.toNatClampNeg 0) :: st) S) : CW l Y d r S' pc ls (.int i :: .ref kS :: st) S := sorry
end CWS
