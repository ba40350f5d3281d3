/-- Math.floorMod -/
def fmI (x y : Int32) : Int32 := if 0 ≤ x ^^^ y then x - x / y * y else if x - x / y * y = 0 then x - x / y * y else x - x / y * y + y
abbrev fm_c : ByteArray := cJ9_floorMod_7cf53
theorem fm_0 : decode fm_c 0 = .ok (.iload_n 0, 1) := by decide +kernel
theorem fm_1 : decode fm_c 1 = .ok (.iload_n 1, 1) := by decide +kernel
theorem fm_2 : decode fm_c 2 = .ok (.irem, 1) := by decide +kernel
theorem fm_3 : decode fm_c 3 = .ok (.istore_n 2, 1) := by decide +kernel
theorem fm_4 : decode fm_c 4 = .ok (.iload_n 0, 1) := by decide +kernel
theorem fm_5 : decode fm_c 5 = .ok (.iload_n 1, 1) := by decide +kernel
theorem fm_6 : decode fm_c 6 = .ok (.ixor, 1) := by decide +kernel
theorem fm_7 : decode fm_c 7 = .ok (.ifCond .ge 11, 3) := by decide +kernel
theorem fm_10 : decode fm_c 10 = .ok (.iload_n 2, 1) := by decide +kernel
theorem fm_11 : decode fm_c 11 = .ok (.ifCond .eq 7, 3) := by decide +kernel
theorem fm_14 : decode fm_c 14 = .ok (.iload_n 2, 1) := by decide +kernel
theorem fm_15 : decode fm_c 15 = .ok (.iload_n 1, 1) := by decide +kernel
theorem fm_16 : decode fm_c 16 = .ok (.iadd, 1) := by decide +kernel
theorem fm_17 : decode fm_c 17 = .ok (.ireturn, 1) := by decide +kernel
theorem fm_18 : decode fm_c 18 = .ok (.iload_n 2, 1) := by decide +kernel
theorem fm_19 : decode fm_c 19 = .ok (.ireturn, 1) := by decide +kernel
def fm_x : MethodName := ⟨"java/lang/Math", "floorMod", "(II)I"⟩
theorem fm_row0 : (NativeRow.find? natives fm_x.cls fm_x.name fm_x.desc).isNone = true := by decide +kernel
theorem fm_row (p : Program) : NativeRow.find? p.tables.natives fm_x.cls fm_x.name fm_x.desc = none := by
  cases p <;> exact Option.isNone_iff_eq_none.mp fm_row0
def fm_spec (a b : Int32) : Spec := { pre := .and (.code fm_x fm_c 3 (some .int)) (.and (.count 2) (.and (.isInt (.arg 0)) (.and (.isInt (.arg 1)) (.and (.eq (.arg 0) (.int a)) (.eq (.arg 1) (.int b)))))), post := .and .returned (.eq .result (.int (fmI a b))), changes := some [] }
set_option maxHeartbeats 2000000 in
theorem fm_loose (l : Launch) (a b : Int32) (hy : ¬ b = 0) : MeetsLoose l fm_x (fm_spec a b) := by
  refine MeetsLoose.of_body_ov (code := fm_c) (maxLocals := 3) (ret := some .int) fm_row ?_ ?_
  · intro args s h
    simp only [fm_spec, Cond.before_and, Bool.and_eq_true] at h
    exact h.1
  · intro p e s m args below meth c s₁ B
    have hpre := B.pre
    simp only [fm_spec, Cond.before_and, Bool.and_eq_true] at hpre
    obtain ⟨-, h1, h2, h3, h4, h5⟩ := hpre
    obtain ⟨a', b', rfl⟩ := Cond.two_ints h1 h2 h3
    have ea : a' = a := by simpa [Cond.before, Cond.holds, Cond.value, Term.eval] using h4
    have eb : b' = b := by simpa [Cond.before, Cond.holds, Cond.value, Term.eval] using h5
    subst ea
    subst eb
    have hloc : argsToLocals #[.int a', .int b'] 3 = #[.val (.int a'), .val (.int b'), .unset] := rfl
    obtain ⟨fs, hfs⟩ := handOver_isSome (s := s₁) (some (.int (fmI a' b'))) B.hears₁
    refine ⟨s₁.setFrames fs, .returned (some (.int (fmI a' b'))), ?_, B.here.running, B.ended hfs (by intro h; cases h), ?_, State.sameBut_nil.mpr ?_⟩
    · unfold entryFrame; rw [hloc]
      refine Steps.instrAtOv (c := _) (by simpa using B.here) ?_
      simp [jvm, wpRun, exec, B.here.top, B.exec, B.bytes, fm_0]
      refine Steps.instrAtOv (c := _) (by simpa using B.here) ?_
      simp [jvm, wpRun, exec, B.here.top, B.exec, B.bytes, fm_1]
      refine Steps.instrAtOv (c := _) (by simpa using B.here) ?_
      simp [jvm, wpRun, exec, B.here.top, B.exec, B.bytes, fm_2, hy]
      refine Steps.instrAtOv (c := _) (by simpa using B.here) ?_
      simp [jvm, wpRun, exec, B.here.top, B.exec, B.bytes, fm_3]
      refine ⟨#[.val (.int a'), .val (.int b'), .val (.int (a' - a' / b' * b'))], rfl, ?_⟩
      refine Steps.instrAtOv (c := _) (by simpa using B.here) ?_
      simp [jvm, wpRun, exec, B.here.top, B.exec, B.bytes, fm_4]
      refine Steps.instrAtOv (c := _) (by simpa using B.here) ?_
      simp [jvm, wpRun, exec, B.here.top, B.exec, B.bytes, fm_5]
      refine Steps.instrAtOv (c := _) (by simpa using B.here) ?_
      simp [jvm, wpRun, exec, B.here.top, B.exec, B.bytes, fm_6]
      by_cases c1 : 0 ≤ a' ^^^ b'
      · have e1 : fmI a' b' = a' - a' / b' * b' := by simp [fmI, c1]
        rw [e1] at hfs
        refine Steps.instrAtOv (c := _) (by simpa using B.here) ?_
        simp [jvm, wpRun, exec, B.here.top, B.exec, B.bytes, fm_7, ifCond.holds, c1]
        refine Steps.instrAtOv (c := _) (by simpa using B.here) ?_
        simp [jvm, wpRun, exec, B.here.top, B.exec, B.bytes, fm_18]
        refine Steps.instrAtOv (c := _) (by simpa using B.here) ?_
        simp [jvm, wpRun, exec, B.here.top, B.exec, B.bytes, fm_19, B.method₁, B.returns, narrow]
        intro acts
        rw [ret_to B.frames₁ B.method₁ B.notSynchronized rfl rfl hfs]
        exact Steps.refl _
      · by_cases c2 : a' - a' / b' * b' = 0
        · have e1 : fmI a' b' = 0 := by simp [fmI, c1, c2]
          rw [e1] at hfs
          refine Steps.instrAtOv (c := _) (by simpa using B.here) ?_
          simp [jvm, wpRun, exec, B.here.top, B.exec, B.bytes, fm_7, ifCond.holds, c1]
          refine Steps.instrAtOv (c := _) (by simpa using B.here) ?_
          simp [jvm, wpRun, exec, B.here.top, B.exec, B.bytes, fm_10]
          refine Steps.instrAtOv (c := _) (by simpa using B.here) ?_
          simp [jvm, wpRun, exec, B.here.top, B.exec, B.bytes, fm_11, ifCond.holds, c2]
          refine Steps.instrAtOv (c := _) (by simpa using B.here) ?_
          simp [jvm, wpRun, exec, B.here.top, B.exec, B.bytes, fm_18]
          refine Steps.instrAtOv (c := _) (by simpa using B.here) ?_
          simp [jvm, wpRun, exec, B.here.top, B.exec, B.bytes, fm_19, B.method₁, B.returns, narrow]
          intro acts
          rw [ret_to B.frames₁ B.method₁ B.notSynchronized rfl rfl hfs]
          exact Steps.refl _
        · have e1 : fmI a' b' = a' - a' / b' * b' + b' := by simp [fmI, c1, c2]
          rw [e1] at hfs
          refine Steps.instrAtOv (c := _) (by simpa using B.here) ?_
          simp [jvm, wpRun, exec, B.here.top, B.exec, B.bytes, fm_7, ifCond.holds, c1]
          refine Steps.instrAtOv (c := _) (by simpa using B.here) ?_
          simp [jvm, wpRun, exec, B.here.top, B.exec, B.bytes, fm_10]
          refine Steps.instrAtOv (c := _) (by simpa using B.here) ?_
          simp [jvm, wpRun, exec, B.here.top, B.exec, B.bytes, fm_11, ifCond.holds, c2]
          refine Steps.instrAtOv (c := _) (by simpa using B.here) ?_
          simp [jvm, wpRun, exec, B.here.top, B.exec, B.bytes, fm_14]
          refine Steps.instrAtOv (c := _) (by simpa using B.here) ?_
          simp [jvm, wpRun, exec, B.here.top, B.exec, B.bytes, fm_15]
          refine Steps.instrAtOv (c := _) (by simpa using B.here) ?_
          simp [jvm, wpRun, exec, B.here.top, B.exec, B.bytes, fm_16]
          refine Steps.instrAtOv (c := _) (by simpa using B.here) ?_
          simp [jvm, wpRun, exec, B.here.top, B.exec, B.bytes, fm_17, B.method₁, B.returns, narrow]
          intro acts
          rw [ret_to B.frames₁ B.method₁ B.notSynchronized rfl rfl hfs]
          exact Steps.refl _
    · simp [fm_spec, Cond.after, Cond.holds, Cond.value, Term.eval]
    · rw [State.frames_setFrames _ B.cur₁, B.back]
section VFM
variable {p : Program} {l : Launch} {e : Env} {R : Room} {s : State} {m : MethodId} {args : Array Value} {below : List Frame} {meth : Method} {c : Code} {cells slots : Nat} {T : State} {locs : List Loc}
theorem fm_V (X : Stand p l e R s m args below meth c T locs cells slots) (hexec : p.tables.exec = Jvm.exec) {own : String} {index : Nat} (hown : s.vm.findClass own = some m.cls)
    (hlink : (Cond.methodLink own index fm_x).before args s = true) (hstat : (Cond.static fm_x).before args s = true) (hinit : (Cond.initialized "java/lang/Math").before args s = true)
    (hcode : (Cond.code fm_x fm_c 3 (some .int)).before args s = true)
    {g : JFrame} (hg : g.method = m) (hsize : g.locals.size = c.maxLocals) {a b : Int32} (hy : ¬ b = 0) {rest : List Value} (hstack : g.stack = .int b :: .int a :: rest) (hdg : decode c.code g.pc = .ok (.invokestatic index, 3))
    (hframes : 1 ≤ R.frames) (hlocals : 2 * g.monitorRoom + (rest.map fun v => v.category).sum + 14 ≤ R.locals) (hcells : cells ≤ R.cells) (hslots : slots ≤ R.slots) :
    ∃ vm', Stand p l e R s m args below meth c (T.setVm vm') locs cells slots ∧
      ∀ target, Steps p.tables e below ((T.setVm vm').setTop { g with pc := g.pc + 3, stack := .int (fmI a b) :: rest }) target → Steps p.tables e below (T.setTop g) target := by
  obtain ⟨v, T', X', ⟨first, t, hpost⟩, hstep⟩ := X.staticByContractV hexec hown hlink hstat hinit hcode (by decide)
    (fm_loose l a b hy)
    rfl rfl rfl rfl
    (fun args' first o s₂ h => by
      simp only [fm_spec, Cond.after_and, Bool.and_eq_true] at h
      cases o with
      | returned r => exact ⟨r, rfl⟩
      | threw y => simp [Cond.after, Cond.holds, Cond.value] at h)
    hg hsize (argsL := [.int a, .int b]) (rest := rest)
    (fun sig hs => by
      have h : parseMethodDescriptor "(II)I" = some { parameters := [.int, .int], returnType := some .int } := by decide +kernel
      rw [show fm_x.desc = "(II)I" from rfl, h] at hs
      rw [← Option.some.inj hs]; rfl)
    hstack hdg
    (fun vm' hW => by
      simp only [fm_spec, Cond.before_and, Bool.and_eq_true]
      refine ⟨?_, rfl, rfl, rfl, ?_, ?_⟩
      · have q := hcode
        rw [← Cond.code_setVm hW.alike] at q
        simp only [Cond.before, Cond.holds, Cond.value, State.methodNamed?, State.vm_setVm] at q ⊢
        exact q
      · simp [Cond.before, Cond.holds, Cond.value, Term.eval]
      · simp [Cond.before, Cond.holds, Cond.value, Term.eval])
    (by show 0 + 1 ≤ R.frames; omega) (by show 2 * g.monitorRoom + (rest.map fun v => v.category).sum + (3 + 11) + 0 ≤ R.locals; omega) (by show cells + 0 ≤ R.cells; omega) (by show slots + 0 ≤ R.slots; omega)
  refine ⟨T', X', fun target h => hstep target ?_⟩
  obtain rfl : v = some (.int (fmI a b)) := by
    rcases v with _ | w
    · simp [fm_spec, Cond.after, Cond.holds, Cond.value, Term.eval] at hpost
    · cases w <;> simp [fm_spec, Cond.after, Cond.holds, Cond.value, Term.eval] at hpost
      rename_i r
      rw [hpost]
  exact h
end VFM
theorem fm_s : Cond.static fm_x ∈ wG := tb_in 708 (by decide +kernel) (by decide +kernel)
theorem fm_k : Cond.code fm_x fm_c 3 (some .int) ∈ wG := tb_in 709 (by decide +kernel) (by decide +kernel)
section CWF
variable {l : Launch} {Y : aY} {d : Nat} {r : Option Value} {S' : cT} {pc : Nat} {ls : List (Option Value)} {st : List Value} {S : cT}
theorem CW.fmod {idx : Nat} {x y : Int32} (hl : Cond.methodLink Y.1.cls idx ⟨"java/lang/Math", "floorMod", "(II)I"⟩ ∈ wG) (hy : ¬ y = 0) (hd : decode Y.2.1 pc = .ok (.invokestatic idx, 3)) (hdd : 0 < d) (hsum : (st.map fun v => v.category).sum ≤ 8) (k : CW l Y d r S' (pc + 3) ls (.int (fmI x y) :: st) S) : CW l Y d r S' pc ls (.int y :: .int x :: st) S := by
  intro M p e s m args below meth c D cA as0 n0 A as H locs E SS X lsA hls T hT XT
  have hw := E.2.2.2.2.2.1
  obtain ⟨vm', X', stp⟩ := fm_V (R := rmD d) XT E.1 E.2.2.2.2.1 (hw _ hl) (hw _ fm_s) (hw _ (tb_in 18 (by decide +kernel) (by decide +kernel))) (hw _ fm_k) (g := F0 m pc lsA ((Value.int y :: Value.int x :: st).map (tv as))) rfl (hls.2.1.trans E.2.2.2.1.symm) hy (rest := st.map (tv as)) rfl (by rw [E.2.1]; exact hd) hdd (by rw [cat_map]; show 2 * 0 + _ + 14 ≤ 60 * d; omega) (Nat.le_refl _) (Nat.le_refl _)
  obtain ⟨t, a1, b1⟩ := k M p e s m args below meth c D cA as0 n0 A as H locs E SS X lsA hls (T.setVm vm') hT X'
  exact ⟨t, stp t a1, b1⟩
end CWF
