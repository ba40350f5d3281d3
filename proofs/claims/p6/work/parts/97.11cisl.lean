/-! ===== islands: the class reads all ===== -/
section CIT
variable {K : KS} {m b : Nat}
theorem ui_clause {c mq pp i : Nat} {R : CR} {p2 : Int32} {S : cT} (hb : 50 ≤ b) (h : CI K m b c mq pp R S) (hi : p2.toInt = (i : Int)) : wl (fc_X3_readClause 1 b p2 S) (fun S' => CIO K m b (ICLf K i c mq pp R) S') := by
  have h' := h
  obtain ⟨hT, c1, e7, e6, e8, e9, em, m6, ep, p8, hr⟩ := h'
  unfold fc_X3_readClause
  have l_0 : (0 : Int32).toInt = 0 := by decide
  have l_1 : (1 : Int32).toInt = 1 := by decide
  have l_6 : (6 : Int32).toInt = 6 := by decide
  have l_8 : (8 : Int32).toInt = 8 := by decide
  have l_40 : (40 : Int32).toInt = 40 := by decide
  have l_305 : (305 : Int32).toInt = 305 := by decide
  have l_308 : (308 : Int32).toInt = 308 := by decide
  have l_309 : (309 : Int32).toInt = 309 := by decide
  have l_310 : (310 : Int32).toInt = 310 := by decide
  have l_311 : (311 : Int32).toInt = 311 := by decide
  have bad : ∀ (y : Int32) (why : Int), y.toInt = why → 0 ≤ why → why ≤ 7 → ICLf K i c mq pp R = bdi K c why → wl ((fc_X10_refuse 1 y S).bind fun q => some q) (fun S' => CIO K m b (ICLf K i c mq pp R) S') := fun y why a1 a2 a3 a4 =>
    wl_bind (ui_refuse h a1 a2 a3) (fun q hq => wl_some (Or.inl ⟨by rw [a4]; exact hq.1, by rw [a4]; exact hq⟩))
  have go : ∀ w1 : Int32, isW (K.1 c) → ((w1 = 1 ∧ K.1 c = 308) ∨ (w1 = 0 ∧ K.1 c ≠ 308)) → wl (Option.bind (if (S.1 1 8) = 309 then (if (S.1 b 9) < 8 then (some (0)) else (some (1))) else (some (0)) : Option (Int32)) fun w30 => if 40 ≤ p2 then ((fc_X10_refuse 1 4 S).bind fun q34 => some q34) else (Option.bind (if p2 = 0 then (some (1)) else (some (0)) : Option (Int32)) fun w35 => if w1 = w35 then (if w30 = 0 then ((fc_X10_step 1 S).bind fun q40 => if (S.1 1 8) = 305 then ((fc_X3_readTie 1 b q40).bind fun q42 => some q42) else (if (S.1 1 8) = 308 then ((fc_X10_takeNumber 1 1 6 q40).bind fun q44 => letv (ca q44.2 b 8 q44.1) fun S45 => some S45) else (if (S.1 1 8) = 309 then ((fc_X3_readPerson 1 b q40).bind fun q47 => some q47) else (if (S.1 1 8) = 310 then ((fc_X3_readBoat 1 b q40).bind fun q49 => some q49) else ((fc_X10_takeNumber 1 0 ((q40.1 b 9) - 1) q40).bind fun q50 => letv (ca q50.2 b 10 q50.1) fun S51 => some S51))))) else ((fc_X10_refuse 1 4 S).bind fun q54 => some q54)) else ((fc_X10_refuse 1 4 S).bind fun q38 => some q38))) (fun S' => CIO K m b (ICLf K i c mq pp R) S') := by
    intro w1 kw hw1
    have b4 : (40 ≤ i ∨ (K.1 c = 308 ∧ i ≠ 0) ∨ (K.1 c ≠ 308 ∧ i = 0) ∨ (K.1 c = 309 ∧ 8 ≤ pp)) → ICLf K i c mq pp R = bdi K c 4 := fun y => by unfold ICLf; rw [if_neg (fun z => z kw), if_pos y]
    refine wl_bind (R := fun w : Int32 => (w = 1 ∧ K.1 c = 309 ∧ 8 ≤ pp) ∨ (w = 0 ∧ ¬ (K.1 c = 309 ∧ 8 ≤ pp))) ?_ (fun w30 h30 => ?_)
    · refine wl_eq (fun z => ?_) (fun z => wl_some (Or.inr ⟨rfl, by omega⟩))
      exact wl_lt (fun y => wl_some (Or.inr ⟨rfl, by omega⟩)) (fun y => wl_some (Or.inl ⟨rfl, by omega, by omega⟩))
    refine wl_le (fun z => bad 4 4 (by decide) (by decide) (by decide) (b4 (Or.inl (by omega)))) (fun z => ?_)
    refine wl_bind (R := fun w : Int32 => (w = 1 ∧ i = 0) ∨ (w = 0 ∧ i ≠ 0)) ?_ (fun w35 h35 => ?_)
    · exact wl_eq (fun y => wl_some (Or.inl ⟨rfl, by omega⟩)) (fun y => wl_some (Or.inr ⟨rfl, by omega⟩))
    refine wl_if (fun y => ?_) (fun y => bad 4 4 (by decide) (by decide) (by decide) (b4 ?_))
    · have mi : (K.1 c = 308 ∧ i = 0) ∨ (K.1 c ≠ 308 ∧ i ≠ 0) := by
        rcases hw1 with ⟨rfl, k1⟩ | ⟨rfl, k1⟩ <;> rcases h35 with ⟨rfl, k2⟩ | ⟨rfl, k2⟩
        · exact Or.inl ⟨k1, k2⟩
        · exact absurd y (by decide)
        · exact absurd y (by decide)
        · exact Or.inr ⟨k1, k2⟩
      rcases h30 with ⟨rfl, k3, k4⟩ | ⟨rfl, k3⟩
      · exact wl_if (fun x => absurd x (by decide)) (fun _ => bad 4 4 (by decide) (by decide) (by decide) (b4 (Or.inr (Or.inr (Or.inr ⟨k3, k4⟩)))))
      refine wl_if (fun _ => ?_) (fun x => absurd rfl x)
      have il : ICLf K i c mq pp R = ILf K (K.1 c) (c + 1) mq pp R := by unfold ICLf; rw [if_neg (fun z => z kw), if_neg (by omega)]
      rw [il]
      have cm := h.lt (by omega)
      refine wl_bind (ui_step hb h cm) (fun q40 h40 => ?_)
      refine wl_eq (fun x => ?_) (fun x1 => ?_)
      · rw [show K.1 c = 305 by omega]
        exact wl_bind (ui_tie hb h40) (fun q hq => wl_some hq)
      refine wl_eq (fun x => ?_) (fun x2 => ?_)
      · rw [show K.1 c = 308 by omega]
        have i0 : ILf K 308 (c + 1) mq pp R = (if NUMf K (c + 1) 1 6 = 0 then (0, c + 1 + 1, (K.2.1 (c + 1)).toNat, pp, R) else (NUMf K (c + 1) 1 6, 0, 0, 0, zR)) := by unfold ILf; rw [if_pos rfl]
        refine wl_bind (ui_take (lo := 1) (hi := 6) hb h40) (fun q44 h44 => ?_)
        rw [l_1, l_6] at h44
        refine wl_letv (fun S45 e45 => wl_some ?_)
        have f45 : ∀ q j, (q ≠ b ∨ j ≠ 8) → S45.1 q j = q44.2.1 q j := fun q j hj => by rw [e45]; exact ca_ne hj
        rcases h44 with ⟨n, cj⟩ | ⟨n, v, lo, hi', ci⟩
        · rw [i0, if_neg n]
          exact Or.inl ⟨n, cj.1, by rw [f45 1 7 (by omega)]; exact cj.2.1, by rw [f45 1 8 (by omega)]; exact cj.2.2⟩
        · rw [i0, if_pos n]
          obtain ⟨gT, g1, g7, g6, g8, g9, gm, gm6, gp, gp8, gr⟩ := ci
          refine Or.inr ⟨rfl, gT.fr (fun q j hq => f45 q j (by omega)), g1, by rw [f45 1 7 (by omega)]; exact g7, by rw [f45 1 6 (by omega)]; exact g6, by rw [f45 1 8 (by omega)]; exact g8, by rw [f45 1 9 (by omega)]; exact g9, ?_, ?_, by rw [f45 b 9 (by omega)]; exact gp, gp8, gr.fr (fun q j hq => f45 q j (by omega))⟩
          · rw [e45, ca_at, v]
            show _ = (((K.2.1 (c + 1)).toNat : Nat) : Int)
            omega
          · show (K.2.1 (c + 1)).toNat ≤ 6
            omega
      refine wl_eq (fun x => ?_) (fun x3 => ?_)
      · rw [show K.1 c = 309 by omega]
        exact wl_bind (ui_person hb h40 (by omega)) (fun q hq => wl_some hq)
      refine wl_eq (fun x => ?_) (fun x4 => ?_)
      · rw [show K.1 c = 310 by omega]
        exact wl_bind (ui_boat hb h40) (fun q hq => wl_some hq)
      · rw [show K.1 c = 311 by omega]
        have i0 : ILf K 311 (c + 1) mq pp R = (if NUMf K (c + 1) 0 ((pp : Int) - 1) = 0 then (0, c + 1 + 1, mq, pp, R) else (NUMf K (c + 1) 0 ((pp : Int) - 1), 0, 0, 0, zR)) := by unfold ILf; rw [if_neg (by decide), if_neg (by decide), if_neg (by decide), if_neg (by decide)]
        have p40 := h40.2.2.2.2.2.2.2.2.1
        have u := tS (a := q40.1 b 9) (b := 1) (by omega) (by omega)
        have hu : (q40.1 b 9 - 1).toInt = (pp : Int) - 1 := by omega
        refine wl_bind (ui_take (lo := 0) (hi := q40.1 b 9 - 1) hb h40) (fun q50 h50 => ?_)
        rw [hu, l_0] at h50
        refine wl_letv (fun S51 e51 => wl_some ?_)
        have f51 : ∀ q j, (q ≠ b ∨ j ≠ 10) → S51.1 q j = q50.2.1 q j := fun q j hj => by rw [e51]; exact ca_ne hj
        rcases h50 with ⟨n, cj⟩ | ⟨n, v, lo, hi', ci⟩
        · rw [i0, if_neg n]
          exact Or.inl ⟨n, cj.1, by rw [f51 1 7 (by omega)]; exact cj.2.1, by rw [f51 1 8 (by omega)]; exact cj.2.2⟩
        · rw [i0, if_pos n]
          exact Or.inr ⟨rfl, ui_fr hb ci (fun q j hq => f51 q j (by omega))⟩
    · rcases hw1 with ⟨rfl, k1⟩ | ⟨rfl, k1⟩ <;> rcases h35 with ⟨rfl, k2⟩ | ⟨rfl, k2⟩
      · exact absurd rfl y
      · exact Or.inr (Or.inl ⟨k1, k2⟩)
      · exact Or.inr (Or.inr (Or.inl ⟨k1, k2⟩))
      · exact absurd rfl y
  refine wl_bind (R := fun w : Int32 => (w = 1 ∧ K.1 c = 308) ∨ (w = 0 ∧ K.1 c ≠ 308)) ?_ (fun w1 h1 => ?_)
  · exact wl_eq (fun z => wl_some (Or.inl ⟨rfl, by omega⟩)) (fun z => wl_some (Or.inr ⟨rfl, by omega⟩))
  have h1' := h1
  rcases h1 with ⟨rfl, k⟩ | ⟨rfl, k⟩
  · refine wl_if (fun z => absurd z (by decide)) (fun _ => ?_)
    exact go 1 (by omega) h1'
  · refine wl_if (fun _ => ?_) (fun z => absurd rfl z)
    refine wl_eq (fun z => go 0 (by omega) h1') (fun z1 => ?_)
    refine wl_eq (fun z => go 0 (by omega) h1') (fun z2 => ?_)
    refine wl_eq (fun z => go 0 (by omega) h1') (fun z3 => ?_)
    refine wl_eq (fun z => go 0 (by omega) h1') (fun z4 => ?_)
    exact bad 0 0 l_0 (by decide) (by decide) (by unfold ICLf; rw [if_pos (by omega)])
theorem ICL_pos {c mq pp i : Nat} {R : CR} (h0 : 0 ≤ K.2.2 c) (hi : 40 ≤ i) : (ICLf K i c mq pp R).1 ≠ 0 := by
  unfold ICLf
  by_cases z : ¬ isW (K.1 c)
  · rw [if_pos z]
    show 1 + 8 * K.2.2 c + 0 ≠ 0
    omega
  · rw [if_neg z, if_pos (Or.inl hi)]
    show 1 + 8 * K.2.2 c + 4 ≠ 0
    omega
theorem ui_allL (hb : 50 ≤ b) : ∀ (N : Nat) (a2 : Int32) (S : cT) (c mq pp i : Nat) (R : CR), CI K m b c mq pp R S → a2.toInt = (i : Int) → i ≤ 40 → wl (fc_X3_readAll_L10 1 b N a2 S) (fun w => (∃ r, r.1 ≠ 0 ∧ IAL K i c mq pp R r ∧ CJ r.1 w.2) ∨ (∃ r : RI, CI K m b r.2.1 r.2.2.1 r.2.2.2.1 r.2.2.2.2 w.2 ∧ (K.1 r.2.1 = 260 ∧ r.2.2.2.1 ≠ 0 → r.1 = 0 ∧ IAL K i c mq pp R r) ∧ (¬ (K.1 r.2.1 = 260 ∧ r.2.2.2.1 ≠ 0) → IAL K i c mq pp R (bdi K r.2.1 0)))) := by
  have l_1 : (1 : Int32).toInt = 1 := by decide
  have l_40 : (40 : Int32).toInt = 40 := by decide
  have l_59 : (59 : Int32).toInt = 59 := by decide
  intro N
  induction N with
  | zero => intro a2 S c mq pp i R _ _ _; exact wl_none
  | succ N ih =>
    intro a2 S c mq pp i R h e2 hi
    rw [fc_X3_readAll_L10]
    refine wl_lt (fun z => by exfalso; omega) (fun _ => ?_)
    refine wl_bind (ui_clause hb h e2) (fun q4 co => ?_)
    rcases co with ⟨a, cj⟩ | ⟨a, ci⟩
    · have e := cj.2.2
      exact wl_eq (fun y => by exfalso; omega) (fun _ => wl_some (Or.inl ⟨_, a, IAL_bad a, cj⟩))
    · have e := ci.2.2.2.2.1
      refine wl_eq (fun y => ?_) (fun y => wl_some (Or.inr ⟨ICLf K i c mq pp R, ci, fun z => ⟨a, IAL_end a (by omega) z⟩, fun z => IAL_more a (by omega) z⟩))
      have i40 : i < 40 := by
        by_cases z : 40 ≤ i
        · exact absurd a (ICL_pos (h.1.2.2.1 c h.2.1).2.2.2.1 z)
        · omega
      have u := tA (a := a2) (b := 1) (by omega) (by omega)
      refine wl_bind (ui_step hb ci (ci.lt (by omega))) (fun q6 h6 => ?_)
      refine wl_mono (ih (a2 + 1) q6 _ _ _ (i + 1) _ h6 (by omega) (by omega)) (fun w hw => ?_)
      rcases hw with ⟨r, y1, y2, y3⟩ | ⟨r, y1, y2, y3⟩
      · exact Or.inl ⟨r, y1, IAL_go a (by omega) y2, y3⟩
      · exact Or.inr ⟨r, y1, fun z => ⟨(y2 z).1, IAL_go a (by omega) (y2 z).2⟩, fun z => IAL_go a (by omega) (y3 z)⟩
end CIT
/-- rows that hold a row of signs -/
theorem ctp_scan {B : Nat → Int} {n m : Nat} {E po : Nat → Nat} {S : cT} (hB : BY B n) (st : STR B n (KC S) m E po) (e5 : (S.1 1 5).toInt = (m : Int) + 1) : CTp (KC S) m S := by
  have hn := hB.1
  obtain ⟨s1, s2, s3, s4, s5, s6, s7⟩ := st
  refine ⟨e5, by omega, fun c hc => ⟨rfl, rfl, rfl, ?_⟩, s6⟩
  have pc := s7 c hc
  by_cases z : c = m
  · subst z
    rw [pc, s5, s6]
    omega
  · obtain ⟨_, tk⟩ := s3 c (by omega)
    have k0 : 0 ≤ (KC S).1 c ∧ (KC S).1 c ≤ 400 := by
      rcases tk.2.2 with ⟨_, _, k, _⟩ | ⟨_, _, k, _⟩ | ⟨_, _, _, ⟨_, _, k, _⟩ | ⟨_, k, _⟩⟩
      · omega
      · rcases k with ⟨i, i1, k, _⟩ | ⟨k, _⟩
        · omega
        · omega
      · by_cases y : B (po c) = 60
        · rw [if_pos y] at k; omega
        · rw [if_neg y] at k; omega
      · have := hB.2.1 (po c)
        omega
    have := tk.1
    rw [pc]
    omega
theorem uc_clear {B : Nat → Int} {n b : Nat} {S : cT} (hb : 50 ≤ b) (h : CTB B n S) (h8 : 0 ≤ (S.1 (b + 8) 3).toInt) (h10 : 0 ≤ (S.1 (b + 10) 3).toInt) : wl (fc_X2_clear b S) (fun q => CTB B n q ∧ (q.1 b 8).toInt = 0 ∧ (q.1 b 9).toInt = 0 ∧ HCn b zR q) := by
  have l_0 : (0 : Int32).toInt = 0 := by decide
  have l_1 : (1 : Int32).toInt = 1 := by decide
  have l_8 : (8 : Int32).toInt = 8 := by decide
  have l_64 : (64 : Int32).toInt = 64 := by decide
  have tp : ∀ {S S' : cT}, CTB B n S → (∀ q j, q < b → S'.1 q j = S.1 q j) → CTB B n S' := fun h f => ⟨by rw [f 1 4 (by omega)]; exact h.1, fun k hk => by rw [f 2 k (by omega)]; exact h.2 k hk⟩
  have l2 : ∀ (N : Nat) (a : Int32) (S : cT) (i : Nat), a.toInt = (i : Int) → (∀ p, p < i → (S.1 (b + 1) p).toInt = 0) → wl (fc_X2_clear_L2 b N a S) (fun w => (∀ p, p < 8 → (w.2.1 (b + 1) p).toInt = 0) ∧ ∀ q j, (q ≤ b ∨ b + 4 < q) → w.2.1 q j = S.1 q j) := by
    intro N
    induction N with
    | zero => intro a S i _ _; exact wl_none
    | succ N ih =>
      intro a S i e z
      rw [fc_X2_clear_L2]
      refine wl_le (fun y => wl_some ⟨fun p hp => z p (by omega), fun _ _ _ => rfl⟩) (fun y => ?_)
      have u := tA (a := a) (b := 1) (by omega) (by omega)
      refine wl_bif (wl_letv (fun S3 e3 => ?_))
      refine wl_bif (wl_letv (fun S5 e5 => ?_))
      refine wl_bif (wl_letv (fun S7 e7 => ?_))
      refine wl_bif (wl_letv (fun S9 e9 => ?_))
      rw [cl_idx e] at e3
      have f9 : ∀ q j, (q ≤ b + 1 ∨ b + 4 < q) → S9.1 q j = S3.1 q j := fun q j hq => by rw [e9, ca_ne (Or.inl (by omega)), e7, ca_ne (Or.inl (by omega)), e5, ca_ne (Or.inl (by omega))]
      refine wl_mono (ih (a + 1) S9 (i + 1) (by omega) (fun p hp => ?_)) (fun w hw => ⟨hw.1, fun q j hq => ?_⟩)
      · rw [f9 (b + 1) p (by omega), e3]
        by_cases x : p = i
        · rw [x, ca_at]; exact l_0
        · rw [ca_ne (Or.inr x)]; exact z p (by omega)
      · rw [hw.2 q j hq, f9 q j (by omega), e3, ca_ne (Or.inl (by omega))]
  have l44 : ∀ (N : Nat) (a : Int32) (S : cT) (i : Nat), a.toInt = (i : Int) → (∀ p, p < i → (S.1 (b + 5) p).toInt = 0) → wl (fc_X2_clear_L44 b N a S) (fun w => (∀ p, p < 64 → (w.2.1 (b + 5) p).toInt = 0) ∧ ∀ q j, q ≠ b + 5 → w.2.1 q j = S.1 q j) := by
    intro N
    induction N with
    | zero => intro a S i _ _; exact wl_none
    | succ N ih =>
      intro a S i e z
      rw [fc_X2_clear_L44]
      refine wl_le (fun y => wl_some ⟨fun p hp => z p (by omega), fun _ _ _ => rfl⟩) (fun y => ?_)
      have u := tA (a := a) (b := 1) (by omega) (by omega)
      refine wl_bif (wl_letv (fun S3 e3 => ?_))
      rw [cl_idx e] at e3
      refine wl_mono (ih (a + 1) S3 (i + 1) (by omega) (fun p hp => ?_)) (fun w hw => ⟨hw.1, fun q j hq => ?_⟩)
      · rw [e3]
        by_cases x : p = i
        · rw [x, ca_at]; exact l_0
        · rw [ca_ne (Or.inr x)]; exact z p (by omega)
      · rw [hw.2 q j hq, e3, ca_ne (Or.inl hq)]
  have cut : ∀ (o : Nat) (S : cT), wl (fc_X6_cutTo (b + o) 0 S) (fun w => (0 ≤ (S.1 (b + o) 3).toInt → (w.1 (b + o) 3).toInt = 0) ∧ ∀ q j, q ≠ b + o → w.1 q j = S.1 q j) := by
    intro o S
    unfold fc_X6_cutTo
    refine wl_lt (fun z => by exfalso; omega) (fun _ => ?_)
    refine wl_le (fun z => wl_some ⟨fun y => by omega, fun _ _ _ => rfl⟩) (fun z => ?_)
    refine wl_letv (fun S3 e3 => wl_some ⟨fun _ => by rw [e3, ca_at]; exact l_0, fun q j hq => by rw [e3, ca_ne (Or.inl hq)]⟩)
  unfold fc_X2_clear
  refine wl_bind (l2 FU 0 S 0 l_0 (fun p hp => absurd hp (Nat.not_lt_zero _))) (fun w10 h10' => ?_)
  refine wl_bind (l44 FU 0 w10.2 0 l_0 (fun p hp => absurd hp (Nat.not_lt_zero _))) (fun w14 h14 => ?_)
  refine wl_bind (cut 6 _) (fun q15 h15 => ?_)
  refine wl_bind (cut 8 _) (fun q16 h16 => ?_)
  refine wl_bind (cut 10 _) (fun q17 h17 => ?_)
  refine wl_letv (fun S18 e18 => ?_)
  refine wl_letv (fun S19 e19 => ?_)
  refine wl_letv (fun S20 e20 => ?_)
  refine wl_letv (fun S21 e21 => ?_)
  have f22 : ∀ (S22 : cT), S22 = ca S21 b 12 0 → ∀ q j, q ≠ b → S22.1 q j = q17.1 q j := fun S22 e22 q j hq => by rw [e22, ca_ne (Or.inl hq), e21, ca_ne (Or.inl hq), e20, ca_ne (Or.inl hq), e19, ca_ne (Or.inl hq), e18, ca_ne (Or.inl hq)]
  refine wl_letv (fun S22 e22 => wl_some ⟨tp h (fun q j hq => ?_), ?_, ?_, ?_, ?_, ?_, ?_⟩)
  · rw [f22 S22 e22 q j (by omega), h17.2 q j (by omega), h16.2 q j (by omega), h15.2 q j (by omega), h14.2 q j (by omega), h10'.2 q j (by omega)]
  · rw [e22, ca_ne (Or.inr (by decide)), e21, ca_ne (Or.inr (by decide)), e20, ca_ne (Or.inr (by decide)), e19, ca_ne (Or.inr (by decide)), e18, ca_at]
    decide
  · rw [e22, ca_ne (Or.inr (by decide)), e21, ca_ne (Or.inr (by decide)), e20, ca_ne (Or.inr (by decide)), e19, ca_at]
    decide
  · intro p hp
    rw [f22 S22 e22 (b + 1) p (by omega), h17.2 (b + 1) p (by omega), h16.2 (b + 1) p (by omega), h15.2 (b + 1) p (by omega), h14.2 (b + 1) p (by omega)]
    exact h10'.1 p hp
  · intro k hk
    rw [f22 S22 e22 (b + 5) k (by omega), h17.2 (b + 5) k (by omega), h16.2 (b + 5) k (by omega), h15.2 (b + 5) k (by omega)]
    exact h14.1 k hk
  · rw [f22 S22 e22 (b + 8) 3 (by omega), h17.2 (b + 8) 3 (by omega)]
    exact h16.1 (by rw [h15.2 (b + 8) 3 (by omega), h14.2 (b + 8) 3 (by omega), h10'.2 (b + 8) 3 (by omega)]; exact h8)
  · rw [f22 S22 e22 (b + 10) 3 (by omega)]
    exact h17.1 (by rw [h16.2 (b + 10) 3 (by omega), h15.2 (b + 10) 3 (by omega), h14.2 (b + 10) 3 (by omega), h10'.2 (b + 10) 3 (by omega)]; exact h10)
/-- the class's reader of islands: what it finds wrong, or how many people -/
theorem ui_readAll {B : Nat → Int} {n b : Nat} {S : cT} (hb : 50 ≤ b) (hB : BY B n) (h : CTB B n S) (h8 : 0 ≤ (S.1 (b + 8) 3).toInt) (h10 : 0 ≤ (S.1 (b + 10) 3).toInt) : wl (fc_X3_readAll 1 b S) (fun S' => ∃ K m E po r, STR B n K m E po ∧ IAL K 0 0 0 0 zR r ∧ (S'.1 1 7).toInt = r.1 ∧ (r.1 = 0 → (S'.1 b 8).toInt = (r.2.2.1 : Int) ∧ (S'.1 b 9).toInt = (r.2.2.2.1 : Int) ∧ HCn b r.2.2.2.2 S')) := by
  unfold fc_X3_readAll
  have l_0 : (0 : Int32).toInt = 0 := by decide
  have l_260 : (260 : Int32).toInt = 260 := by decide
  refine wl_bind (uc_clear hb h h8 h10) (fun q1 h1 => ?_)
  obtain ⟨C1, m1, p1, hc1⟩ := h1
  refine wl_bind (uc_scan hB C1) (fun q2 h2 => ?_)
  obtain ⟨⟨m, E, po, st, e5⟩, e6, e7, e8, e9, f2⟩ := h2
  have hT := ctp_scan hB st e5
  have C : CI (KC q2) m b 0 0 0 zR q2 := ⟨hT, Nat.zero_le _, e7, e6, by rw [e8]; rfl, by rw [e9]; rfl, by rw [f2 b 8 (by omega) (by omega) (by omega) (by omega)]; exact m1, by decide, by rw [f2 b 9 (by omega) (by omega) (by omega) (by omega)]; exact p1, by decide, hc1.fr (fun q j hq => f2 q j (by omega) (by omega) (by omega) (by omega))⟩
  refine wl_bind (ui_allL hb FU 0 q2 0 0 0 0 zR C l_0 (by decide)) (fun w7 h7 => ?_)
  have bad : ∀ (r : RI), CI (KC q2) m b r.2.1 r.2.2.1 r.2.2.2.1 r.2.2.2.2 w7.2 → IAL (KC q2) 0 0 0 0 zR (bdi (KC q2) r.2.1 0) → wl ((fc_X10_refuse 1 0 w7.2).bind fun q => some q) (fun S' => ∃ K m E po r, STR B n K m E po ∧ IAL K 0 0 0 0 zR r ∧ (S'.1 1 7).toInt = r.1 ∧ (r.1 = 0 → (S'.1 b 8).toInt = (r.2.2.1 : Int) ∧ (S'.1 b 9).toInt = (r.2.2.2.1 : Int) ∧ HCn b r.2.2.2.2 S')) := fun r ci al =>
    wl_bind (ui_refuse ci l_0 (by decide) (by decide)) (fun q hq => wl_some ⟨_, m, E, po, _, st, al, hq.2.1, fun z => absurd z hq.1⟩)
  rcases h7 with ⟨r, a, al, cj⟩ | ⟨r, ci, y1, y2⟩
  · have e := cj.2.2
    refine wl_eq (fun y => by exfalso; omega) (fun _ => ?_)
    exact wl_bind (ui_refuse_b cj) (fun q hq => wl_some ⟨_, m, E, po, r, st, al, hq.2.1, fun z => absurd z a⟩)
  · have e := ci.2.2.2.2.1
    have ep := ci.2.2.2.2.2.2.2.2.1
    refine wl_eq (fun y => ?_) (fun y => bad r ci (y2 (fun z => by omega)))
    refine wl_eq (fun x => bad r ci (y2 (fun z => by omega))) (fun x => ?_)
    have g := y1 ⟨by omega, by omega⟩
    exact wl_some ⟨_, m, E, po, r, st, g.2, by rw [g.1]; exact ci.2.2.1, fun _ => ⟨ci.2.2.2.2.2.2.1, ep, ci.2.2.2.2.2.2.2.2.2.2⟩⟩
