/-! ===== the law's loop (by program) ===== -/
section LLOOP
variable {p : Program} {l : Launch} {e : Env} {s : State} {m : MethodId} {below : List Frame} {meth : Method} {c : Code} {b L : Nat} {xs : Nat → Int32} {D : va_G} {cA : FieldType → ClassId} {as0 : Nat → Nat} {cu su : Nat}
theorem wiS_some {f : Option Int32} {S : cT} {q : Int32 × cT} (h : wiS f S = some q) : f = some q.1 ∧ q.2 = S := by
  obtain ⟨r, hr, rfl⟩ := Option.map_eq_some_iff.mp h
  exact ⟨hr, rfl⟩
theorem wiT_some {f : Option Int32} {S : mT} {q : Int32 × mT} (h : wiT f S = some q) : f = some q.1 ∧ q.2 = S := by
  obtain ⟨r, hr, rfl⟩ := Option.map_eq_some_iff.mp h
  exact ⟨hr, rfl⟩
theorem wbS_some {f : Option (Bool × cT)} {q : Int32 × cT} (h : wbS f = some q) : ∃ r, f = some r ∧ q = (b2i r.1, r.2) := by
  obtain ⟨r, hr, rfl⟩ := Option.map_eq_some_iff.mp h
  exact ⟨r, hr, rfl⟩
theorem wbT_some {f : Option (Bool × mT)} {q : Int32 × mT} (h : wbT f = some q) : ∃ r, f = some r ∧ q = (b2i r.1, r.2) := by
  obtain ⟨r, hr, rfl⟩ := Option.map_eq_some_iff.mp h
  exact ⟨r, hr, rfl⟩
theorem ls_feed (E : LE p s m meth c b L xs as0) (hcu : cu ≤ 600000) (hsu : su ≤ 7302250) {i3 : Int32} {S : cT} {T : mT} (h1 : vp_in (i3 + 1) L) (h2 : vp_in (i3 + 2) L) (h3 : vp_in (i3 + 3) L) (h4 : vp_in (i3 + 4) L) (h5 : vp_in (i3 + 5) L) {I : cT → mT → Prop} (h : St false I (fc_X11_feed 0 (xs (i3 + 1).toNatClampNeg) (xs (i3 + 2).toNatClampNeg) (xs (i3 + 3).toNatClampNeg) (xs (i3 + 4).toNatClampNeg) (xs (i3 + 5).toNatClampNeg) S) (fm_feed (xs (i3 + 1).toNatClampNeg) (xs (i3 + 2).toNatClampNeg) (xs (i3 + 3).toNatClampNeg) (xs (i3 + 4).toNatClampNeg) (xs (i3 + 5).toNatClampNeg) T)) (k : ∀ S' T', I S' T' → LW p l e s m below meth c b D cA as0 cu su 1276 [some (.ref kB), some (.ref 0), some (.ref 137), some (.int i3)] [] 156 (hM (cC S') T')) : LW p l e s m below meth c b D cA as0 cu su 192 [some (.ref kB), some (.ref 0), some (.ref 137), some (.int i3)] [] 156 (hM (cC S) T) := by
  obtain ⟨q, w, hf, hg, hr, hI⟩ := h
  have kk := k _ _ hI
  exact lc_feed E hcu hsu h1 h2 h3 h4 h5 (xc_X11_feed rfl hf) (xm_feed hg) kk
theorem ls_end (E : LE p s m meth c b L xs as0) (hcu : cu ≤ 600000) (hsu : su ≤ 7302250) {i3 : Int32} {S : cT} {T : mT} (h1 : vp_in (i3 + 1) L) {I : cT → mT → Prop} (h : St false I (fc_X11_end 0 (xs (i3 + 1).toNatClampNeg) S) (fm_end (xs (i3 + 1).toNatClampNeg) T)) (k : ∀ S' T', I S' T' → LW p l e s m below meth c b D cA as0 cu su 1276 [some (.ref kB), some (.ref 0), some (.ref 137), some (.int i3)] [] 156 (hM (cC S') T')) : LW p l e s m below meth c b D cA as0 cu su 255 [some (.ref kB), some (.ref 0), some (.ref 137), some (.int i3)] [] 156 (hM (cC S) T) := by
  obtain ⟨q, w, hf, hg, hr, hI⟩ := h
  have kk := k _ _ hI
  exact lc_end E hcu hsu h1 (xc_X11_end rfl hf) (xm_end hg) kk
theorem ls_island (E : LE p s m meth c b L xs as0) (hcu : cu ≤ 600000) (hsu : su ≤ 7302250) {i3 : Int32} {S : cT} {T : mT}  {I : cT → mT → Prop} (h : St false I (fc_X11_island 0 S) (fm_island T)) (k : ∀ S' T', I S' T' → LW p l e s m below meth c b D cA as0 cu su 1276 [some (.ref kB), some (.ref 0), some (.ref 137), some (.int i3)] [] 156 (hM (cC S') T')) : LW p l e s m below meth c b D cA as0 cu su 278 [some (.ref kB), some (.ref 0), some (.ref 137), some (.int i3)] [] 156 (hM (cC S) T) := by
  obtain ⟨q, w, hf, hg, hr, hI⟩ := h
  have kk := k _ _ hI
  exact lc_island E hcu hsu  (xc_X11_island rfl hf) (xm_island hg) kk
theorem ls_rule (E : LE p s m meth c b L xs as0) (hcu : cu ≤ 600000) (hsu : su ≤ 7302250) {i3 : Int32} {S : cT} {T : mT}  {I : cT → mT → Prop} (h : St false I (fc_X11_rule 0 S) (fm_rule T)) (k : ∀ S' T', I S' T' → LW p l e s m below meth c b D cA as0 cu su 1276 [some (.ref kB), some (.ref 0), some (.ref 137), some (.int i3)] [] 156 (hM (cC S') T')) : LW p l e s m below meth c b D cA as0 cu su 291 [some (.ref kB), some (.ref 0), some (.ref 137), some (.int i3)] [] 156 (hM (cC S) T) := by
  obtain ⟨q, w, hf, hg, hr, hI⟩ := h
  have kk := k _ _ hI
  exact lc_rule E hcu hsu  (xc_X11_rule rfl hf) (xm_rule hg) kk
theorem ls_force (E : LE p s m meth c b L xs as0) (hcu : cu ≤ 600000) (hsu : su ≤ 7302250) {i3 : Int32} {S : cT} {T : mT} (h1 : vp_in (i3 + 1) L) {I : cT → mT → Prop} (h : St true I (fc_X11_force 0 (xs (i3 + 1).toNatClampNeg) S) (fm_force (xs (i3 + 1).toNatClampNeg) T)) (k : ∀ S' T', I S' T' → LW p l e s m below meth c b D cA as0 cu su 1276 [some (.ref kB), some (.ref 0), some (.ref 137), some (.int i3)] [] 156 (hM (cC S') T')) : LW p l e s m below meth c b D cA as0 cu su 304 [some (.ref kB), some (.ref 0), some (.ref 137), some (.int i3)] [] 156 (hM (cC S) T) := by
  obtain ⟨q, w, hf, hg, hr, hI⟩ := h
  have kk := k _ _ hI
  exact lc_force E hcu hsu h1 (xc_X11_force rfl hf) (xm_force hg) (hr rfl) kk
theorem ls_person (E : LE p s m meth c b L xs as0) (hcu : cu ≤ 600000) (hsu : su ≤ 7302250) {i3 : Int32} {S : cT} {T : mT} (h1 : vp_in (i3 + 1) L) (h2 : vp_in (i3 + 2) L) {I : cT → mT → Prop} (h : St false I (fc_X11_person 0 (xs (i3 + 1).toNatClampNeg) (xs (i3 + 2).toNatClampNeg) S) (fm_person (xs (i3 + 1).toNatClampNeg) (xs (i3 + 2).toNatClampNeg) T)) (k : ∀ S' T', I S' T' → LW p l e s m below meth c b D cA as0 cu su 1276 [some (.ref kB), some (.ref 0), some (.ref 137), some (.int i3)] [] 156 (hM (cC S') T')) : LW p l e s m below meth c b D cA as0 cu su 327 [some (.ref kB), some (.ref 0), some (.ref 137), some (.int i3)] [] 156 (hM (cC S) T) := by
  obtain ⟨q, w, hf, hg, hr, hI⟩ := h
  have kk := k _ _ hI
  exact lc_person E hcu hsu h1 h2 (xc_X11_person rfl hf) (xm_person hg) kk
theorem ls_sum (E : LE p s m meth c b L xs as0) (hcu : cu ≤ 600000) (hsu : su ≤ 7302250) {i3 : Int32} {S : cT} {T : mT} (h1 : vp_in (i3 + 1) L) (h2 : vp_in (i3 + 2) L) {I : cT → mT → Prop} (h : St false I (fc_X11_sum 0 (xs (i3 + 1).toNatClampNeg) (xs (i3 + 2).toNatClampNeg) S) (fm_sum (xs (i3 + 1).toNatClampNeg) (xs (i3 + 2).toNatClampNeg) T)) (k : ∀ S' T', I S' T' → LW p l e s m below meth c b D cA as0 cu su 1276 [some (.ref kB), some (.ref 0), some (.ref 137), some (.int i3)] [] 156 (hM (cC S') T')) : LW p l e s m below meth c b D cA as0 cu su 360 [some (.ref kB), some (.ref 0), some (.ref 137), some (.int i3)] [] 156 (hM (cC S) T) := by
  obtain ⟨q, w, hf, hg, hr, hI⟩ := h
  have kk := k _ _ hI
  exact lc_sum E hcu hsu h1 h2 (xc_X11_sum rfl hf) (xm_sum hg) kk
theorem ls_tie (E : LE p s m meth c b L xs as0) (hcu : cu ≤ 600000) (hsu : su ≤ 7302250) {i3 : Int32} {S : cT} {T : mT} (h1 : vp_in (i3 + 1) L) (h2 : vp_in (i3 + 2) L) {I : cT → mT → Prop} (h : St false I (wiS (fc_X11_tie 0 (xs (i3 + 1).toNatClampNeg) (xs (i3 + 2).toNatClampNeg) S) S) (wiT (fm_tie (xs (i3 + 1).toNatClampNeg) (xs (i3 + 2).toNatClampNeg) T) T)) (k : ∀ S' T', I S' T' → LW p l e s m below meth c b D cA as0 cu su 1276 [some (.ref kB), some (.ref 0), some (.ref 137), some (.int i3)] [] 156 (hM (cC S') T')) : LW p l e s m below meth c b D cA as0 cu su 393 [some (.ref kB), some (.ref 0), some (.ref 137), some (.int i3)] [] 156 (hM (cC S) T) := by
  obtain ⟨q, w, hf, hg, hr, hI⟩ := h
  obtain ⟨hf, hS⟩ := wiS_some hf
  obtain ⟨hg, hT⟩ := wiT_some hg
  have kk := k _ _ hI
  rw [hS] at kk
  rw [hT] at kk
  exact lc_tie E hcu hsu h1 h2 (xc_X11_tie rfl hf) (xm_tie hg) kk
theorem ls_telling (E : LE p s m meth c b L xs as0) (hcu : cu ≤ 600000) (hsu : su ≤ 7302250) {i3 : Int32} {S : cT} {T : mT} (h1 : vp_in (i3 + 1) L) (h2 : vp_in (i3 + 2) L) {I : cT → mT → Prop} (h : St false I (wiS (fc_X11_telling 0 (xs (i3 + 1).toNatClampNeg) (xs (i3 + 2).toNatClampNeg) S) S) (wiT (fm_telling (xs (i3 + 1).toNatClampNeg) (xs (i3 + 2).toNatClampNeg) T) T)) (k : ∀ S' T', I S' T' → LW p l e s m below meth c b D cA as0 cu su 1276 [some (.ref kB), some (.ref 0), some (.ref 137), some (.int i3)] [] 156 (hM (cC S') T')) : LW p l e s m below meth c b D cA as0 cu su 426 [some (.ref kB), some (.ref 0), some (.ref 137), some (.int i3)] [] 156 (hM (cC S) T) := by
  obtain ⟨q, w, hf, hg, hr, hI⟩ := h
  obtain ⟨hf, hS⟩ := wiS_some hf
  obtain ⟨hg, hT⟩ := wiT_some hg
  have kk := k _ _ hI
  rw [hS] at kk
  rw [hT] at kk
  exact lc_telling E hcu hsu h1 h2 (xc_X11_telling rfl hf) (xm_telling hg) kk
theorem ls_tell (E : LE p s m meth c b L xs as0) (hcu : cu ≤ 600000) (hsu : su ≤ 7302250) {i3 : Int32} {S : cT} {T : mT} (h1 : vp_in (i3 + 1) L) (h2 : vp_in (i3 + 2) L) (h3 : vp_in (i3 + 3) L) (h4 : vp_in (i3 + 4) L) {I : cT → mT → Prop} (h : St false I (fc_X11_tell 0 (xs (i3 + 1).toNatClampNeg) (xs (i3 + 2).toNatClampNeg) (xs (i3 + 3).toNatClampNeg) (xs (i3 + 4).toNatClampNeg) S) (fm_tell (xs (i3 + 1).toNatClampNeg) (xs (i3 + 2).toNatClampNeg) (xs (i3 + 3).toNatClampNeg) (xs (i3 + 4).toNatClampNeg) T)) (k : ∀ S' T', I S' T' → LW p l e s m below meth c b D cA as0 cu su 1276 [some (.ref kB), some (.ref 0), some (.ref 137), some (.int i3)] [] 156 (hM (cC S') T')) : LW p l e s m below meth c b D cA as0 cu su 459 [some (.ref kB), some (.ref 0), some (.ref 137), some (.int i3)] [] 156 (hM (cC S) T) := by
  obtain ⟨q, w, hf, hg, hr, hI⟩ := h
  have kk := k _ _ hI
  exact lc_tell E hcu hsu h1 h2 h3 h4 (xc_X11_tell rfl hf) (xm_tell hg) kk
theorem ls_retell (E : LE p s m meth c b L xs as0) (hcu : cu ≤ 600000) (hsu : su ≤ 7302250) {i3 : Int32} {S : cT} {T : mT} (h1 : vp_in (i3 + 1) L) (h2 : vp_in (i3 + 2) L) (h3 : vp_in (i3 + 3) L) {I : cT → mT → Prop} (h : St false I (fc_X11_retell 0 (xs (i3 + 1).toNatClampNeg) (xs (i3 + 2).toNatClampNeg) (xs (i3 + 3).toNatClampNeg) S) (fm_retell (xs (i3 + 1).toNatClampNeg) (xs (i3 + 2).toNatClampNeg) (xs (i3 + 3).toNatClampNeg) T)) (k : ∀ S' T', I S' T' → LW p l e s m below meth c b D cA as0 cu su 1276 [some (.ref kB), some (.ref 0), some (.ref 137), some (.int i3)] [] 156 (hM (cC S') T')) : LW p l e s m below meth c b D cA as0 cu su 512 [some (.ref kB), some (.ref 0), some (.ref 137), some (.int i3)] [] 156 (hM (cC S) T) := by
  obtain ⟨q, w, hf, hg, hr, hI⟩ := h
  have kk := k _ _ hI
  exact lc_retell E hcu hsu h1 h2 h3 (xc_X11_retell rfl hf) (xm_retell hg) kk
theorem ls_look (E : LE p s m meth c b L xs as0) (hcu : cu ≤ 600000) (hsu : su ≤ 7302250) {i3 : Int32} {S : cT} {T : mT}  {I : cT → mT → Prop} (h : St false I (fc_X11_look 0 S) (fm_look T)) (k : ∀ S' T', I S' T' → LW p l e s m below meth c b D cA as0 cu su 1276 [some (.ref kB), some (.ref 0), some (.ref 137), some (.int i3)] [] 156 (hM (cC S') T')) : LW p l e s m below meth c b D cA as0 cu su 555 [some (.ref kB), some (.ref 0), some (.ref 137), some (.int i3)] [] 156 (hM (cC S) T) := by
  obtain ⟨q, w, hf, hg, hr, hI⟩ := h
  have kk := k _ _ hI
  exact lc_look E hcu hsu  (xc_X11_look rfl hf) (xm_look hg) kk
theorem ls_give (E : LE p s m meth c b L xs as0) (hcu : cu ≤ 600000) (hsu : su ≤ 7302250) {i3 : Int32} {S : cT} {T : mT} (h1 : vp_in (i3 + 1) L) {I : cT → mT → Prop} (h : St false I (fc_X11_give 0 (xs (i3 + 1).toNatClampNeg) S) (fm_give (xs (i3 + 1).toNatClampNeg) T)) (k : ∀ S' T', I S' T' → LW p l e s m below meth c b D cA as0 cu su 1276 [some (.ref kB), some (.ref 0), some (.ref 137), some (.int i3)] [] 156 (hM (cC S') T')) : LW p l e s m below meth c b D cA as0 cu su 568 [some (.ref kB), some (.ref 0), some (.ref 137), some (.int i3)] [] 156 (hM (cC S) T) := by
  obtain ⟨q, w, hf, hg, hr, hI⟩ := h
  have kk := k _ _ hI
  exact lc_give E hcu hsu h1 (xc_X11_give rfl hf) (xm_give hg) kk
theorem ls_save (E : LE p s m meth c b L xs as0) (hcu : cu ≤ 600000) (hsu : su ≤ 7302250) {i3 : Int32} {S : cT} {T : mT}  {I : cT → mT → Prop} (h : St false I (fc_X11_save 0 S) (fm_save T)) (k : ∀ S' T', I S' T' → LW p l e s m below meth c b D cA as0 cu su 1276 [some (.ref kB), some (.ref 0), some (.ref 137), some (.int i3)] [] 156 (hM (cC S') T')) : LW p l e s m below meth c b D cA as0 cu su 591 [some (.ref kB), some (.ref 0), some (.ref 137), some (.int i3)] [] 156 (hM (cC S) T) := by
  obtain ⟨q, w, hf, hg, hr, hI⟩ := h
  have kk := k _ _ hI
  exact lc_save E hcu hsu  (xc_X11_save rfl hf) (xm_save hg) kk
theorem ls_sell (E : LE p s m meth c b L xs as0) (hcu : cu ≤ 600000) (hsu : su ≤ 7302250) {i3 : Int32} {S : cT} {T : mT} (h1 : vp_in (i3 + 1) L) (h2 : vp_in (i3 + 2) L) (h3 : vp_in (i3 + 3) L) {I : cT → mT → Prop} (h : St false I (fc_X11_sell 0 (xs (i3 + 1).toNatClampNeg) (xs (i3 + 2).toNatClampNeg) (xs (i3 + 3).toNatClampNeg) S) (fm_sell (xs (i3 + 1).toNatClampNeg) (xs (i3 + 2).toNatClampNeg) (xs (i3 + 3).toNatClampNeg) T)) (k : ∀ S' T', I S' T' → LW p l e s m below meth c b D cA as0 cu su 1276 [some (.ref kB), some (.ref 0), some (.ref 137), some (.int i3)] [] 156 (hM (cC S') T')) : LW p l e s m below meth c b D cA as0 cu su 604 [some (.ref kB), some (.ref 0), some (.ref 137), some (.int i3)] [] 156 (hM (cC S) T) := by
  obtain ⟨q, w, hf, hg, hr, hI⟩ := h
  have kk := k _ _ hI
  exact lc_sell E hcu hsu h1 h2 h3 (xc_X11_sell rfl hf) (xm_sell hg) kk
theorem ls_spend (E : LE p s m meth c b L xs as0) (hcu : cu ≤ 600000) (hsu : su ≤ 7302250) {i3 : Int32} {S : cT} {T : mT} (h1 : vp_in (i3 + 1) L) {I : cT → mT → Prop} (h : St false I (fc_X11_spend 0 (xs (i3 + 1).toNatClampNeg) S) (fm_spend (xs (i3 + 1).toNatClampNeg) T)) (k : ∀ S' T', I S' T' → LW p l e s m below meth c b D cA as0 cu su 1276 [some (.ref kB), some (.ref 0), some (.ref 137), some (.int i3)] [] 156 (hM (cC S') T')) : LW p l e s m below meth c b D cA as0 cu su 647 [some (.ref kB), some (.ref 0), some (.ref 137), some (.int i3)] [] 156 (hM (cC S) T) := by
  obtain ⟨q, w, hf, hg, hr, hI⟩ := h
  have kk := k _ _ hI
  exact lc_spend E hcu hsu h1 (xc_X11_spend rfl hf) (xm_spend hg) kk
theorem ls_keep (E : LE p s m meth c b L xs as0) (hcu : cu ≤ 600000) (hsu : su ≤ 7302250) {i3 : Int32} {S : cT} {T : mT} (h1 : vp_in (i3 + 1) L) {I : cT → mT → Prop} (h : St false I (wbS (fc_X11_keep 0 (kz (xs (i3 + 1).toNatClampNeg)) S)) (wbT (fm_keep (kz (xs (i3 + 1).toNatClampNeg)) T))) (k : ∀ S' T', I S' T' → LW p l e s m below meth c b D cA as0 cu su 1276 [some (.ref kB), some (.ref 0), some (.ref 137), some (.int i3)] [] 156 (hM (cC S') T')) : LW p l e s m below meth c b D cA as0 cu su 670 [some (.ref kB), some (.ref 0), some (.ref 137), some (.int i3)] [] 156 (hM (cC S) T) := by
  obtain ⟨q, w, hf, hg, hr, hI⟩ := h
  obtain ⟨q0, hf0, rfl⟩ := wbS_some hf
  obtain ⟨w0, hg0, rfl⟩ := wbT_some hg
  have kk := k _ _ hI
  exact lc_keep E hcu hsu h1 (xc_X11_keep rfl hf0) (xm_keep hg0) kk
theorem ls_rest (E : LE p s m meth c b L xs as0) (hcu : cu ≤ 600000) (hsu : su ≤ 7302250) {i3 : Int32} {S : cT} {T : mT}  {I : cT → mT → Prop} (h : St false I (fc_X11_rest 0 S) (fm_rest T)) (k : ∀ S' T', I S' T' → LW p l e s m below meth c b D cA as0 cu su 1276 [some (.ref kB), some (.ref 0), some (.ref 137), some (.int i3)] [] 156 (hM (cC S') T')) : LW p l e s m below meth c b D cA as0 cu su 709 [some (.ref kB), some (.ref 0), some (.ref 137), some (.int i3)] [] 156 (hM (cC S) T) := by
  obtain ⟨q, w, hf, hg, hr, hI⟩ := h
  have kk := k _ _ hI
  exact lc_rest E hcu hsu  (xc_X11_rest rfl hf) (xm_rest hg) kk
theorem ls_undo (E : LE p s m meth c b L xs as0) (hcu : cu ≤ 600000) (hsu : su ≤ 7302250) {i3 : Int32} {S : cT} {T : mT}  {I : cT → mT → Prop} (h : St false I (fc_X11_undo 0 S) (fm_undo T)) (k : ∀ S' T', I S' T' → LW p l e s m below meth c b D cA as0 cu su 1276 [some (.ref kB), some (.ref 0), some (.ref 137), some (.int i3)] [] 156 (hM (cC S') T')) : LW p l e s m below meth c b D cA as0 cu su 722 [some (.ref kB), some (.ref 0), some (.ref 137), some (.int i3)] [] 156 (hM (cC S) T) := by
  obtain ⟨q, w, hf, hg, hr, hI⟩ := h
  have kk := k _ _ hI
  exact lc_undo E hcu hsu  (xc_X11_undo rfl hf) (xm_undo hg) kk
theorem ls_run (E : LE p s m meth c b L xs as0) (hcu : cu ≤ 600000) (hsu : su ≤ 7302250) {i3 : Int32} {S : cT} {T : mT} (h1 : vp_in (i3 + 1) L) (h2 : vp_in (i3 + 2) L) {I : cT → mT → Prop} (h : St false I (fc_X11_run 0 (xs (i3 + 1).toNatClampNeg) (xs (i3 + 2).toNatClampNeg) S) (fm_run (xs (i3 + 1).toNatClampNeg) (xs (i3 + 2).toNatClampNeg) T)) (k : ∀ S' T', I S' T' → LW p l e s m below meth c b D cA as0 cu su 1276 [some (.ref kB), some (.ref 0), some (.ref 137), some (.int i3)] [] 156 (hM (cC S') T')) : LW p l e s m below meth c b D cA as0 cu su 735 [some (.ref kB), some (.ref 0), some (.ref 137), some (.int i3)] [] 156 (hM (cC S) T) := by
  obtain ⟨q, w, hf, hg, hr, hI⟩ := h
  have kk := k _ _ hI
  exact lc_run E hcu hsu h1 h2 (xc_X11_run rfl hf) (xm_run hg) kk
theorem ls_lean (E : LE p s m meth c b L xs as0) (hcu : cu ≤ 600000) (hsu : su ≤ 7302250) {i3 : Int32} {S : cT} {T : mT} (h1 : vp_in (i3 + 1) L) {I : cT → mT → Prop} (h : St false I (wiS (fc_X11_lean 0 (xs (i3 + 1).toNatClampNeg) S) S) (wiT (fm_lean (xs (i3 + 1).toNatClampNeg) T) T)) (k : ∀ S' T', I S' T' → LW p l e s m below meth c b D cA as0 cu su 1276 [some (.ref kB), some (.ref 0), some (.ref 137), some (.int i3)] [] 156 (hM (cC S') T')) : LW p l e s m below meth c b D cA as0 cu su 768 [some (.ref kB), some (.ref 0), some (.ref 137), some (.int i3)] [] 156 (hM (cC S) T) := by
  obtain ⟨q, w, hf, hg, hr, hI⟩ := h
  obtain ⟨hf, hS⟩ := wiS_some hf
  obtain ⟨hg, hT⟩ := wiT_some hg
  have kk := k _ _ hI
  rw [hS] at kk
  rw [hT] at kk
  exact lc_lean E hcu hsu h1 (xc_X11_lean rfl hf) (xm_lean hg) kk
theorem ls_likeliest (E : LE p s m meth c b L xs as0) (hcu : cu ≤ 600000) (hsu : su ≤ 7302250) {i3 : Int32} {S : cT} {T : mT} (h1 : vp_in (i3 + 1) L) (h2 : vp_in (i3 + 2) L) {I : cT → mT → Prop} (h : St false I (fc_X11_likeliest 0 (xs (i3 + 1).toNatClampNeg) (xs (i3 + 2).toNatClampNeg) S) (wiT (fm_likeliest (xs (i3 + 1).toNatClampNeg) (xs (i3 + 2).toNatClampNeg) T) T)) (k : ∀ S' T', I S' T' → LW p l e s m below meth c b D cA as0 cu su 1276 [some (.ref kB), some (.ref 0), some (.ref 137), some (.int i3)] [] 156 (hM (cC S') T')) : LW p l e s m below meth c b D cA as0 cu su 791 [some (.ref kB), some (.ref 0), some (.ref 137), some (.int i3)] [] 156 (hM (cC S) T) := by
  obtain ⟨q, w, hf, hg, hr, hI⟩ := h
  obtain ⟨hg, hT⟩ := wiT_some hg
  have kk := k _ _ hI
  rw [hT] at kk
  exact lc_likeliest E hcu hsu h1 h2 (xc_X11_likeliest rfl hf) (xm_likeliest hg) kk
theorem ls_flatters (E : LE p s m meth c b L xs as0) (hcu : cu ≤ 600000) (hsu : su ≤ 7302250) {i3 : Int32} {S : cT} {T : mT} (h1 : vp_in (i3 + 1) L) (h2 : vp_in (i3 + 2) L) {I : cT → mT → Prop} (h : St false I (wiS (fc_X11_flatters 0 (xs (i3 + 1).toNatClampNeg) (xs (i3 + 2).toNatClampNeg) S) S) (wiT (fm_flatters (xs (i3 + 1).toNatClampNeg) (xs (i3 + 2).toNatClampNeg) T) T)) (k : ∀ S' T', I S' T' → LW p l e s m below meth c b D cA as0 cu su 1276 [some (.ref kB), some (.ref 0), some (.ref 137), some (.int i3)] [] 156 (hM (cC S') T')) : LW p l e s m below meth c b D cA as0 cu su 824 [some (.ref kB), some (.ref 0), some (.ref 137), some (.int i3)] [] 156 (hM (cC S) T) := by
  obtain ⟨q, w, hf, hg, hr, hI⟩ := h
  obtain ⟨hf, hS⟩ := wiS_some hf
  obtain ⟨hg, hT⟩ := wiT_some hg
  have kk := k _ _ hI
  rw [hS] at kk
  rw [hT] at kk
  exact lc_flatters E hcu hsu h1 h2 (xc_X11_flatters rfl hf) (xm_flatters hg) kk
theorem ls_ask (E : LE p s m meth c b L xs as0) (hcu : cu ≤ 600000) (hsu : su ≤ 7302250) {i3 : Int32} {S : cT} {T : mT} (h1 : vp_in (i3 + 1) L) (h2 : vp_in (i3 + 2) L) {I : cT → mT → Prop} (h : St false I (fc_X11_ask 0 (xs (i3 + 1).toNatClampNeg) (xs (i3 + 2).toNatClampNeg) S) (fm_ask (xs (i3 + 1).toNatClampNeg) (xs (i3 + 2).toNatClampNeg) T)) (k : ∀ S' T', I S' T' → LW p l e s m below meth c b D cA as0 cu su 1276 [some (.ref kB), some (.ref 0), some (.ref 137), some (.int i3)] [] 156 (hM (cC S') T')) : LW p l e s m below meth c b D cA as0 cu su 857 [some (.ref kB), some (.ref 0), some (.ref 137), some (.int i3)] [] 156 (hM (cC S) T) := by
  obtain ⟨q, w, hf, hg, hr, hI⟩ := h
  have kk := k _ _ hI
  exact lc_ask E hcu hsu h1 h2 (xc_X11_ask rfl hf) (xm_ask hg) kk
theorem ls_chain (E : LE p s m meth c b L xs as0) (hcu : cu ≤ 600000) (hsu : su ≤ 7302250) {i3 : Int32} {S : cT} {T : mT} (h1 : vp_in (i3 + 1) L) (h2 : vp_in (i3 + 2) L) {I : cT → mT → Prop} (h : St false I (wiS (fc_X11_chain 0 (xs (i3 + 1).toNatClampNeg) (xs (i3 + 2).toNatClampNeg) S) S) (wiT (fm_chain (xs (i3 + 1).toNatClampNeg) (xs (i3 + 2).toNatClampNeg) T) T)) (k : ∀ S' T', I S' T' → LW p l e s m below meth c b D cA as0 cu su 1276 [some (.ref kB), some (.ref 0), some (.ref 137), some (.int i3)] [] 156 (hM (cC S') T')) : LW p l e s m below meth c b D cA as0 cu su 890 [some (.ref kB), some (.ref 0), some (.ref 137), some (.int i3)] [] 156 (hM (cC S) T) := by
  obtain ⟨q, w, hf, hg, hr, hI⟩ := h
  obtain ⟨hf, hS⟩ := wiS_some hf
  obtain ⟨hg, hT⟩ := wiT_some hg
  have kk := k _ _ hI
  rw [hS] at kk
  rw [hT] at kk
  exact lc_chain E hcu hsu h1 h2 (xc_X11_chain rfl hf) (xm_chain hg) kk
theorem ls_slip (E : LE p s m meth c b L xs as0) (hcu : cu ≤ 600000) (hsu : su ≤ 7302250) {i3 : Int32} {S : cT} {T : mT} (h1 : vp_in (i3 + 1) L) (h2 : vp_in (i3 + 2) L) {I : cT → mT → Prop} (h : St false I (wiS (fc_X11_slip 0 (xs (i3 + 1).toNatClampNeg) (xs (i3 + 2).toNatClampNeg) S) S) (wiT (fm_slip (xs (i3 + 1).toNatClampNeg) (xs (i3 + 2).toNatClampNeg) T) T)) (k : ∀ S' T', I S' T' → LW p l e s m below meth c b D cA as0 cu su 1276 [some (.ref kB), some (.ref 0), some (.ref 137), some (.int i3)] [] 156 (hM (cC S') T')) : LW p l e s m below meth c b D cA as0 cu su 923 [some (.ref kB), some (.ref 0), some (.ref 137), some (.int i3)] [] 156 (hM (cC S) T) := by
  obtain ⟨q, w, hf, hg, hr, hI⟩ := h
  obtain ⟨hf, hS⟩ := wiS_some hf
  obtain ⟨hg, hT⟩ := wiT_some hg
  have kk := k _ _ hI
  rw [hS] at kk
  rw [hT] at kk
  exact lc_slip E hcu hsu h1 h2 (xc_X11_slip rfl hf) (xm_slip hg) kk
theorem ls_wish (E : LE p s m meth c b L xs as0) (hcu : cu ≤ 600000) (hsu : su ≤ 7302250) {i3 : Int32} {S : cT} {T : mT} (h1 : vp_in (i3 + 1) L) (h2 : vp_in (i3 + 2) L) (h3 : vp_in (i3 + 3) L) (h4 : vp_in (i3 + 4) L) {I : cT → mT → Prop} (h : St false I (fc_X11_wish 0 (xs (i3 + 1).toNatClampNeg) (xs (i3 + 2).toNatClampNeg) (xs (i3 + 3).toNatClampNeg) (xs (i3 + 4).toNatClampNeg) S) (fm_wish (xs (i3 + 1).toNatClampNeg) (xs (i3 + 2).toNatClampNeg) (xs (i3 + 3).toNatClampNeg) (xs (i3 + 4).toNatClampNeg) T)) (k : ∀ S' T', I S' T' → LW p l e s m below meth c b D cA as0 cu su 1276 [some (.ref kB), some (.ref 0), some (.ref 137), some (.int i3)] [] 156 (hM (cC S') T')) : LW p l e s m below meth c b D cA as0 cu su 956 [some (.ref kB), some (.ref 0), some (.ref 137), some (.int i3)] [] 156 (hM (cC S) T) := by
  obtain ⟨q, w, hf, hg, hr, hI⟩ := h
  have kk := k _ _ hI
  exact lc_wish E hcu hsu h1 h2 h3 h4 (xc_X11_wish rfl hf) (xm_wish hg) kk
theorem ls_round (E : LE p s m meth c b L xs as0) (hcu : cu ≤ 600000) (hsu : su ≤ 7302250) {i3 : Int32} {S : cT} {T : mT} (h1 : vp_in (i3 + 1) L) (h2 : vp_in (i3 + 2) L) {I : cT → mT → Prop} (h : St false I (fc_X11_round 0 (xs (i3 + 1).toNatClampNeg) (xs (i3 + 2).toNatClampNeg) S) (fm_round (xs (i3 + 1).toNatClampNeg) (xs (i3 + 2).toNatClampNeg) T)) (k : ∀ S' T', I S' T' → LW p l e s m below meth c b D cA as0 cu su 1276 [some (.ref kB), some (.ref 0), some (.ref 137), some (.int i3)] [] 156 (hM (cC S') T')) : LW p l e s m below meth c b D cA as0 cu su 1009 [some (.ref kB), some (.ref 0), some (.ref 137), some (.int i3)] [] 156 (hM (cC S) T) := by
  obtain ⟨q, w, hf, hg, hr, hI⟩ := h
  have kk := k _ _ hI
  exact lc_round E hcu hsu h1 h2 (xc_X11_round rfl hf) (xm_round hg) kk
theorem ls_view (E : LE p s m meth c b L xs as0) (hcu : cu ≤ 600000) (hsu : su ≤ 7302250) {i3 : Int32} {S : cT} {T : mT} (h1 : vp_in (i3 + 1) L) (h2 : vp_in (i3 + 2) L) {I : cT → mT → Prop} (h : St false I (fc_X11_view 0 (xs (i3 + 1).toNatClampNeg) (xs (i3 + 2).toNatClampNeg) S) (fm_view (xs (i3 + 1).toNatClampNeg) (xs (i3 + 2).toNatClampNeg) T)) (k : ∀ S' T', I S' T' → LW p l e s m below meth c b D cA as0 cu su 1276 [some (.ref kB), some (.ref 0), some (.ref 137), some (.int i3)] [] 156 (hM (cC S') T')) : LW p l e s m below meth c b D cA as0 cu su 1042 [some (.ref kB), some (.ref 0), some (.ref 137), some (.int i3)] [] 156 (hM (cC S) T) := by
  obtain ⟨q, w, hf, hg, hr, hI⟩ := h
  have kk := k _ _ hI
  exact lc_view E hcu hsu h1 h2 (xc_X11_view rfl hf) (xm_view hg) kk
theorem ls_fits (E : LE p s m meth c b L xs as0) (hcu : cu ≤ 600000) (hsu : su ≤ 7302250) {i3 : Int32} {S : cT} {T : mT} (h1 : vp_in (i3 + 1) L) {I : cT → mT → Prop} (h : St false I (wiS (fc_X11_fits 0 (xs (i3 + 1).toNatClampNeg) S) S) (wiT (fm_fits (xs (i3 + 1).toNatClampNeg) T) T)) (k : ∀ S' T', I S' T' → LW p l e s m below meth c b D cA as0 cu su 1276 [some (.ref kB), some (.ref 0), some (.ref 137), some (.int i3)] [] 156 (hM (cC S') T')) : LW p l e s m below meth c b D cA as0 cu su 1075 [some (.ref kB), some (.ref 0), some (.ref 137), some (.int i3)] [] 156 (hM (cC S) T) := by
  obtain ⟨q, w, hf, hg, hr, hI⟩ := h
  obtain ⟨hf, hS⟩ := wiS_some hf
  obtain ⟨hg, hT⟩ := wiT_some hg
  have kk := k _ _ hI
  rw [hS] at kk
  rw [hT] at kk
  exact lc_fits E hcu hsu h1 (xc_X11_fits rfl hf) (xm_fits hg) kk
theorem ls_views (E : LE p s m meth c b L xs as0) (hcu : cu ≤ 600000) (hsu : su ≤ 7302250) {i3 : Int32} {S : cT} {T : mT} (h1 : vp_in (i3 + 1) L) {I : cT → mT → Prop} (h : St false I (fc_X11_views 0 (xs (i3 + 1).toNatClampNeg) S) (fm_views (xs (i3 + 1).toNatClampNeg) T)) (k : ∀ S' T', I S' T' → LW p l e s m below meth c b D cA as0 cu su 1276 [some (.ref kB), some (.ref 0), some (.ref 137), some (.int i3)] [] 156 (hM (cC S') T')) : LW p l e s m below meth c b D cA as0 cu su 1098 [some (.ref kB), some (.ref 0), some (.ref 137), some (.int i3)] [] 156 (hM (cC S) T) := by
  obtain ⟨q, w, hf, hg, hr, hI⟩ := h
  have kk := k _ _ hI
  exact lc_views E hcu hsu h1 (xc_X11_views rfl hf) (xm_views hg) kk
theorem ls_seed (E : LE p s m meth c b L xs as0) (hcu : cu ≤ 600000) (hsu : su ≤ 7302250) {i3 : Int32} {S : cT} {T : mT} (h1 : vp_in (i3 + 1) L) {I : cT → mT → Prop} (h : St false I (fc_X11_seed 0 (xs (i3 + 1).toNatClampNeg) S) (fm_seed (xs (i3 + 1).toNatClampNeg) T)) (k : ∀ S' T', I S' T' → LW p l e s m below meth c b D cA as0 cu su 1276 [some (.ref kB), some (.ref 0), some (.ref 137), some (.int i3)] [] 156 (hM (cC S') T')) : LW p l e s m below meth c b D cA as0 cu su 1121 [some (.ref kB), some (.ref 0), some (.ref 137), some (.int i3)] [] 156 (hM (cC S) T) := by
  obtain ⟨q, w, hf, hg, hr, hI⟩ := h
  have kk := k _ _ hI
  exact lc_seed E hcu hsu h1 (xc_X11_seed rfl hf) (xm_seed hg) kk
theorem ls_drawn (E : LE p s m meth c b L xs as0) (hcu : cu ≤ 600000) (hsu : su ≤ 7302250) {i3 : Int32} {S : cT} {T : mT} (h1 : vp_in (i3 + 1) L) (h2 : vp_in (i3 + 2) L) (h3 : vp_in (i3 + 3) L) (h4 : vp_in (i3 + 4) L) (h5 : vp_in (i3 + 5) L) {I : cT → mT → Prop} (h : St false I (fc_X11_drawn 0 (xs (i3 + 1).toNatClampNeg) (xs (i3 + 2).toNatClampNeg) (xs (i3 + 3).toNatClampNeg) (xs (i3 + 4).toNatClampNeg) (xs (i3 + 5).toNatClampNeg) S) (fm_drawn (xs (i3 + 1).toNatClampNeg) (xs (i3 + 2).toNatClampNeg) (xs (i3 + 3).toNatClampNeg) (xs (i3 + 4).toNatClampNeg) (xs (i3 + 5).toNatClampNeg) T)) (k : ∀ S' T', I S' T' → LW p l e s m below meth c b D cA as0 cu su 1276 [some (.ref kB), some (.ref 0), some (.ref 137), some (.int i3)] [] 156 (hM (cC S') T')) : LW p l e s m below meth c b D cA as0 cu su 1144 [some (.ref kB), some (.ref 0), some (.ref 137), some (.int i3)] [] 156 (hM (cC S) T) := by
  obtain ⟨q, w, hf, hg, hr, hI⟩ := h
  have kk := k _ _ hI
  exact lc_drawn E hcu hsu h1 h2 h3 h4 h5 (xc_X11_drawn rfl hf) (xm_drawn hg) kk
theorem ls_count (E : LE p s m meth c b L xs as0) (hcu : cu ≤ 600000) (hsu : su ≤ 7302250) {i3 : Int32} {S : cT} {T : mT} (h1 : vp_in (i3 + 1) L) {I : cT → mT → Prop} (h : St false I (wiS (fc_X11_count 0 (xs (i3 + 1).toNatClampNeg) S) S) (wiT (fm_count (xs (i3 + 1).toNatClampNeg) T) T)) (k : ∀ S' T', I S' T' → LW p l e s m below meth c b D cA as0 cu su 1276 [some (.ref kB), some (.ref 0), some (.ref 137), some (.int i3)] [] 156 (hM (cC S') T')) : LW p l e s m below meth c b D cA as0 cu su 1207 [some (.ref kB), some (.ref 0), some (.ref 137), some (.int i3)] [] 156 (hM (cC S) T) := by
  obtain ⟨q, w, hf, hg, hr, hI⟩ := h
  obtain ⟨hf, hS⟩ := wiS_some hf
  obtain ⟨hg, hT⟩ := wiT_some hg
  have kk := k _ _ hI
  rw [hS] at kk
  rw [hT] at kk
  exact lc_count E hcu hsu h1 (xc_X11_count rfl hf) (xm_count hg) kk
theorem ls_image (E : LE p s m meth c b L xs as0) (hcu : cu ≤ 600000) (hsu : su ≤ 7302250) {i3 : Int32} {S : cT} {T : mT} (h1 : vp_in (i3 + 1) L) {I : cT → mT → Prop} (h : St false I (fc_X11_image 0 (xs (i3 + 1).toNatClampNeg) S) (fm_image (xs (i3 + 1).toNatClampNeg) T)) (k : ∀ S' T', I S' T' → LW p l e s m below meth c b D cA as0 cu su 1276 [some (.ref kB), some (.ref 0), some (.ref 137), some (.int i3)] [] 156 (hM (cC S') T')) : LW p l e s m below meth c b D cA as0 cu su 1230 [some (.ref kB), some (.ref 0), some (.ref 137), some (.int i3)] [] 156 (hM (cC S) T) := by
  obtain ⟨q, w, hf, hg, hr, hI⟩ := h
  have kk := k _ _ hI
  exact lc_image E hcu hsu h1 (xc_X11_image rfl hf) (xm_image hg) kk
theorem ls_back (E : LE p s m meth c b L xs as0) (hcu : cu ≤ 600000) (hsu : su ≤ 7302250) {i3 : Int32} {S : cT} {T : mT} (h1 : vp_in (i3 + 1) L) {I : cT → mT → Prop} (h : St false I (fc_X11_back 0 (xs (i3 + 1).toNatClampNeg) S) (fm_back (xs (i3 + 1).toNatClampNeg) T)) (k : ∀ S' T', I S' T' → LW p l e s m below meth c b D cA as0 cu su 1276 [some (.ref kB), some (.ref 0), some (.ref 137), some (.int i3)] [] 156 (hM (cC S') T')) : LW p l e s m below meth c b D cA as0 cu su 1253 [some (.ref kB), some (.ref 0), some (.ref 137), some (.int i3)] [] 156 (hM (cC S) T) := by
  obtain ⟨q, w, hf, hg, hr, hI⟩ := h
  have kk := k _ _ hI
  exact lc_back E hcu hsu h1 (xc_X11_back rfl hf) (xm_back hg) kk
theorem law_switch (E : LE p s m meth c b L xs as0) (hcu : cu ≤ 600000) (hsu : su ≤ 7302250) {i3 : Int32} {v : Int32} {S : cT} {T : mT} (h1 : vp_in (i3 + 1) L) (h2 : vp_in (i3 + 2) L) (h3 : vp_in (i3 + 3) L) (h4 : vp_in (i3 + 4) L) (h5 : vp_in (i3 + 5) L) {I : cT → mT → Prop} (hd : I S T) (h : ∀ j, j ≤ 35 → SStp I S T j (xs (i3 + 1).toNatClampNeg) (xs (i3 + 2).toNatClampNeg) (xs (i3 + 3).toNatClampNeg) (xs (i3 + 4).toNatClampNeg) (xs (i3 + 5).toNatClampNeg)) (k : ∀ S' T', I S' T' → LW p l e s m below meth c b D cA as0 cu su 1276 [some (.ref kB), some (.ref 0), some (.ref 137), some (.int i3)] [] 156 (hM (cC S') T')) : LW p l e s m below meth c b D cA as0 cu su 33 [some (.ref kB), some (.ref 0), some (.ref 137), some (.int i3)] [.int v] 156 (hM (cC S) T) := by
  have hdc : decode code 33 = .ok (.tableswitch 1243 0 35 #[159, 222, 245, 258, 271, 294, 327, 360, 393, 426, 479, 522, 535, 558, 571, 614, 637, 676, 689, 702, 735, 758, 791, 824, 857, 890, 923, 976, 1009, 1042, 1065, 1088, 1111, 1174, 1197, 1220], 159) := by decide +kernel
  by_cases g1 : v.toInt < 0
  · exact LW.tableOut E (tgt := 1276) hdc (Or.inl g1) (by decide) (k S T hd)
  · by_cases g2 : 35 < v.toInt
    · exact LW.tableOut E (tgt := 1276) hdc (Or.inr g2) (by decide) (k S T hd)
    · obtain ⟨j, hj⟩ : ∃ j : Nat, v.toInt = (j : Int) := ⟨v.toInt.toNat, by omega⟩
      have hj35 : j ≤ 35 := by omega
      have hh := h j hj35
      match j, hj, hj35, hh with
      | 0, hj, _, hh => exact LW.tableIn E (off := 159) (tgt := 192) hdc g1 g2 (by rw [hj]; rfl) (by decide) (ls_feed E hcu hsu h1 h2 h3 h4 h5 hh k)
      | 1, hj, _, hh => exact LW.tableIn E (off := 222) (tgt := 255) hdc g1 g2 (by rw [hj]; rfl) (by decide) (ls_end E hcu hsu h1 hh k)
      | 2, hj, _, hh => exact LW.tableIn E (off := 245) (tgt := 278) hdc g1 g2 (by rw [hj]; rfl) (by decide) (ls_island E hcu hsu  hh k)
      | 3, hj, _, hh => exact LW.tableIn E (off := 258) (tgt := 291) hdc g1 g2 (by rw [hj]; rfl) (by decide) (ls_rule E hcu hsu  hh k)
      | 4, hj, _, hh => exact LW.tableIn E (off := 271) (tgt := 304) hdc g1 g2 (by rw [hj]; rfl) (by decide) (ls_force E hcu hsu h1 hh k)
      | 5, hj, _, hh => exact LW.tableIn E (off := 294) (tgt := 327) hdc g1 g2 (by rw [hj]; rfl) (by decide) (ls_person E hcu hsu h1 h2 hh k)
      | 6, hj, _, hh => exact LW.tableIn E (off := 327) (tgt := 360) hdc g1 g2 (by rw [hj]; rfl) (by decide) (ls_sum E hcu hsu h1 h2 hh k)
      | 7, hj, _, hh => exact LW.tableIn E (off := 360) (tgt := 393) hdc g1 g2 (by rw [hj]; rfl) (by decide) (ls_tie E hcu hsu h1 h2 hh k)
      | 8, hj, _, hh => exact LW.tableIn E (off := 393) (tgt := 426) hdc g1 g2 (by rw [hj]; rfl) (by decide) (ls_telling E hcu hsu h1 h2 hh k)
      | 9, hj, _, hh => exact LW.tableIn E (off := 426) (tgt := 459) hdc g1 g2 (by rw [hj]; rfl) (by decide) (ls_tell E hcu hsu h1 h2 h3 h4 hh k)
      | 10, hj, _, hh => exact LW.tableIn E (off := 479) (tgt := 512) hdc g1 g2 (by rw [hj]; rfl) (by decide) (ls_retell E hcu hsu h1 h2 h3 hh k)
      | 11, hj, _, hh => exact LW.tableIn E (off := 522) (tgt := 555) hdc g1 g2 (by rw [hj]; rfl) (by decide) (ls_look E hcu hsu  hh k)
      | 12, hj, _, hh => exact LW.tableIn E (off := 535) (tgt := 568) hdc g1 g2 (by rw [hj]; rfl) (by decide) (ls_give E hcu hsu h1 hh k)
      | 13, hj, _, hh => exact LW.tableIn E (off := 558) (tgt := 591) hdc g1 g2 (by rw [hj]; rfl) (by decide) (ls_save E hcu hsu  hh k)
      | 14, hj, _, hh => exact LW.tableIn E (off := 571) (tgt := 604) hdc g1 g2 (by rw [hj]; rfl) (by decide) (ls_sell E hcu hsu h1 h2 h3 hh k)
      | 15, hj, _, hh => exact LW.tableIn E (off := 614) (tgt := 647) hdc g1 g2 (by rw [hj]; rfl) (by decide) (ls_spend E hcu hsu h1 hh k)
      | 16, hj, _, hh => exact LW.tableIn E (off := 637) (tgt := 670) hdc g1 g2 (by rw [hj]; rfl) (by decide) (ls_keep E hcu hsu h1 hh k)
      | 17, hj, _, hh => exact LW.tableIn E (off := 676) (tgt := 709) hdc g1 g2 (by rw [hj]; rfl) (by decide) (ls_rest E hcu hsu  hh k)
      | 18, hj, _, hh => exact LW.tableIn E (off := 689) (tgt := 722) hdc g1 g2 (by rw [hj]; rfl) (by decide) (ls_undo E hcu hsu  hh k)
      | 19, hj, _, hh => exact LW.tableIn E (off := 702) (tgt := 735) hdc g1 g2 (by rw [hj]; rfl) (by decide) (ls_run E hcu hsu h1 h2 hh k)
      | 20, hj, _, hh => exact LW.tableIn E (off := 735) (tgt := 768) hdc g1 g2 (by rw [hj]; rfl) (by decide) (ls_lean E hcu hsu h1 hh k)
      | 21, hj, _, hh => exact LW.tableIn E (off := 758) (tgt := 791) hdc g1 g2 (by rw [hj]; rfl) (by decide) (ls_likeliest E hcu hsu h1 h2 hh k)
      | 22, hj, _, hh => exact LW.tableIn E (off := 791) (tgt := 824) hdc g1 g2 (by rw [hj]; rfl) (by decide) (ls_flatters E hcu hsu h1 h2 hh k)
      | 23, hj, _, hh => exact LW.tableIn E (off := 824) (tgt := 857) hdc g1 g2 (by rw [hj]; rfl) (by decide) (ls_ask E hcu hsu h1 h2 hh k)
      | 24, hj, _, hh => exact LW.tableIn E (off := 857) (tgt := 890) hdc g1 g2 (by rw [hj]; rfl) (by decide) (ls_chain E hcu hsu h1 h2 hh k)
      | 25, hj, _, hh => exact LW.tableIn E (off := 890) (tgt := 923) hdc g1 g2 (by rw [hj]; rfl) (by decide) (ls_slip E hcu hsu h1 h2 hh k)
      | 26, hj, _, hh => exact LW.tableIn E (off := 923) (tgt := 956) hdc g1 g2 (by rw [hj]; rfl) (by decide) (ls_wish E hcu hsu h1 h2 h3 h4 hh k)
      | 27, hj, _, hh => exact LW.tableIn E (off := 976) (tgt := 1009) hdc g1 g2 (by rw [hj]; rfl) (by decide) (ls_round E hcu hsu h1 h2 hh k)
      | 28, hj, _, hh => exact LW.tableIn E (off := 1009) (tgt := 1042) hdc g1 g2 (by rw [hj]; rfl) (by decide) (ls_view E hcu hsu h1 h2 hh k)
      | 29, hj, _, hh => exact LW.tableIn E (off := 1042) (tgt := 1075) hdc g1 g2 (by rw [hj]; rfl) (by decide) (ls_fits E hcu hsu h1 hh k)
      | 30, hj, _, hh => exact LW.tableIn E (off := 1065) (tgt := 1098) hdc g1 g2 (by rw [hj]; rfl) (by decide) (ls_views E hcu hsu h1 hh k)
      | 31, hj, _, hh => exact LW.tableIn E (off := 1088) (tgt := 1121) hdc g1 g2 (by rw [hj]; rfl) (by decide) (ls_seed E hcu hsu h1 hh k)
      | 32, hj, _, hh => exact LW.tableIn E (off := 1111) (tgt := 1144) hdc g1 g2 (by rw [hj]; rfl) (by decide) (ls_drawn E hcu hsu h1 h2 h3 h4 h5 hh k)
      | 33, hj, _, hh => exact LW.tableIn E (off := 1174) (tgt := 1207) hdc g1 g2 (by rw [hj]; rfl) (by decide) (ls_count E hcu hsu h1 hh k)
      | 34, hj, _, hh => exact LW.tableIn E (off := 1197) (tgt := 1230) hdc g1 g2 (by rw [hj]; rfl) (by decide) (ls_image E hcu hsu h1 hh k)
      | 35, hj, _, hh => exact LW.tableIn E (off := 1220) (tgt := 1253) hdc g1 g2 (by rw [hj]; rfl) (by decide) (ls_back E hcu hsu h1 hh k)
      | j + 36, _, hj, _ => omega
theorem law_sub (hL : L ≤ 3072) : (Int32.ofNat L - 6).toInt = (L : Int) - 6 := by
  have h1 : (Int32.ofNat L).toInt = (L : Int) := nI_toInt (n := L) (by omega)
  rw [Int32.toInt_sub, h1, show (6 : Int32).toInt = 6 by decide]
  rw [Int.bmod_eq_of_le (by omega) (by omega)]
theorem law_lt (hL : L ≤ 3072) {i : Nat} (hi : L < 6 * i + 6) (hj : 6 * i < 2 ^ 30) : Int32.ofNat L - 6 < nI (6 * i) := by
  rw [Int32.lt_iff_toInt_lt, law_sub hL, nI_toInt (by omega)]
  omega
theorem law_nlt (hL : L ≤ 3072) {i : Nat} (hi : 6 * i + 6 ≤ L) : ¬ Int32.ofNat L - 6 < nI (6 * i) := by
  rw [Int32.lt_iff_toInt_lt, law_sub hL, nI_toInt (by omega)]
  omega
theorem law_in {i k : Nat} {v : Int32} (hL : L ≤ 3072) (h : 6 * i + k < L) (hv : nI k = v) : vp_in (nI (6 * i) + v) L := by
  rw [← hv, nI_add]
  exact vp_in_nI h (by omega)
theorem law_out (E : LE p s m meth c b L xs as0) (hcu : cu ≤ 600000) (hsu : su ≤ 7302250) (hL : L ≤ 3072) {i : Nat} {h : aH} (hi : L < 6 * i + 6) (hj : 6 * i < 2 ^ 30) : LW p l e s m below meth c b D cA as0 cu su 18 [some (.ref kB), some (.ref 0), some (.ref 137), some (.int (nI (6 * i)))] [] 156 h := by
  refine LW.run E [(.iload_n 3, 0), (.aload_n 0, 0)] (pc' := 20) (ls' := [some (.ref kB), some (.ref 0), some (.ref 137), some (.int (nI (6 * i)))]) (st' := [.ref kB, .int (nI (6 * i))]) (by decide +kernel) rfl ?_
  refine LW.slen E (by decide +kernel) ?_
  refine LW.run E [(.bipush 6, 6), (.isub, 0)] (pc' := 24) (ls' := [some (.ref kB), some (.ref 0), some (.ref 137), some (.int (nI (6 * i)))]) (st' := [.int (Int32.ofNat L - 6), .int (nI (6 * i))]) (by decide +kernel) rfl ?_
  refine LW.icmp_gt E (off := 1258) (tgt := 1282) (by decide +kernel) (by decide) (fun _ => ?_) (fun q => absurd ?_ q)
  · refine LW.run E [(.iconst 1, 1)] (pc' := 1283) (ls' := [some (.ref kB), some (.ref 0), some (.ref 137), some (.int (nI (6 * i)))]) (st' := [.int 1]) (by decide +kernel) rfl ?_
    exact LW.ret E (by decide +kernel) hcu hsu
  · exact law_lt hL hi hj
theorem law_head (E : LE p s m meth c b L xs as0) (hL : L ≤ 3072) {i : Nat} {h : aH} (hi : 6 * i + 6 ≤ L) (k : LW p l e s m below meth c b D cA as0 cu su 33 [some (.ref kB), some (.ref 0), some (.ref 137), some (.int (nI (6 * i)))] [.int (xs (nI (6 * i)).toNatClampNeg &&& 63)] 156 h) : LW p l e s m below meth c b D cA as0 cu su 18 [some (.ref kB), some (.ref 0), some (.ref 137), some (.int (nI (6 * i)))] [] 156 h := by
  refine LW.run E [(.iload_n 3, 0), (.aload_n 0, 0)] (pc' := 20) (ls' := [some (.ref kB), some (.ref 0), some (.ref 137), some (.int (nI (6 * i)))]) (st' := [.ref kB, .int (nI (6 * i))]) (by decide +kernel) rfl ?_
  refine LW.slen E (by decide +kernel) ?_
  refine LW.run E [(.bipush 6, 6), (.isub, 0)] (pc' := 24) (ls' := [some (.ref kB), some (.ref 0), some (.ref 137), some (.int (nI (6 * i)))]) (st' := [.int (Int32.ofNat L - 6), .int (nI (6 * i))]) (by decide +kernel) rfl ?_
  refine LW.icmp_gt E (off := 1258) (tgt := 1282) (by decide +kernel) (by decide) (fun q => absurd q ?_) (fun _ => ?_)
  · exact law_nlt hL hi
  · refine LW.run E [(.aload_n 0, 0), (.iload_n 3, 0)] (pc' := 29) (ls' := [some (.ref kB), some (.ref 0), some (.ref 137), some (.int (nI (6 * i)))]) (st' := [.int (nI (6 * i)), .ref kB]) (by decide +kernel) rfl ?_
    refine LW.sld E (vp_in_nI (by omega) (by omega)) (by decide +kernel) ?_
    refine LW.run E [(.bipush 63, 63), (.iand, 0)] (pc' := 33) (ls' := [some (.ref kB), some (.ref 0), some (.ref 137), some (.int (nI (6 * i)))]) (st' := [.int (xs (nI (6 * i)).toNatClampNeg &&& 63)]) (by decide +kernel) rfl ?_
    exact k
theorem law_loop (E : LE p s m meth c b L xs as0) (hcu : cu ≤ 600000) (hsu : su ≤ 7302250) (hL : L ≤ 3072) {I : Nat → cT → mT → Prop} (hdf : ∀ k S T, I k S T → I (k + 1) S T) (hst : ∀ k S T, 6 * k + 6 ≤ L → I k S T → ∀ j, j ≤ 35 → ∀ a1 a2 a3 a4 a5, SStp (I (k + 1)) S T j a1 a2 a3 a4 a5) :
    ∀ (n i : Nat) (S : cT) (T : mT), I i S T → L < 6 * i + n → 6 * i ≤ L + 6 → LW p l e s m below meth c b D cA as0 cu su 18 [some (.ref kB), some (.ref 0), some (.ref 137), some (.int (nI (6 * i)))] [] 156 (hM (cC S) T) := by
  intro n
  induction n with
  | zero => 
    intro i S T hI hn hb6
    exact law_out E hcu hsu hL (by omega) (by omega)
  | succ n ih =>
    intro i S T hI hn hb6
    by_cases hlt : L < 6 * i + 6
    · exact law_out E hcu hsu hL hlt (by omega)
    · refine law_head E hL (by omega) ?_
      refine law_switch E hcu hsu (law_in (k := 1) hL (by omega) rfl) (law_in (k := 2) hL (by omega) rfl) (law_in (k := 3) hL (by omega) rfl) (law_in (k := 4) hL (by omega) rfl) (law_in (k := 5) hL (by omega) rfl) (I := I (i + 1)) (hdf i S T hI) (fun j hj => hst i S T (by omega) hI j hj _ _ _ _ _) (fun S' T' hI' => ?_)
      refine LW.run E [(.iinc 3 6, 6), (.goto (-1261), 0)] (pc' := 18) (ls' := [some (.ref kB), some (.ref 0), some (.ref 137), some (.int (nI (6 * i) + 6))]) (st' := []) (by decide +kernel) rfl ?_
      have e6 : nI (6 * i) + 6 = nI (6 * (i + 1)) := by rw [show 6 * (i + 1) = 6 * i + 6 by omega, ← nI_add]; rfl
      rw [e6]
      exact ih (i + 1) S' T' hI' (by omega) (by omega)
end LLOOP
