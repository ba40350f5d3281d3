/-! ===== signs on a tape: B the bytes, n how many ===== -/
def RUN (g : Int → Prop) (B : Nat → Int) (a e : Nat) : Prop := a ≤ e ∧ (∀ i, a ≤ i → i < e → g (B i)) ∧ ¬ g (B e)
abbrev Dg (v : Int) : Prop := 48 ≤ v ∧ v ≤ 57
abbrev Lt (v : Int) : Prop := 97 ≤ v ∧ v ≤ 122
abbrev Bl (v : Int) : Prop := v = 32
theorem RUN_uniq {g : Int → Prop} {B : Nat → Int} {a e e' : Nat} (h : RUN g B a e) (h' : RUN g B a e') : e = e' := by
  obtain ⟨h1, h2, h3⟩ := h
  obtain ⟨k1, k2, k3⟩ := h'
  by_cases x : e < e'
  · exact absurd (k2 e h1 x) h3
  · by_cases y : e' < e
    · exact absurd (h2 e' k1 y) k3
    · omega
theorem RUN_le {g : Int → Prop} {B : Nat → Int} {a e n : Nat} (h : RUN g B a e) (hn : ∀ k, n ≤ k → B k = 0) (h0 : ¬ g 0) (ha : a ≤ n) : e ≤ n := by
  by_cases x : n < e
  · have := h.2.1 n ha x
    rw [hn n (Nat.le_refl n)] at this
    exact absurd this h0
  · omega
def dv (B : Nat → Int) (q : Nat) : Nat → Int
  | 0 => 0
  | m + 1 => dv B q m * 10 + B (q + m) - 48
theorem dv_bd {B : Nat → Int} {q : Nat} : ∀ i : Nat, (∀ j, j < i → Dg (B (q + j))) → 0 ≤ dv B q i ∧ dv B q i < 10 ^ i := by
  intro i
  induction i with
  | zero => intro _; exact ⟨Int.le_refl 0, show (0 : Int) < 10 ^ 0 by decide⟩
  | succ i ih =>
    intro h
    have a := ih (fun j hj => h j (by omega))
    have b := h i (by omega)
    rw [Int.pow_succ]
    show 0 ≤ dv B q i * 10 + B (q + i) - 48 ∧ dv B q i * 10 + B (q + i) - 48 < 10 ^ i * 10
    omega
def wsL : List Nat := [1, 8, 15, 18, 23, 28, 32, 38, 44, 50, 57, 62, 68, 73, 79, 82, 85, 89, 93]
def wnL : List Nat := [6, 6, 2, 4, 4, 3, 5, 5, 5, 6, 4, 5, 4, 5, 2, 2, 3, 3]
def ws (i : Nat) : Nat := wsL.getD i 0
def wn (i : Nat) : Nat := wnL.getD i 0
def wch (i j : Nat) : Int := (wby.getD (ws i + j) 0).toInt
def MT (B : Nat → Int) (q e i : Nat) : Prop := e = q + wn i ∧ ∀ j, j < wn i → B (q + j) = wch i j
theorem w_len (i : Nat) (h : i < 18) : 1 ≤ wn i ∧ wn i ≤ 6 := by
  have : ∀ i : Fin 18, 1 ≤ wn i.1 ∧ wn i.1 ≤ 6 := by decide +kernel
  exact this ⟨i, h⟩
theorem w_let (i j : Nat) (h : i < 18) (hj : j < wn i) : Lt (wch i j) := by
  have : ∀ i : Fin 18, ∀ j : Fin 6, j.1 < wn i.1 → Lt (wch i.1 j.1) := by decide +kernel
  have l := w_len i h
  exact this ⟨i, h⟩ ⟨j, by omega⟩ hj
theorem w_dis (i j : Nat) (hi : i < 18) (hj : j < 18) (hl : wn i = wn j) (hc : ∀ k, k < wn i → wch i k = wch j k) : i = j := by
  have all : ∀ i j : Fin 18, wn i.1 = wn j.1 → (∀ k : Fin 6, k.1 < wn i.1 → wch i.1 k.1 = wch j.1 k.1) → i = j := by decide +kernel
  exact congrArg Fin.val (all ⟨i, hi⟩ ⟨j, hj⟩ hl (fun k hk => hc k.1 hk))
theorem w_end (w i : Nat) (hw : w < 18) (h1 : ws w ≤ i) (h2 : i ≤ ws w + wn w) : ((wby.getD i 0) = 32 ↔ i = ws w + wn w) ∧ i < 93 := by
  have all : ∀ w : Fin 18, ∀ j : Fin 7, j.1 ≤ wn w.1 → (((wby.getD (ws w.1 + j.1) 0) = 32 ↔ j.1 = wn w.1) ∧ ws w.1 + j.1 < 93) := by decide +kernel
  have l := w_len w hw
  have z := all ⟨w, hw⟩ ⟨i - ws w, by omega⟩ (by show i - ws w ≤ wn w; omega)
  have e : ws w + (i - ws w) = i := by omega
  have z' : ((wby.getD (ws w + (i - ws w)) 0) = 32 ↔ (i - ws w) = wn w) ∧ ws w + (i - ws w) < 93 := z
  rw [e] at z'
  exact ⟨z'.1.trans (by omega), z'.2⟩
theorem w_next (w : Nat) (hw : w < 18) : ws (w + 1) = ws w + wn w + 1 := by
  have all : ∀ w : Fin 18, ws (w.1 + 1) = ws w.1 + wn w.1 + 1 := by decide +kernel
  exact all ⟨w, hw⟩
theorem MT_uniq {B : Nat → Int} {q e i j : Nat} (hi : i < 18) (hj : j < 18) (h : MT B q e i) (h' : MT B q e j) : i = j := by
  have l : wn i = wn j := by have := h.1; have := h'.1; omega
  exact w_dis i j hi hj l (fun k hk => by rw [← h.2 k hk, ← h'.2 k (by omega)])
def WD (B : Nat → Int) (q e : Nat) (k : Int) : Prop := (∃ i : Nat, i < 18 ∧ k = 300 + (i : Int) ∧ MT B q e i) ∨ (k = 259 ∧ ∀ i : Nat, i < 18 → ¬ MT B q e i)
theorem WD_iff {B : Nat → Int} {q e : Nat} {k : Int} (h : WD B q e k) {i : Nat} (hi : i < 18) : k = 300 + (i : Int) ↔ MT B q e i := by
  constructor
  · intro z
    rcases h with ⟨j, _, e1, m⟩ | ⟨e1, _⟩
    · have : i = j := by omega
      rw [this]
      exact m
    · omega
  · intro z
    rcases h with ⟨j, hj, e1, m⟩ | ⟨_, m⟩
    · have := MT_uniq hi hj z m
      omega
    · exact absurd z (m i hi)
def TKN (B : Nat → Int) (n q : Nat) (k v : Int) (e : Nat) : Prop := q < n ∧ B q ≠ 32 ∧ ((Dg (B q) ∧ RUN Dg B q e ∧ k = 258 ∧ v = (if 5 < e - q then -1 else dv B q (e - q))) ∨ (Lt (B q) ∧ RUN Lt B q e ∧ WD B q e k ∧ v = 0) ∨ (¬ Dg (B q) ∧ ¬ Lt (B q) ∧ v = 0 ∧ (((B q = 60 ∨ B q = 62) ∧ B (q + 1) = 61 ∧ k = (if B q = 60 then 256 else 257) ∧ e = q + 2) ∨ (¬ ((B q = 60 ∨ B q = 62) ∧ B (q + 1) = 61) ∧ k = B q ∧ e = q + 1))))
/-- bytes: n of them, and nothing behind -/
def BY (B : Nat → Int) (n : Nat) : Prop := n ≤ 400 ∧ (∀ k, 0 ≤ B k ∧ B k ≤ 255) ∧ ∀ k, n ≤ k → B k = 0
theorem TKN.gt {B : Nat → Int} {n q e : Nat} {k v : Int} (hB : BY B n) (h : TKN B n q k v e) : q < e ∧ e ≤ n := by
  obtain ⟨h1, h2, h3⟩ := h
  rcases h3 with ⟨a, r, _, _⟩ | ⟨a, r, _, _⟩ | ⟨_, _, _, ⟨_, b, _, rfl⟩ | ⟨_, _, rfl⟩⟩
  · refine ⟨?_, RUN_le r hB.2.2 (by decide) (by omega)⟩
    have := r.1
    by_cases z : q = e
    · rw [z] at a
      exact absurd a r.2.2
    · omega
  · refine ⟨?_, RUN_le r hB.2.2 (by decide) (by omega)⟩
    have := r.1
    by_cases z : q = e
    · rw [z] at a
      exact absurd a r.2.2
    · omega
  · refine ⟨by omega, ?_⟩
    by_cases z : n ≤ q + 1
    · rw [hB.2.2 _ z] at b
      omega
    · omega
  · omega
/-- a row of signs K is what is on the tape: E where each is sought from, po where it is -/
def STR (B : Nat → Int) (n : Nat) (K : KS) (m : Nat) (E po : Nat → Nat) : Prop := m ≤ n ∧ E 0 = 0 ∧ (∀ c, c < m → RUN Bl B (E c) (po c) ∧ TKN B n (po c) (K.1 c) (K.2.1 c) (E (c + 1))) ∧ RUN Bl B (E m) n ∧ po m = n ∧ K.1 m = 260 ∧ ∀ c, c ≤ m → K.2.2 c = (po c : Int)
