/-! ===== the plant as numbers: P 0 0 parts, 1 odds, 2 order, 3 0 gates, 4 kinds, 5 needs, 6 how many inputs, 7 inputs, 8 0 the top (0: the last gate; else one more), 9 0 causes, 10 their odds, 11 their bits; 12 0 seen, 13, 14 its rows; 15 0 events, 16, 17 its rows; 18 0 the book, 19 its rows ===== -/
abbrev fm_P : Type := Nat → Nat → Nat
def fm_PR (k : Nat) (P : fm_P) (M : fm_M) : Prop := M.1 k 2 = nI (P 0 0) ∧ (∀ j, j < 6 → M.1 (k + 1) j = nI (P 1 j)) ∧ (∀ j, j < 6 → M.1 (k + 2) j = nI (P 2 j)) ∧ M.1 k 7 = nI (P 3 0) ∧ (∀ j, j < 8 → M.1 (k + 3) j = nI (P 4 j)) ∧ (∀ j, j < 8 → M.1 (k + 4) j = nI (P 5 j)) ∧ (∀ j, j < 8 → M.1 (k + 6) j = nI (P 6 j)) ∧ (∀ j, j < 32 → M.1 (k + 5) j = nI (P 7 j)) ∧ M.1 k 8 = nI (P 8 0) - 1 ∧ M.1 k 11 = nI (P 9 0) ∧ (∀ j, j < 3 → M.1 (k + 7) j = nI (P 10 j)) ∧ (∀ j, j < 3 → M.1 (k + 8) j = nI (P 11 j))
theorem fm_PR.parts {k : Nat} {P : fm_P} {M : fm_M} (h : fm_PR k P M) : M.1 k 2 = nI (P 0 0) := h.1
theorem fm_PR.odds {k : Nat} {P : fm_P} {M : fm_M} (h : fm_PR k P M) : ∀ j, j < 6 → M.1 (k + 1) j = nI (P 1 j) := h.2.1
theorem fm_PR.order {k : Nat} {P : fm_P} {M : fm_M} (h : fm_PR k P M) : ∀ j, j < 6 → M.1 (k + 2) j = nI (P 2 j) := h.2.2.1
theorem fm_PR.gates {k : Nat} {P : fm_P} {M : fm_M} (h : fm_PR k P M) : M.1 k 7 = nI (P 3 0) := h.2.2.2.1
theorem fm_PR.kind {k : Nat} {P : fm_P} {M : fm_M} (h : fm_PR k P M) : ∀ j, j < 8 → M.1 (k + 3) j = nI (P 4 j) := h.2.2.2.2.1
theorem fm_PR.need {k : Nat} {P : fm_P} {M : fm_M} (h : fm_PR k P M) : ∀ j, j < 8 → M.1 (k + 4) j = nI (P 5 j) := h.2.2.2.2.2.1
theorem fm_PR.cnt {k : Nat} {P : fm_P} {M : fm_M} (h : fm_PR k P M) : ∀ j, j < 8 → M.1 (k + 6) j = nI (P 6 j) := h.2.2.2.2.2.2.1
theorem fm_PR.inp {k : Nat} {P : fm_P} {M : fm_M} (h : fm_PR k P M) : ∀ j, j < 32 → M.1 (k + 5) j = nI (P 7 j) := h.2.2.2.2.2.2.2.1
theorem fm_PR.top {k : Nat} {P : fm_P} {M : fm_M} (h : fm_PR k P M) : M.1 k 8 = nI (P 8 0) - 1 := h.2.2.2.2.2.2.2.2.1
theorem fm_PR.causes {k : Nat} {P : fm_P} {M : fm_M} (h : fm_PR k P M) : M.1 k 11 = nI (P 9 0) := h.2.2.2.2.2.2.2.2.2.1
theorem fm_PR.codds {k : Nat} {P : fm_P} {M : fm_M} (h : fm_PR k P M) : ∀ j, j < 3 → M.1 (k + 7) j = nI (P 10 j) := h.2.2.2.2.2.2.2.2.2.2.1
theorem fm_PR.cbits {k : Nat} {P : fm_P} {M : fm_M} (h : fm_PR k P M) : ∀ j, j < 3 → M.1 (k + 8) j = nI (P 11 j) := h.2.2.2.2.2.2.2.2.2.2.2
/-- it speaks of the object's ints and of eight arrays alone -/
theorem fm_PR.kept {k : Nat} {P : fm_P} {M M' : fm_M} (h : fm_PR k P M) (e : ∀ a, k ≤ a → a ≤ k + 8 → M'.1 a = M.1 a) : fm_PR k P M' := by
  unfold fm_PR
  rw [e k (by omega) (by omega), e (k + 1) (by omega) (by omega), e (k + 2) (by omega) (by omega), e (k + 3) (by omega) (by omega), e (k + 4) (by omega) (by omega), e (k + 5) (by omega) (by omega), e (k + 6) (by omega) (by omega), e (k + 7) (by omega) (by omega), e (k + 8) (by omega) (by omega)]
  exact h
def fm_fnd (f : Nat → Nat) (a : Nat) : Nat → Nat → Nat
  | 0, i => i
  | d + 1, i => if f i = a then i else fm_fnd f a d (i + 1)
/-- the first place, of six, that holds a -/
def fm_pos (f : Nat → Nat) (a : Nat) : Nat := fm_fnd f a 5 0
theorem fm_fnd_ge (f : Nat → Nat) (a : Nat) : ∀ d i, i ≤ fm_fnd f a d i := by
  intro d
  induction d with
  | zero => intro i; exact Nat.le_refl i
  | succ d ih =>
    intro i
    unfold fm_fnd
    split
    · exact Nat.le_refl i
    · have := ih (i + 1); omega
theorem fm_fnd_before (f : Nat → Nat) (a : Nat) : ∀ d i j, i ≤ j → j < fm_fnd f a d i → f j ≠ a := by
  intro d
  induction d with
  | zero => intro i j h1 h2; simp only [fm_fnd] at h2; omega
  | succ d ih =>
    intro i j h1 h2
    unfold fm_fnd at h2
    split at h2
    · omega
    · rename_i hne
      by_cases e : i = j
      · rw [← e]; exact hne
      · exact ih (i + 1) j (by omega) h2
theorem fm_pos_before (f : Nat → Nat) (a : Nat) {j : Nat} (h : j < fm_pos f a) : f j ≠ a := fm_fnd_before f a 5 0 j (Nat.zero_le j) h
theorem fm_fnd_at (f : Nat → Nat) (a : Nat) : ∀ d i j, i ≤ j → j ≤ i + d → f j = a → (∀ q, i ≤ q → q < j → f q ≠ a) → fm_fnd f a d i = j := by
  intro d
  induction d with
  | zero => intro i j h1 h2 _ _; simp only [fm_fnd]; omega
  | succ d ih =>
    intro i j h1 h2 h3 h4
    unfold fm_fnd
    by_cases e : i = j
    · rw [if_pos (by rw [e]; exact h3)]; exact e
    · rw [if_neg (h4 i (Nat.le_refl i) (by omega))]
      exact ih (i + 1) j (by omega) (by omega) h3 (fun q h5 h6 => h4 q (by omega) h6)
/-- order: each part stands at one place -/
def fm_ord (n : Nat) (f : Nat → Nat) : Prop := (∀ j, j < n → f j < n) ∧ (∀ i j, i < n → j < n → f i = f j → i = j) ∧ ∀ a, a < n → ∃ j, j < n ∧ f j = a
theorem fm_ord.pos {n : Nat} {f : Nat → Nat} (h : fm_ord n f) (hn : n ≤ 6) {a : Nat} (ha : a < n) : fm_pos f a < n ∧ f (fm_pos f a) = a := by
  obtain ⟨j, hj, e⟩ := h.2.2 a ha
  have : fm_pos f a = j := fm_fnd_at f a 5 0 j (Nat.zero_le j) (by omega) e (fun q _ h6 h7 => by
    have := h.2.1 q j (by omega) hj (h7.trans e.symm)
    omega)
  rw [this]
  exact ⟨hj, e⟩
/-- what always holds of the plant's numbers -/
def fm_wf (P : fm_P) : Prop := P 0 0 ≤ 6 ∧ P 3 0 ≤ 8 ∧ P 9 0 ≤ 3 ∧ P 8 0 ≤ P 3 0 ∧ (∀ j, P 1 j ≤ 100) ∧ (∀ g, P 4 g ≤ 2) ∧ (∀ g, P 5 g ≤ 5) ∧ (∀ g, P 6 g ≤ 4) ∧ (∀ g i, g < P 3 0 → i < P 6 g → P 7 (4 * g + i) < P 0 0 ∨ (10 ≤ P 7 (4 * g + i) ∧ P 7 (4 * g + i) < 10 + g)) ∧ fm_ord (P 0 0) (P 2) ∧ (∀ c, P 10 c ≤ 100) ∧ (∀ c, c < P 9 0 → P 11 c < 2 ^ P 0 0)
theorem fm_wf.p6 {P : fm_P} (h : fm_wf P) : P 0 0 ≤ 6 := h.1
theorem fm_wf.g8 {P : fm_P} (h : fm_wf P) : P 3 0 ≤ 8 := h.2.1
theorem fm_wf.c3 {P : fm_P} (h : fm_wf P) : P 9 0 ≤ 3 := h.2.2.1
theorem fm_wf.t8 {P : fm_P} (h : fm_wf P) : P 8 0 ≤ P 3 0 := h.2.2.2.1
theorem fm_wf.o100 {P : fm_P} (h : fm_wf P) : ∀ j, P 1 j ≤ 100 := h.2.2.2.2.1
theorem fm_wf.k2 {P : fm_P} (h : fm_wf P) : ∀ g, P 4 g ≤ 2 := h.2.2.2.2.2.1
theorem fm_wf.n5 {P : fm_P} (h : fm_wf P) : ∀ g, P 5 g ≤ 5 := h.2.2.2.2.2.2.1
theorem fm_wf.i4 {P : fm_P} (h : fm_wf P) : ∀ g, P 6 g ≤ 4 := h.2.2.2.2.2.2.2.1
theorem fm_wf.inp {P : fm_P} (h : fm_wf P) : ∀ g i, g < P 3 0 → i < P 6 g → P 7 (4 * g + i) < P 0 0 ∨ (10 ≤ P 7 (4 * g + i) ∧ P 7 (4 * g + i) < 10 + g) := h.2.2.2.2.2.2.2.2.1
theorem fm_wf.ord {P : fm_P} (h : fm_wf P) : fm_ord (P 0 0) (P 2) := h.2.2.2.2.2.2.2.2.2.1
theorem fm_wf.co {P : fm_P} (h : fm_wf P) : ∀ c, P 10 c ≤ 100 := h.2.2.2.2.2.2.2.2.2.2.1
theorem fm_wf.cb {P : fm_P} (h : fm_wf P) : ∀ c, c < P 9 0 → P 11 c < 2 ^ P 0 0 := h.2.2.2.2.2.2.2.2.2.2.2
/-- a row whose item at a comes to b, all others keep their order -/
def fm_mv {α : Type} (f : Nat → α) (a b : Nat) : Nat → α := fun j => if j = b then f a else if a ≤ j ∧ j < b then f (j + 1) else if b < j ∧ j ≤ a then f (j - 1) else f j
/-- how many of the first n inputs fail -/
def fm_cnt (q : Nat → Bool) : Nat → Nat
  | 0 => 0
  | n + 1 => fm_cnt q n + (if q n then 1 else 0)
theorem fm_cnt_le (q : Nat → Bool) : ∀ n, fm_cnt q n ≤ n := by
  intro n
  induction n with
  | zero => exact Nat.le_refl 0
  | succ n ih =>
    unfold fm_cnt
    split <;> omega
/-- an input fails: a part of the set s, or a gate that F tells of -/
def fm_in1 (F : Nat → Bool) (s x : Nat) : Bool := if 10 ≤ x then F (x - 10) else s.testBit x
/-- a gate fails, so many of its inputs failing -/
def fm_by (P : fm_P) (g many : Nat) : Bool := if P 4 g = 0 then decide (many = P 6 g) else if P 4 g = 1 then decide (0 < many) else decide (P 5 g ≤ many)
/-- which gates fail, the first n of them looked at, if just the parts of s do -/
def fm_dn (P : fm_P) (s : Nat) : Nat → Nat → Bool
  | 0 => fun _ => false
  | n + 1 => fun g => if g = n then fm_by P n (fm_cnt (fun i => fm_in1 (fm_dn P s n) s (P 7 (4 * n + i))) (P 6 n)) else fm_dn P s n g
/-- a gate fails by the set s -/
def fm_down (P : fm_P) (g s : Nat) : Bool := fm_dn P s (g + 1) g
theorem fm_dn_eq (P : fm_P) (s : Nat) : ∀ n g, g < n → fm_dn P s n g = fm_down P g s := by
  intro n
  induction n with
  | zero => intro g h; omega
  | succ n ih =>
    intro g h
    by_cases e : g = n
    · subst e; rfl
    · have h2 : fm_dn P s (n + 1) g = fm_dn P s n g := by
        show (if g = n then _ else _) = _
        rw [if_neg e]
      rw [h2]
      exact ih g (by omega)
theorem fm_cnt_congr {q q' : Nat → Bool} : ∀ n, (∀ i, i < n → q i = q' i) → fm_cnt q n = fm_cnt q' n := by
  intro n
  induction n with
  | zero => intro _; rfl
  | succ n ih =>
    intro h
    unfold fm_cnt
    rw [ih (fun i hi => h i (by omega)), h n (by omega)]
theorem fm_down_eq {P : fm_P} (hw : fm_wf P) {g : Nat} (hg : g < P 3 0) (s : Nat) : fm_down P g s = fm_by P g (fm_cnt (fun i => fm_in1 (fun q => fm_down P q s) s (P 7 (4 * g + i))) (P 6 g)) := by
  have h1 : fm_down P g s = fm_by P g (fm_cnt (fun i => fm_in1 (fm_dn P s g) s (P 7 (4 * g + i))) (P 6 g)) := by
    show (if g = g then _ else _) = _
    rw [if_pos rfl]
  rw [h1]
  congr 1
  apply fm_cnt_congr
  intro i hi
  unfold fm_in1
  rcases hw.inp g i hg hi with h | ⟨h, h2⟩
  · have := hw.p6
    rw [if_neg (by omega), if_neg (by omega)]
  · rw [if_pos h, if_pos h]
    exact fm_dn_eq P s g _ (by omega)
