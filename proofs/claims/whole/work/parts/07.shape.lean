def shC : List fm_S := [.inl (8, [some 1, some 22, some 43, some 54, some 59, some 61, some 63, some 68, none]), .inl (6, [some 2, some 13, some 16, some 19]), .inl (3, [some 3, some 4, none, some 5, some 6, some 7, some 8, none, none, some 9, some 10, none, some 11, some 12]), .inr (0, 6), .inr (0, 6), .inr (0, 8), .inr (0, 8), .inr (0, 32), .inr (0, 8), .inr (0, 3), .inr (0, 3), .inr (1, 8), .inr (1, 5), .inl (4, [some 14, some 15, none]), .inr (0, 6), .inr (0, 6), .inl (4, [some 17, some 18, none]), .inr (0, 8), .inr (0, 8), .inl (4, [some 20, some 21, none]), .inr (0, 8), .inr (0, 8), .inl (6, [some 23, some 34, some 37, some 40]), .inl (3, [some 24, some 25, none, some 26, some 27, some 28, some 29, none, none, some 30, some 31, none, some 32, some 33]), .inr (0, 6), .inr (0, 6), .inr (0, 8), .inr (0, 8), .inr (0, 32), .inr (0, 8), .inr (0, 3), .inr (0, 3), .inr (1, 8), .inr (1, 5), .inl (4, [some 35, some 36, none]), .inr (0, 6), .inr (0, 6), .inl (4, [some 38, some 39, none]), .inr (0, 8), .inr (0, 8), .inl (4, [some 41, some 42, none]), .inr (0, 8), .inr (0, 8), .inl (3, [some 44, some 45, none, some 46, some 47, some 48, some 49, none, none, some 50, some 51, none, some 52, some 53]), .inr (0, 6), .inr (0, 6), .inr (0, 8), .inr (0, 8), .inr (0, 32), .inr (0, 8), .inr (0, 3), .inr (0, 3), .inr (1, 8), .inr (1, 5), .inl (1, [none, some 55, some 56, some 57, some 58]), .inr (1, 64), .inr (0, 64), .inr (0, 64), .inr (0, 64), .inl (2, [some 60, none]), .inr (0, 64), .inl (0, [some 62]), .inr (1, 64), .inl (5, [none, none, none, some 64, some 65, some 66, some 67]), .inr (0, 16), .inr (0, 16), .inr (0, 16), .inr (2, 100), .inr (4, 6), .inl (7, [none, none, some 70]), .inr (1, 60), .inl (7, [none, none, some 72]), .inr (1, 60), .inl (7, [none, none, some 74]), .inr (1, 60), .inl (7, [none, none, some 76]), .inr (1, 60), .inl (7, [none, none, some 78]), .inr (1, 60), .inl (7, [none, none, some 80]), .inr (1, 60)]
def shM : List fm_S := [.inl (9, [none, some 1, some 2, none, some 3, some 4, some 5, some 6, none, none, some 7, some 8, none, some 9, some 10, none, some 11, none, some 12, none, some 13, some 14, none, some 15, some 16, some 17, some 18, none, some 19, some 20, none, some 21, some 22, some 23, some 24]), .inr (0, 6), .inr (0, 6), .inr (0, 8), .inr (0, 8), .inr (0, 8), .inr (0, 32), .inr (0, 3), .inr (0, 3), .inr (0, 6), .inr (0, 6), .inr (0, 16), .inr (0, 8), .inr (0, 100), .inr (3, 8), .inr (1, 64), .inr (0, 64), .inr (0, 64), .inr (0, 64), .inr (0, 64), .inr (0, 20), .inr (0, 124), .inr (0, 6), .inr (0, 6), .inr (1, 360)]
def fm_Pl (sh : List fm_S) (k : Nat) : Prop := sh[k]? = some (.inl (3, [some (k + 1), some (k + 2), none, some (k + 3), some (k + 4), some (k + 5), some (k + 6), none, none, some (k + 7), some (k + 8), none, some (k + 9), some (k + 10)])) ∧ sh[k + 1]? = some (.inr (0, 6)) ∧ sh[k + 2]? = some (.inr (0, 6)) ∧ sh[k + 3]? = some (.inr (0, 8)) ∧ sh[k + 4]? = some (.inr (0, 8)) ∧ sh[k + 5]? = some (.inr (0, 32)) ∧ sh[k + 6]? = some (.inr (0, 8)) ∧ sh[k + 7]? = some (.inr (0, 3)) ∧ sh[k + 8]? = some (.inr (0, 3)) ∧ sh[k + 9]? = some (.inr (1, 8)) ∧ sh[k + 10]? = some (.inr (1, 5))
theorem fm_Pl.o {sh : List fm_S} {k : Nat} (h : fm_Pl sh k) : sh[k]? = some (.inl (3, [some (k + 1), some (k + 2), none, some (k + 3), some (k + 4), some (k + 5), some (k + 6), none, none, some (k + 7), some (k + 8), none, some (k + 9), some (k + 10)])) := h.1
theorem fm_Pl.a1 {sh : List fm_S} {k : Nat} (h : fm_Pl sh k) : sh[k + 1]? = some (.inr (0, 6)) := h.2.1
theorem fm_Pl.a2 {sh : List fm_S} {k : Nat} (h : fm_Pl sh k) : sh[k + 2]? = some (.inr (0, 6)) := h.2.2.1
theorem fm_Pl.a3 {sh : List fm_S} {k : Nat} (h : fm_Pl sh k) : sh[k + 3]? = some (.inr (0, 8)) := h.2.2.2.1
theorem fm_Pl.a4 {sh : List fm_S} {k : Nat} (h : fm_Pl sh k) : sh[k + 4]? = some (.inr (0, 8)) := h.2.2.2.2.1
theorem fm_Pl.a5 {sh : List fm_S} {k : Nat} (h : fm_Pl sh k) : sh[k + 5]? = some (.inr (0, 32)) := h.2.2.2.2.2.1
theorem fm_Pl.a6 {sh : List fm_S} {k : Nat} (h : fm_Pl sh k) : sh[k + 6]? = some (.inr (0, 8)) := h.2.2.2.2.2.2.1
theorem fm_Pl.a7 {sh : List fm_S} {k : Nat} (h : fm_Pl sh k) : sh[k + 7]? = some (.inr (0, 3)) := h.2.2.2.2.2.2.2.1
theorem fm_Pl.a8 {sh : List fm_S} {k : Nat} (h : fm_Pl sh k) : sh[k + 8]? = some (.inr (0, 3)) := h.2.2.2.2.2.2.2.2.1
theorem fm_Pl.a9 {sh : List fm_S} {k : Nat} (h : fm_Pl sh k) : sh[k + 9]? = some (.inr (1, 8)) := h.2.2.2.2.2.2.2.2.2.1
theorem fm_Pl.a10 {sh : List fm_S} {k : Nat} (h : fm_Pl sh k) : sh[k + 10]? = some (.inr (1, 5)) := h.2.2.2.2.2.2.2.2.2.2
def fm_Ro (sh : List fm_S) (k n : Nat) : Prop := sh[k]? = some (.inl (4, [some (k + 1), some (k + 2), none])) ∧ sh[k + 1]? = some (.inr (0, n)) ∧ sh[k + 2]? = some (.inr (0, n))
theorem fm_Ro.o {sh : List fm_S} {k n : Nat} (h : fm_Ro sh k n) : sh[k]? = some (.inl (4, [some (k + 1), some (k + 2), none])) := h.1
theorem fm_Ro.a1 {sh : List fm_S} {k n : Nat} (h : fm_Ro sh k n) : sh[k + 1]? = some (.inr (0, n)) := h.2.1
theorem fm_Ro.a2 {sh : List fm_S} {k n : Nat} (h : fm_Ro sh k n) : sh[k + 2]? = some (.inr (0, n)) := h.2.2
def fm_Tp (sh : List fm_S) (k : Nat) : Prop := sh[k]? = some (.inl (7, [none, none, some (k + 1)])) ∧ sh[k + 1]? = some (.inr (1, 60))
theorem fm_Tp.o {sh : List fm_S} {k : Nat} (h : fm_Tp sh k) : sh[k]? = some (.inl (7, [none, none, some (k + 1)])) := h.1
theorem fm_Tp.a1 {sh : List fm_S} {k : Nat} (h : fm_Tp sh k) : sh[k + 1]? = some (.inr (1, 60)) := h.2
theorem shC_Pl2 : fm_Pl shC 2 := ⟨rfl, rfl, rfl, rfl, rfl, rfl, rfl, rfl, rfl, rfl, rfl⟩
theorem shC_Pl23 : fm_Pl shC 23 := ⟨rfl, rfl, rfl, rfl, rfl, rfl, rfl, rfl, rfl, rfl, rfl⟩
theorem shC_Pl43 : fm_Pl shC 43 := ⟨rfl, rfl, rfl, rfl, rfl, rfl, rfl, rfl, rfl, rfl, rfl⟩
theorem shC_Ro13 : fm_Ro shC 13 6 := ⟨rfl, rfl, rfl⟩
theorem shC_Ro16 : fm_Ro shC 16 8 := ⟨rfl, rfl, rfl⟩
theorem shC_Ro19 : fm_Ro shC 19 8 := ⟨rfl, rfl, rfl⟩
theorem shC_Ro34 : fm_Ro shC 34 6 := ⟨rfl, rfl, rfl⟩
theorem shC_Ro37 : fm_Ro shC 37 8 := ⟨rfl, rfl, rfl⟩
theorem shC_Ro40 : fm_Ro shC 40 8 := ⟨rfl, rfl, rfl⟩
theorem shC_Tp (j : Nat) (h : j < 6) : fm_Tp shC (69 + 2 * j) := by
  rcases (show j = 0 ∨ j = 1 ∨ j = 2 ∨ j = 3 ∨ j = 4 ∨ j = 5 by omega) with rfl | rfl | rfl | rfl | rfl | rfl <;> exact ⟨rfl, rfl⟩
theorem fm_room {X : fm_X} {H h n : Nat} (hR : fm_R X = fm_rm H) (h1 : h + 1 ≤ H) (h2 : n ≤ 45) : h + 1 ≤ (fm_R X).frames ∧ 8 + (n + 11) + 64 * h ≤ (fm_R X).locals := by
  rw [hR]
  refine ⟨h1, ?_⟩
  show 8 + (n + 11) + 64 * h ≤ 64 * H
  omega
theorem fm_room1 {X : fm_X} {H : Nat} (hR : fm_R X = fm_rm H) (h1 : 1 ≤ H) : 1 ≤ (fm_R X).frames ∧ 21 ≤ (fm_R X).locals := by
  rw [hR]
  refine ⟨h1, ?_⟩
  show 21 ≤ 64 * H
  omega
theorem fm_nat {v : Int32} (h0 : ¬ v < 0) : ∃ a : Nat, a < 2 ^ 31 ∧ v = nI a := nI_of h0
