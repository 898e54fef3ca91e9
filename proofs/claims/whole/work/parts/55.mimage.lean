/-! ===== the reference: image, undo ===== -/
def fm_im (M : fm_M) (c1 c2 c3 c4 c5 : Nat) (M1 : fm_M) : Prop := (∀ a, a ≠ 0 → a ≠ 21 → M1.1 a = M.1 a) ∧ (∀ j, j ≠ 30 → M1.1 0 j = M.1 0 j) ∧ M1.1 0 30 = nI 1 ∧ M1.2 = M.2 ∧ (∀ p, p < c1 → M1.1 21 p = M.1 1 p ∧ M1.1 21 (6 + p) = M.1 2 p ∧ M1.1 21 (12 + p) = M.1 9 p ∧ M1.1 21 (18 + p) = M.1 10 p) ∧ (∀ p, p < c2 → M1.1 21 (24 + p) = M.1 3 p ∧ M1.1 21 (32 + p) = M.1 4 p ∧ M1.1 21 (40 + p) = M.1 5 p ∧ M1.1 21 (48 + p) = M.1 12 p) ∧ (∀ p, p < c3 → M1.1 21 (56 + p) = M.1 6 p) ∧ (∀ p, p < c4 → M1.1 21 (88 + p) = M.1 11 p) ∧ (∀ p, p < c5 → M1.1 21 (104 + p) = M.1 7 p ∧ M1.1 21 (107 + p) = M.1 8 p)
def fm_un (M : fm_M) (c1 c2 c3 c4 c5 : Nat) (M1 : fm_M) : Prop := (∀ a, 13 ≤ a → M1.1 a = M.1 a) ∧ M1.1 0 = M.1 0 ∧ M1.2 = M.2 ∧ (∀ p, p < c1 → M1.1 1 p = M.1 21 p ∧ M1.1 2 p = M.1 21 (6 + p) ∧ M1.1 9 p = M.1 21 (12 + p) ∧ M1.1 10 p = M.1 21 (18 + p)) ∧ (∀ p, p < c2 → M1.1 3 p = M.1 21 (24 + p) ∧ M1.1 4 p = M.1 21 (32 + p) ∧ M1.1 5 p = M.1 21 (40 + p) ∧ M1.1 12 p = M.1 21 (48 + p)) ∧ (∀ p, p < c3 → M1.1 6 p = M.1 21 (56 + p)) ∧ (∀ p, p < c4 → M1.1 11 p = M.1 21 (88 + p)) ∧ (∀ p, p < c5 → M1.1 7 p = M.1 21 (104 + p) ∧ M1.1 8 p = M.1 21 (107 + p))
theorem fm_im.s1 {M M1 : fm_M} {c1 c2 c3 c4 c5 : Nat} (h : fm_im M c1 c2 c3 c4 c5 M1) (h1 : c1 < 6) (h2 : c2 ≤ 8) (h3 : c3 ≤ 32) (h4 : c4 ≤ 16) (h5 : c5 ≤ 3) : fm_im M (c1 + 1) c2 c3 c4 c5 (fm_pi (fm_pi (fm_pi (fm_pi M1 21 (c1) (M.1 1 c1)) 21 (6 + c1) (M.1 2 c1)) 21 (12 + c1) (M.1 9 c1)) 21 (18 + c1) (M.1 10 c1)) := by
  obtain ⟨a1, a2, a3, a4, g1, g2, g3, g4, g5⟩ := h
  have hne : ∀ x, x ≠ c1 → x ≠ 6 + c1 → x ≠ 12 + c1 → x ≠ 18 + c1 → (fm_pi (fm_pi (fm_pi (fm_pi M1 21 (c1) (M.1 1 c1)) 21 (6 + c1) (M.1 2 c1)) 21 (12 + c1) (M.1 9 c1)) 21 (18 + c1) (M.1 10 c1)).1 21 x = M1.1 21 x := by
    intro x n0 n1 n2 n3
    simp [fm_u_at, n0, n1, n2, n3]
  have e0 : (fm_pi (fm_pi (fm_pi (fm_pi M1 21 (c1) (M.1 1 c1)) 21 (6 + c1) (M.1 2 c1)) 21 (12 + c1) (M.1 9 c1)) 21 (18 + c1) (M.1 10 c1)).1 21 (c1) = M.1 1 c1 := by simp [fm_u_at, show ¬ c1 = 6 + c1 by omega, show ¬ c1 = 12 + c1 by omega, show ¬ c1 = 18 + c1 by omega]
  have e1 : (fm_pi (fm_pi (fm_pi (fm_pi M1 21 (c1) (M.1 1 c1)) 21 (6 + c1) (M.1 2 c1)) 21 (12 + c1) (M.1 9 c1)) 21 (18 + c1) (M.1 10 c1)).1 21 (6 + c1) = M.1 2 c1 := by simp [fm_u_at, show ¬ 6 + c1 = 12 + c1 by omega, show ¬ 6 + c1 = 18 + c1 by omega]
  have e2 : (fm_pi (fm_pi (fm_pi (fm_pi M1 21 (c1) (M.1 1 c1)) 21 (6 + c1) (M.1 2 c1)) 21 (12 + c1) (M.1 9 c1)) 21 (18 + c1) (M.1 10 c1)).1 21 (12 + c1) = M.1 9 c1 := by simp [fm_u_at, show ¬ 12 + c1 = 18 + c1 by omega]
  have e3 : (fm_pi (fm_pi (fm_pi (fm_pi M1 21 (c1) (M.1 1 c1)) 21 (6 + c1) (M.1 2 c1)) 21 (12 + c1) (M.1 9 c1)) 21 (18 + c1) (M.1 10 c1)).1 21 (18 + c1) = M.1 10 c1 := by simp [fm_u_at]
  refine ⟨fun b hb hb2 => ?_, fun j hj => ?_, ?_, a4, fun p hp => ?_, fun p hp => ?_, fun p hp => ?_, fun p hp => ?_, fun p hp => ?_⟩
  · simp [fm_u, hb2]; exact a1 b hb hb2
  · simpa [fm_u] using a2 j hj
  · simpa [fm_u] using a3
  · by_cases e : p = c1
    · subst e; exact ⟨e0, e1, e2, e3⟩
    · have q := g1 p (by omega)
      refine ⟨?_, ?_, ?_, ?_⟩
      · rw [hne _ (by omega) (by omega) (by omega) (by omega)]; exact q.1
      · rw [hne _ (by omega) (by omega) (by omega) (by omega)]; exact q.2.1
      · rw [hne _ (by omega) (by omega) (by omega) (by omega)]; exact q.2.2.1
      · rw [hne _ (by omega) (by omega) (by omega) (by omega)]; exact q.2.2.2
  · have q := g2 p hp
    refine ⟨?_, ?_, ?_, ?_⟩
    · rw [hne _ (by omega) (by omega) (by omega) (by omega)]; exact q.1
    · rw [hne _ (by omega) (by omega) (by omega) (by omega)]; exact q.2.1
    · rw [hne _ (by omega) (by omega) (by omega) (by omega)]; exact q.2.2.1
    · rw [hne _ (by omega) (by omega) (by omega) (by omega)]; exact q.2.2.2
  · rw [hne _ (by omega) (by omega) (by omega) (by omega)]; exact g3 p hp
  · rw [hne _ (by omega) (by omega) (by omega) (by omega)]; exact g4 p hp
  · have q := g5 p hp
    refine ⟨?_, ?_⟩
    · rw [hne _ (by omega) (by omega) (by omega) (by omega)]; exact q.1
    · rw [hne _ (by omega) (by omega) (by omega) (by omega)]; exact q.2
theorem fm_un.s1 {M M1 : fm_M} {c1 c2 c3 c4 c5 : Nat} (h : fm_un M c1 c2 c3 c4 c5 M1) : fm_un M (c1 + 1) c2 c3 c4 c5 (fm_pi (fm_pi (fm_pi (fm_pi M1 1 c1 (M.1 21 (c1))) 2 c1 (M.1 21 (6 + c1))) 9 c1 (M.1 21 (12 + c1))) 10 c1 (M.1 21 (18 + c1))) := by
  obtain ⟨a1, a2, a4, g1, g2, g3, g4, g5⟩ := h
  refine ⟨fun b hb => ?_, ?_, a4, fun p hp => ?_, fun p hp => ?_, fun p hp => ?_, fun p hp => ?_, fun p hp => ?_⟩
  · simp [fm_u, show ¬ b = 1 by omega, show ¬ b = 2 by omega, show ¬ b = 9 by omega, show ¬ b = 10 by omega]; exact a1 b hb
  · exact a2
  · by_cases e : p = c1
    · simp [fm_u_at, e]
    · simpa [fm_u_at, e] using g1 p (by omega)
  · simpa [fm_u_at] using g2 p hp
  · simpa [fm_u_at] using g3 p hp
  · simpa [fm_u_at] using g4 p hp
  · simpa [fm_u_at] using g5 p hp
theorem fm_im.s2 {M M1 : fm_M} {c1 c2 c3 c4 c5 : Nat} (h : fm_im M c1 c2 c3 c4 c5 M1) (h1 : c1 ≤ 6) (h2 : c2 < 8) (h3 : c3 ≤ 32) (h4 : c4 ≤ 16) (h5 : c5 ≤ 3) : fm_im M c1 (c2 + 1) c3 c4 c5 (fm_pi (fm_pi (fm_pi (fm_pi M1 21 (24 + c2) (M.1 3 c2)) 21 (32 + c2) (M.1 4 c2)) 21 (40 + c2) (M.1 5 c2)) 21 (48 + c2) (M.1 12 c2)) := by
  obtain ⟨a1, a2, a3, a4, g1, g2, g3, g4, g5⟩ := h
  have hne : ∀ x, x ≠ 24 + c2 → x ≠ 32 + c2 → x ≠ 40 + c2 → x ≠ 48 + c2 → (fm_pi (fm_pi (fm_pi (fm_pi M1 21 (24 + c2) (M.1 3 c2)) 21 (32 + c2) (M.1 4 c2)) 21 (40 + c2) (M.1 5 c2)) 21 (48 + c2) (M.1 12 c2)).1 21 x = M1.1 21 x := by
    intro x n0 n1 n2 n3
    simp [fm_u_at, n0, n1, n2, n3]
  have e0 : (fm_pi (fm_pi (fm_pi (fm_pi M1 21 (24 + c2) (M.1 3 c2)) 21 (32 + c2) (M.1 4 c2)) 21 (40 + c2) (M.1 5 c2)) 21 (48 + c2) (M.1 12 c2)).1 21 (24 + c2) = M.1 3 c2 := by simp [fm_u_at, show ¬ 24 + c2 = 32 + c2 by omega, show ¬ 24 + c2 = 40 + c2 by omega, show ¬ 24 + c2 = 48 + c2 by omega]
  have e1 : (fm_pi (fm_pi (fm_pi (fm_pi M1 21 (24 + c2) (M.1 3 c2)) 21 (32 + c2) (M.1 4 c2)) 21 (40 + c2) (M.1 5 c2)) 21 (48 + c2) (M.1 12 c2)).1 21 (32 + c2) = M.1 4 c2 := by simp [fm_u_at, show ¬ 32 + c2 = 40 + c2 by omega, show ¬ 32 + c2 = 48 + c2 by omega]
  have e2 : (fm_pi (fm_pi (fm_pi (fm_pi M1 21 (24 + c2) (M.1 3 c2)) 21 (32 + c2) (M.1 4 c2)) 21 (40 + c2) (M.1 5 c2)) 21 (48 + c2) (M.1 12 c2)).1 21 (40 + c2) = M.1 5 c2 := by simp [fm_u_at, show ¬ 40 + c2 = 48 + c2 by omega]
  have e3 : (fm_pi (fm_pi (fm_pi (fm_pi M1 21 (24 + c2) (M.1 3 c2)) 21 (32 + c2) (M.1 4 c2)) 21 (40 + c2) (M.1 5 c2)) 21 (48 + c2) (M.1 12 c2)).1 21 (48 + c2) = M.1 12 c2 := by simp [fm_u_at]
  refine ⟨fun b hb hb2 => ?_, fun j hj => ?_, ?_, a4, fun p hp => ?_, fun p hp => ?_, fun p hp => ?_, fun p hp => ?_, fun p hp => ?_⟩
  · simp [fm_u, hb2]; exact a1 b hb hb2
  · simpa [fm_u] using a2 j hj
  · simpa [fm_u] using a3
  · have q := g1 p hp
    refine ⟨?_, ?_, ?_, ?_⟩
    · rw [hne _ (by omega) (by omega) (by omega) (by omega)]; exact q.1
    · rw [hne _ (by omega) (by omega) (by omega) (by omega)]; exact q.2.1
    · rw [hne _ (by omega) (by omega) (by omega) (by omega)]; exact q.2.2.1
    · rw [hne _ (by omega) (by omega) (by omega) (by omega)]; exact q.2.2.2
  · by_cases e : p = c2
    · subst e; exact ⟨e0, e1, e2, e3⟩
    · have q := g2 p (by omega)
      refine ⟨?_, ?_, ?_, ?_⟩
      · rw [hne _ (by omega) (by omega) (by omega) (by omega)]; exact q.1
      · rw [hne _ (by omega) (by omega) (by omega) (by omega)]; exact q.2.1
      · rw [hne _ (by omega) (by omega) (by omega) (by omega)]; exact q.2.2.1
      · rw [hne _ (by omega) (by omega) (by omega) (by omega)]; exact q.2.2.2
  · rw [hne _ (by omega) (by omega) (by omega) (by omega)]; exact g3 p hp
  · rw [hne _ (by omega) (by omega) (by omega) (by omega)]; exact g4 p hp
  · have q := g5 p hp
    refine ⟨?_, ?_⟩
    · rw [hne _ (by omega) (by omega) (by omega) (by omega)]; exact q.1
    · rw [hne _ (by omega) (by omega) (by omega) (by omega)]; exact q.2
theorem fm_un.s2 {M M1 : fm_M} {c1 c2 c3 c4 c5 : Nat} (h : fm_un M c1 c2 c3 c4 c5 M1) : fm_un M c1 (c2 + 1) c3 c4 c5 (fm_pi (fm_pi (fm_pi (fm_pi M1 3 c2 (M.1 21 (24 + c2))) 4 c2 (M.1 21 (32 + c2))) 5 c2 (M.1 21 (40 + c2))) 12 c2 (M.1 21 (48 + c2))) := by
  obtain ⟨a1, a2, a4, g1, g2, g3, g4, g5⟩ := h
  refine ⟨fun b hb => ?_, ?_, a4, fun p hp => ?_, fun p hp => ?_, fun p hp => ?_, fun p hp => ?_, fun p hp => ?_⟩
  · simp [fm_u, show ¬ b = 3 by omega, show ¬ b = 4 by omega, show ¬ b = 5 by omega, show ¬ b = 12 by omega]; exact a1 b hb
  · exact a2
  · simpa [fm_u_at] using g1 p hp
  · by_cases e : p = c2
    · simp [fm_u_at, e]
    · simpa [fm_u_at, e] using g2 p (by omega)
  · simpa [fm_u_at] using g3 p hp
  · simpa [fm_u_at] using g4 p hp
  · simpa [fm_u_at] using g5 p hp
theorem fm_im.s3 {M M1 : fm_M} {c1 c2 c3 c4 c5 : Nat} (h : fm_im M c1 c2 c3 c4 c5 M1) (h1 : c1 ≤ 6) (h2 : c2 ≤ 8) (h3 : c3 < 32) (h4 : c4 ≤ 16) (h5 : c5 ≤ 3) : fm_im M c1 c2 (c3 + 1) c4 c5 (fm_pi M1 21 (56 + c3) (M.1 6 c3)) := by
  obtain ⟨a1, a2, a3, a4, g1, g2, g3, g4, g5⟩ := h
  have hne : ∀ x, x ≠ 56 + c3 → (fm_pi M1 21 (56 + c3) (M.1 6 c3)).1 21 x = M1.1 21 x := by
    intro x n0
    simp [fm_u_at, n0]
  have e0 : (fm_pi M1 21 (56 + c3) (M.1 6 c3)).1 21 (56 + c3) = M.1 6 c3 := by simp [fm_u_at]
  refine ⟨fun b hb hb2 => ?_, fun j hj => ?_, ?_, a4, fun p hp => ?_, fun p hp => ?_, fun p hp => ?_, fun p hp => ?_, fun p hp => ?_⟩
  · simp [fm_u, hb2]; exact a1 b hb hb2
  · simpa [fm_u] using a2 j hj
  · simpa [fm_u] using a3
  · have q := g1 p hp
    refine ⟨?_, ?_, ?_, ?_⟩
    · rw [hne _ (by omega)]; exact q.1
    · rw [hne _ (by omega)]; exact q.2.1
    · rw [hne _ (by omega)]; exact q.2.2.1
    · rw [hne _ (by omega)]; exact q.2.2.2
  · have q := g2 p hp
    refine ⟨?_, ?_, ?_, ?_⟩
    · rw [hne _ (by omega)]; exact q.1
    · rw [hne _ (by omega)]; exact q.2.1
    · rw [hne _ (by omega)]; exact q.2.2.1
    · rw [hne _ (by omega)]; exact q.2.2.2
  · by_cases e : p = c3
    · subst e; exact e0
    · rw [hne _ (by omega)]; exact g3 p (by omega)
  · rw [hne _ (by omega)]; exact g4 p hp
  · have q := g5 p hp
    refine ⟨?_, ?_⟩
    · rw [hne _ (by omega)]; exact q.1
    · rw [hne _ (by omega)]; exact q.2
theorem fm_un.s3 {M M1 : fm_M} {c1 c2 c3 c4 c5 : Nat} (h : fm_un M c1 c2 c3 c4 c5 M1) : fm_un M c1 c2 (c3 + 1) c4 c5 (fm_pi M1 6 c3 (M.1 21 (56 + c3))) := by
  obtain ⟨a1, a2, a4, g1, g2, g3, g4, g5⟩ := h
  refine ⟨fun b hb => ?_, ?_, a4, fun p hp => ?_, fun p hp => ?_, fun p hp => ?_, fun p hp => ?_, fun p hp => ?_⟩
  · simp [fm_u, show ¬ b = 6 by omega]; exact a1 b hb
  · exact a2
  · simpa [fm_u_at] using g1 p hp
  · simpa [fm_u_at] using g2 p hp
  · by_cases e : p = c3
    · simp [fm_u_at, e]
    · simpa [fm_u_at, e] using g3 p (by omega)
  · simpa [fm_u_at] using g4 p hp
  · simpa [fm_u_at] using g5 p hp
theorem fm_im.s4 {M M1 : fm_M} {c1 c2 c3 c4 c5 : Nat} (h : fm_im M c1 c2 c3 c4 c5 M1) (h1 : c1 ≤ 6) (h2 : c2 ≤ 8) (h3 : c3 ≤ 32) (h4 : c4 < 16) (h5 : c5 ≤ 3) : fm_im M c1 c2 c3 (c4 + 1) c5 (fm_pi M1 21 (88 + c4) (M.1 11 c4)) := by
  obtain ⟨a1, a2, a3, a4, g1, g2, g3, g4, g5⟩ := h
  have hne : ∀ x, x ≠ 88 + c4 → (fm_pi M1 21 (88 + c4) (M.1 11 c4)).1 21 x = M1.1 21 x := by
    intro x n0
    simp [fm_u_at, n0]
  have e0 : (fm_pi M1 21 (88 + c4) (M.1 11 c4)).1 21 (88 + c4) = M.1 11 c4 := by simp [fm_u_at]
  refine ⟨fun b hb hb2 => ?_, fun j hj => ?_, ?_, a4, fun p hp => ?_, fun p hp => ?_, fun p hp => ?_, fun p hp => ?_, fun p hp => ?_⟩
  · simp [fm_u, hb2]; exact a1 b hb hb2
  · simpa [fm_u] using a2 j hj
  · simpa [fm_u] using a3
  · have q := g1 p hp
    refine ⟨?_, ?_, ?_, ?_⟩
    · rw [hne _ (by omega)]; exact q.1
    · rw [hne _ (by omega)]; exact q.2.1
    · rw [hne _ (by omega)]; exact q.2.2.1
    · rw [hne _ (by omega)]; exact q.2.2.2
  · have q := g2 p hp
    refine ⟨?_, ?_, ?_, ?_⟩
    · rw [hne _ (by omega)]; exact q.1
    · rw [hne _ (by omega)]; exact q.2.1
    · rw [hne _ (by omega)]; exact q.2.2.1
    · rw [hne _ (by omega)]; exact q.2.2.2
  · rw [hne _ (by omega)]; exact g3 p hp
  · by_cases e : p = c4
    · subst e; exact e0
    · rw [hne _ (by omega)]; exact g4 p (by omega)
  · have q := g5 p hp
    refine ⟨?_, ?_⟩
    · rw [hne _ (by omega)]; exact q.1
    · rw [hne _ (by omega)]; exact q.2
theorem fm_un.s4 {M M1 : fm_M} {c1 c2 c3 c4 c5 : Nat} (h : fm_un M c1 c2 c3 c4 c5 M1) : fm_un M c1 c2 c3 (c4 + 1) c5 (fm_pi M1 11 c4 (M.1 21 (88 + c4))) := by
  obtain ⟨a1, a2, a4, g1, g2, g3, g4, g5⟩ := h
  refine ⟨fun b hb => ?_, ?_, a4, fun p hp => ?_, fun p hp => ?_, fun p hp => ?_, fun p hp => ?_, fun p hp => ?_⟩
  · simp [fm_u, show ¬ b = 11 by omega]; exact a1 b hb
  · exact a2
  · simpa [fm_u_at] using g1 p hp
  · simpa [fm_u_at] using g2 p hp
  · simpa [fm_u_at] using g3 p hp
  · by_cases e : p = c4
    · simp [fm_u_at, e]
    · simpa [fm_u_at, e] using g4 p (by omega)
  · simpa [fm_u_at] using g5 p hp
theorem fm_im.s5 {M M1 : fm_M} {c1 c2 c3 c4 c5 : Nat} (h : fm_im M c1 c2 c3 c4 c5 M1) (h1 : c1 ≤ 6) (h2 : c2 ≤ 8) (h3 : c3 ≤ 32) (h4 : c4 ≤ 16) (h5 : c5 < 3) : fm_im M c1 c2 c3 c4 (c5 + 1) (fm_pi (fm_pi M1 21 (104 + c5) (M.1 7 c5)) 21 (107 + c5) (M.1 8 c5)) := by
  obtain ⟨a1, a2, a3, a4, g1, g2, g3, g4, g5⟩ := h
  have hne : ∀ x, x ≠ 104 + c5 → x ≠ 107 + c5 → (fm_pi (fm_pi M1 21 (104 + c5) (M.1 7 c5)) 21 (107 + c5) (M.1 8 c5)).1 21 x = M1.1 21 x := by
    intro x n0 n1
    simp [fm_u_at, n0, n1]
  have e0 : (fm_pi (fm_pi M1 21 (104 + c5) (M.1 7 c5)) 21 (107 + c5) (M.1 8 c5)).1 21 (104 + c5) = M.1 7 c5 := by simp [fm_u_at, show ¬ 104 + c5 = 107 + c5 by omega]
  have e1 : (fm_pi (fm_pi M1 21 (104 + c5) (M.1 7 c5)) 21 (107 + c5) (M.1 8 c5)).1 21 (107 + c5) = M.1 8 c5 := by simp [fm_u_at]
  refine ⟨fun b hb hb2 => ?_, fun j hj => ?_, ?_, a4, fun p hp => ?_, fun p hp => ?_, fun p hp => ?_, fun p hp => ?_, fun p hp => ?_⟩
  · simp [fm_u, hb2]; exact a1 b hb hb2
  · simpa [fm_u] using a2 j hj
  · simpa [fm_u] using a3
  · have q := g1 p hp
    refine ⟨?_, ?_, ?_, ?_⟩
    · rw [hne _ (by omega) (by omega)]; exact q.1
    · rw [hne _ (by omega) (by omega)]; exact q.2.1
    · rw [hne _ (by omega) (by omega)]; exact q.2.2.1
    · rw [hne _ (by omega) (by omega)]; exact q.2.2.2
  · have q := g2 p hp
    refine ⟨?_, ?_, ?_, ?_⟩
    · rw [hne _ (by omega) (by omega)]; exact q.1
    · rw [hne _ (by omega) (by omega)]; exact q.2.1
    · rw [hne _ (by omega) (by omega)]; exact q.2.2.1
    · rw [hne _ (by omega) (by omega)]; exact q.2.2.2
  · rw [hne _ (by omega) (by omega)]; exact g3 p hp
  · rw [hne _ (by omega) (by omega)]; exact g4 p hp
  · by_cases e : p = c5
    · subst e; exact ⟨e0, e1⟩
    · have q := g5 p (by omega)
      refine ⟨?_, ?_⟩
      · rw [hne _ (by omega) (by omega)]; exact q.1
      · rw [hne _ (by omega) (by omega)]; exact q.2
theorem fm_un.s5 {M M1 : fm_M} {c1 c2 c3 c4 c5 : Nat} (h : fm_un M c1 c2 c3 c4 c5 M1) : fm_un M c1 c2 c3 c4 (c5 + 1) (fm_pi (fm_pi M1 7 c5 (M.1 21 (104 + c5))) 8 c5 (M.1 21 (107 + c5))) := by
  obtain ⟨a1, a2, a4, g1, g2, g3, g4, g5⟩ := h
  refine ⟨fun b hb => ?_, ?_, a4, fun p hp => ?_, fun p hp => ?_, fun p hp => ?_, fun p hp => ?_, fun p hp => ?_⟩
  · simp [fm_u, show ¬ b = 7 by omega, show ¬ b = 8 by omega]; exact a1 b hb
  · exact a2
  · simpa [fm_u_at] using g1 p hp
  · simpa [fm_u_at] using g2 p hp
  · simpa [fm_u_at] using g3 p hp
  · simpa [fm_u_at] using g4 p hp
  · by_cases e : p = c5
    · simp [fm_u_at, e]
    · simpa [fm_u_at, e] using g5 p (by omega)
set_option maxHeartbeats 400000 in
theorem mm_image {E : fm_E} {Z : fm_Z} {M : fm_M} (hm : fm_MR Z M) (hw : fm_WZ Z) : fm_C shM E mX9_image 0 [.ref (E.2.1 0)] M (fun r M' => r = some (.int (nI (Z.1 3 0))) ∧ fm_MR (Z.1, some Z.1, Z.2.2) M') := by
  refine fm_C.of (by decide +kernel) (Nat.le_of_ble_eq_true rfl) ?_
  intro X hE hR hB
  subst hE
  have hB : fm_B _ X cX9_image 2 RX9 (some .int) := hB
  refine fr_lv [some (.ref (fm_rh X 0)), none] ⟨rfl, trivial⟩ ?_
  have l6 : ∀ M1 : fm_M, fm_im M 6 8 32 16 3 M1 → fm_W shM X 2 251 [some (.ref (fm_rh X 0)), none] [] M1 (fm_Q shM X (fun r M' => r = some (.int (nI (Z.1 3 0))) ∧ fm_MR (Z.1, some Z.1, Z.2.2) M')) := by
    intro M1 hI
    refine fr_aload_n hB dX9_image_251 rfl rfl ?_
    refine fr_getR hB dX9_image_252 lf_X9_78 rfl rfl ?_
    refine fr_bipush (v := nI 110) hB dX9_image_255 (by decide) ?_
    refine fr_aload_n hB dX9_image_257 rfl rfl ?_
    refine fr_getI hB dX9_image_258 lf_X9_90 rfl rfl ?_
    refine fr_eqi (nI (Z.1 0 0)) ((hI.2.1 0 (by omega)).trans hm.1.pl.parts) ?_
    refine fr_iast hB (_) dX9_image_261 rfl (rfl) (by omega) (by decide) ?_
    refine fr_aload_n hB dX9_image_262 rfl rfl ?_
    refine fr_getR hB dX9_image_263 lf_X9_78 rfl rfl ?_
    refine fr_bipush (v := nI 111) hB dX9_image_266 (by decide) ?_
    refine fr_aload_n hB dX9_image_268 rfl rfl ?_
    refine fr_getI hB dX9_image_269 lf_X9_97 rfl rfl ?_
    refine fr_eqi (nI (Z.1 3 0)) ((hI.2.1 3 (by omega)).trans hm.1.pl.gates) ?_
    refine fr_iast hB (_) dX9_image_272 rfl (rfl) (by omega) (by decide) ?_
    refine fr_aload_n hB dX9_image_273 rfl rfl ?_
    refine fr_getR hB dX9_image_274 lf_X9_78 rfl rfl ?_
    refine fr_bipush (v := nI 112) hB dX9_image_277 (by decide) ?_
    refine fr_aload_n hB dX9_image_279 rfl rfl ?_
    refine fr_getI hB dX9_image_280 lf_X9_30 rfl rfl ?_
    refine fr_eqi (nI (Z.1 8 0) - 1) ((hI.2.1 8 (by omega)).trans hm.1.pl.top) ?_
    refine fr_iast hB (_) dX9_image_283 rfl (rfl) (by omega) (by decide) ?_
    refine fr_aload_n hB dX9_image_284 rfl rfl ?_
    refine fr_getR hB dX9_image_285 lf_X9_78 rfl rfl ?_
    refine fr_bipush (v := nI 113) hB dX9_image_288 (by decide) ?_
    refine fr_aload_n hB dX9_image_290 rfl rfl ?_
    refine fr_getI hB dX9_image_291 lf_X9_121 rfl rfl ?_
    refine fr_eqi (nI (Z.1 9 0)) ((hI.2.1 9 (by omega)).trans hm.1.pl.causes) ?_
    refine fr_iast hB (_) dX9_image_294 rfl (rfl) (by omega) (by decide) ?_
    refine fr_aload_n hB dX9_image_295 rfl rfl ?_
    refine fr_getR hB dX9_image_296 lf_X9_78 rfl rfl ?_
    refine fr_bipush (v := nI 114) hB dX9_image_299 (by decide) ?_
    refine fr_aload_n hB dX9_image_301 rfl rfl ?_
    refine fr_getI hB dX9_image_302 lf_X9_268 rfl rfl ?_
    refine fr_eqi (nI (Z.1 12 0)) ((hI.2.1 12 (by omega)).trans hm.1.r12) ?_
    refine fr_iast hB (_) dX9_image_305 rfl (rfl) (by omega) (by decide) ?_
    refine fr_aload_n hB dX9_image_306 rfl rfl ?_
    refine fr_getR hB dX9_image_307 lf_X9_78 rfl rfl ?_
    refine fr_bipush (v := nI 115) hB dX9_image_310 (by decide) ?_
    refine fr_aload_n hB dX9_image_312 rfl rfl ?_
    refine fr_getI hB dX9_image_313 lf_X9_275 rfl rfl ?_
    refine fr_eqi (nI (Z.1 15 0)) ((hI.2.1 15 (by omega)).trans hm.1.r15) ?_
    refine fr_iast hB (_) dX9_image_316 rfl (rfl) (by omega) (by decide) ?_
    refine fr_aload_n hB dX9_image_317 rfl rfl ?_
    refine fr_getR hB dX9_image_318 lf_X9_78 rfl rfl ?_
    refine fr_bipush (v := nI 116) hB dX9_image_321 (by decide) ?_
    refine fr_aload_n hB dX9_image_323 rfl rfl ?_
    refine fr_getI hB dX9_image_324 lf_X9_278 rfl rfl ?_
    refine fr_eqi (nI (Z.1 18 0)) ((hI.2.1 17 (by omega)).trans hm.1.r18) ?_
    refine fr_iast hB (_) dX9_image_327 rfl (rfl) (by omega) (by decide) ?_
    refine fr_aload_n hB dX9_image_328 rfl rfl ?_
    refine fr_getI hB dX9_image_329 lf_X9_97 rfl rfl ?_
    refine fr_eqi (nI (Z.1 3 0)) ((hI.2.1 3 (by omega)).trans hm.1.pl.gates) ?_
    obtain ⟨a1, a2, a3, a4, g1, g2, g3, g4, g5⟩ := hI
    obtain ⟨w1, w2, w3, -⟩ := hw.1.2
    have hlow : ∀ x, x < 110 → (fm_pi (fm_pi (fm_pi (fm_pi (fm_pi (fm_pi (fm_pi M1 21 110 (nI (Z.1 0 0))) 21 111 (nI (Z.1 3 0))) 21 112 (nI (Z.1 8 0) - 1)) 21 113 (nI (Z.1 9 0))) 21 114 (nI (Z.1 12 0))) 21 115 (nI (Z.1 15 0))) 21 116 (nI (Z.1 18 0))).1 21 x = M1.1 21 x := by
      intro x hx
      simp [fm_u_at, show ¬ x = 110 by omega, show ¬ x = 111 by omega, show ¬ x = 112 by omega, show ¬ x = 113 by omega, show ¬ x = 114 by omega, show ¬ x = 115 by omega, show ¬ x = 116 by omega]
    refine fr_ireturn hB dX9_image_332 ⟨rfl, ?_, ⟨?_, ?_⟩, ?_, ?_⟩
    · exact hm.1.kept (fun b h1 h2 => by simp [fm_u, show ¬ b = 21 by omega]; exact a1 b (by omega) (by omega)) (fun j hj => by simpa [fm_u] using a2 j (by omega))
    · simpa [fm_u] using a3
    · refine ⟨fun p hp => ?_, fun p hp => ?_, fun p hp => ?_, fun p hp => ?_, fun p hp => ?_, fun p hp => ?_, fun p hp => ?_, fun p hp => ?_, fun p hp => ?_, fun p hp => ?_, fun p hp => ?_, fun p hp => ?_, fun p hp => ?_, ?_, ?_, ?_, ?_, ?_, ?_, ?_⟩
      · exact (hlow _ (by omega)).trans ((g1 p hp).1.trans (hm.1.pl.odds p hp))
      · exact (hlow _ (by omega)).trans ((g1 p hp).2.1.trans (hm.1.pl.order p hp))
      · have hp : p < Z.1 12 0 := hp
        exact (hlow _ (by omega)).trans ((g1 p (by omega)).2.2.1.trans (hm.1.r13 p hp))
      · have hp : p < Z.1 12 0 := hp
        exact (hlow _ (by omega)).trans ((g1 p (by omega)).2.2.2.trans (hm.1.r14 p hp))
      · exact (hlow _ (by omega)).trans ((g2 p hp).1.trans (hm.1.pl.kind p hp))
      · exact (hlow _ (by omega)).trans ((g2 p hp).2.1.trans (hm.1.pl.need p hp))
      · exact (hlow _ (by omega)).trans ((g2 p hp).2.2.1.trans (hm.1.pl.cnt p hp))
      · have hp : p < Z.1 18 0 := hp
        exact (hlow _ (by omega)).trans ((g2 p (by omega)).2.2.2.trans (hm.1.r19 p hp))
      · exact (hlow _ (by omega)).trans ((g3 p hp).trans (hm.1.pl.inp p hp))
      · have hp : p < Z.1 15 0 := hp
        exact (hlow _ (by omega)).trans ((g4 (2 * p) (by omega)).trans (hm.1.r16 p hp))
      · have hp : p < Z.1 15 0 := hp
        exact (hlow _ (by omega)).trans ((g4 (2 * p + 1) (by omega)).trans (hm.1.r17 p hp))
      · exact (hlow _ (by omega)).trans ((g5 p hp).1.trans (hm.1.pl.codds p hp))
      · exact (hlow _ (by omega)).trans ((g5 p hp).2.trans (hm.1.pl.cbits p hp))
      · simp [fm_u_at]
      · simp [fm_u_at]
      · simp [fm_u_at]
      · simp [fm_u_at]
      · simp [fm_u_at]
      · simp [fm_u_at]
      · simp [fm_u_at]
    · exact hm.2.2.1.mf (by simpa [fm_u] using a2 19 (by omega)) (by simpa [fm_u] using a1 13 (by omega) (by omega))
    · exact hm.2.2.2.mf (by simpa [fm_u] using a1 22 (by omega) (by omega)) (by simpa [fm_u] using a1 23 (by omega) (by omega)) (by show M1.2 24 = _; rw [a4])
  have l5 : ∀ (d i : Nat) (M1 : fm_M), i + d = 3 → fm_im M 6 8 32 16 i M1 → fm_W shM X 2 210 [some (.ref (fm_rh X 0)), some (.int (nI i))] [] M1 (fm_Q shM X (fun r M' => r = some (.int (nI (Z.1 3 0))) ∧ fm_MR (Z.1, some Z.1, Z.2.2) M')) := by
    intro d
    induction d with
    | zero =>
      intro i M1 hi hI
      have hi : i = 3 := by omega
      subst hi
      refine fr_iload_n hB dX9_image_210 rfl rfl ?_
      refine fr_iconst (v := nI 3) hB dX9_image_211 (by decide) ?_
      refine fr_icmp_geN (tgt := 251) hB dX9_image_212 (by decide) (by omega) (by omega) (fun h => ?_) (fun h => ?_)
      · refine fr_lv [some (.ref (fm_rh X 0)), none] ⟨rfl, trivial⟩ ?_
        exact l6 M1 hI
      · exact absurd h (by omega)
    | succ d ih =>
      intro i M1 hi hI
      refine fr_iload_n hB dX9_image_210 rfl rfl ?_
      refine fr_iconst (v := nI 3) hB dX9_image_211 (by decide) ?_
      refine fr_icmp_geN (tgt := 251) hB dX9_image_212 (by decide) (by omega) (by omega) (fun h => ?_) (fun h => ?_)
      · exact absurd h (by omega)
      · refine fr_aload_n hB dX9_image_215 rfl rfl ?_
        refine fr_getR hB dX9_image_216 lf_X9_78 rfl rfl ?_
        refine fr_bipush (v := nI 104) hB dX9_image_219 (by decide) ?_
        refine fr_iload_n hB dX9_image_221 rfl rfl ?_
        refine fr_iaddN hB dX9_image_222 ?_
        refine fr_aload_n hB dX9_image_223 rfl rfl ?_
        refine fr_getR hB dX9_image_224 lf_X9_34 rfl rfl ?_
        refine fr_iload_n hB dX9_image_227 rfl rfl ?_
        refine fr_iald hB (_) dX9_image_228 rfl (rfl) (by omega) (by decide) ?_
        refine fr_eqi (M.1 7 i) (congrFun (hI.1 7 (by omega) (by omega)) i) ?_
        refine fr_iast hB (_) dX9_image_229 rfl (rfl) (by omega) (by decide) ?_
        refine fr_aload_n hB dX9_image_230 rfl rfl ?_
        refine fr_getR hB dX9_image_231 lf_X9_78 rfl rfl ?_
        refine fr_bipush (v := nI 107) hB dX9_image_234 (by decide) ?_
        refine fr_iload_n hB dX9_image_236 rfl rfl ?_
        refine fr_iaddN hB dX9_image_237 ?_
        refine fr_aload_n hB dX9_image_238 rfl rfl ?_
        refine fr_getR hB dX9_image_239 lf_X9_37 rfl rfl ?_
        refine fr_iload_n hB dX9_image_242 rfl rfl ?_
        refine fr_iald hB (_) dX9_image_243 rfl (rfl) (by omega) (by decide) ?_
        refine fr_eqi (M.1 8 i) (congrFun (hI.1 8 (by omega) (by omega)) i) ?_
        refine fr_iast hB (_) dX9_image_244 rfl (rfl) (by omega) (by decide) ?_
        refine fr_iincN (b := 1) hB dX9_image_245 rfl (by decide) (by decide) rfl ?_
        refine fr_goto (tgt := 210) hB dX9_image_248 (by decide) ?_
        exact ih (i + 1) _ (by omega) (hI.s5 (by omega) (by omega) (by omega) (by omega) (by omega))
  have l4 : ∀ (d i : Nat) (M1 : fm_M), i + d = 16 → fm_im M 6 8 32 i 0 M1 → fm_W shM X 2 181 [some (.ref (fm_rh X 0)), some (.int (nI i))] [] M1 (fm_Q shM X (fun r M' => r = some (.int (nI (Z.1 3 0))) ∧ fm_MR (Z.1, some Z.1, Z.2.2) M')) := by
    intro d
    induction d with
    | zero =>
      intro i M1 hi hI
      have hi : i = 16 := by omega
      subst hi
      refine fr_iload_n hB dX9_image_181 rfl rfl ?_
      refine fr_bipush (v := nI 16) hB dX9_image_182 (by decide) ?_
      refine fr_icmp_geN (tgt := 208) hB dX9_image_184 (by decide) (by omega) (by omega) (fun h => ?_) (fun h => ?_)
      · refine fr_iconst (v := nI 0) hB dX9_image_208 (by decide) ?_
        refine fr_istore_n hB dX9_image_209 rfl (by decide) rfl ?_
        exact l5 3 0 M1 (by omega) hI
      · exact absurd h (by omega)
    | succ d ih =>
      intro i M1 hi hI
      refine fr_iload_n hB dX9_image_181 rfl rfl ?_
      refine fr_bipush (v := nI 16) hB dX9_image_182 (by decide) ?_
      refine fr_icmp_geN (tgt := 208) hB dX9_image_184 (by decide) (by omega) (by omega) (fun h => ?_) (fun h => ?_)
      · exact absurd h (by omega)
      · refine fr_aload_n hB dX9_image_187 rfl rfl ?_
        refine fr_getR hB dX9_image_188 lf_X9_78 rfl rfl ?_
        refine fr_bipush (v := nI 88) hB dX9_image_191 (by decide) ?_
        refine fr_iload_n hB dX9_image_193 rfl rfl ?_
        refine fr_iaddN hB dX9_image_194 ?_
        refine fr_aload_n hB dX9_image_195 rfl rfl ?_
        refine fr_getR hB dX9_image_196 lf_X9_46 rfl rfl ?_
        refine fr_iload_n hB dX9_image_199 rfl rfl ?_
        refine fr_iald hB (_) dX9_image_200 rfl (rfl) (by omega) (by decide) ?_
        refine fr_eqi (M.1 11 i) (congrFun (hI.1 11 (by omega) (by omega)) i) ?_
        refine fr_iast hB (_) dX9_image_201 rfl (rfl) (by omega) (by decide) ?_
        refine fr_iincN (b := 1) hB dX9_image_202 rfl (by decide) (by decide) rfl ?_
        refine fr_goto (tgt := 181) hB dX9_image_205 (by decide) ?_
        exact ih (i + 1) _ (by omega) (hI.s4 (by omega) (by omega) (by omega) (by omega) (by omega))
  have l3 : ∀ (d i : Nat) (M1 : fm_M), i + d = 32 → fm_im M 6 8 i 0 0 M1 → fm_W shM X 2 152 [some (.ref (fm_rh X 0)), some (.int (nI i))] [] M1 (fm_Q shM X (fun r M' => r = some (.int (nI (Z.1 3 0))) ∧ fm_MR (Z.1, some Z.1, Z.2.2) M')) := by
    intro d
    induction d with
    | zero =>
      intro i M1 hi hI
      have hi : i = 32 := by omega
      subst hi
      refine fr_iload_n hB dX9_image_152 rfl rfl ?_
      refine fr_bipush (v := nI 32) hB dX9_image_153 (by decide) ?_
      refine fr_icmp_geN (tgt := 179) hB dX9_image_155 (by decide) (by omega) (by omega) (fun h => ?_) (fun h => ?_)
      · refine fr_iconst (v := nI 0) hB dX9_image_179 (by decide) ?_
        refine fr_istore_n hB dX9_image_180 rfl (by decide) rfl ?_
        exact l4 16 0 M1 (by omega) hI
      · exact absurd h (by omega)
    | succ d ih =>
      intro i M1 hi hI
      refine fr_iload_n hB dX9_image_152 rfl rfl ?_
      refine fr_bipush (v := nI 32) hB dX9_image_153 (by decide) ?_
      refine fr_icmp_geN (tgt := 179) hB dX9_image_155 (by decide) (by omega) (by omega) (fun h => ?_) (fun h => ?_)
      · exact absurd h (by omega)
      · refine fr_aload_n hB dX9_image_158 rfl rfl ?_
        refine fr_getR hB dX9_image_159 lf_X9_78 rfl rfl ?_
        refine fr_bipush (v := nI 56) hB dX9_image_162 (by decide) ?_
        refine fr_iload_n hB dX9_image_164 rfl rfl ?_
        refine fr_iaddN hB dX9_image_165 ?_
        refine fr_aload_n hB dX9_image_166 rfl rfl ?_
        refine fr_getR hB dX9_image_167 lf_X9_27 rfl rfl ?_
        refine fr_iload_n hB dX9_image_170 rfl rfl ?_
        refine fr_iald hB (_) dX9_image_171 rfl (rfl) (by omega) (by decide) ?_
        refine fr_eqi (M.1 6 i) (congrFun (hI.1 6 (by omega) (by omega)) i) ?_
        refine fr_iast hB (_) dX9_image_172 rfl (rfl) (by omega) (by decide) ?_
        refine fr_iincN (b := 1) hB dX9_image_173 rfl (by decide) (by decide) rfl ?_
        refine fr_goto (tgt := 152) hB dX9_image_176 (by decide) ?_
        exact ih (i + 1) _ (by omega) (hI.s3 (by omega) (by omega) (by omega) (by omega) (by omega))
  have l2 : ∀ (d i : Nat) (M1 : fm_M), i + d = 8 → fm_im M 6 i 0 0 0 M1 → fm_W shM X 2 78 [some (.ref (fm_rh X 0)), some (.int (nI i))] [] M1 (fm_Q shM X (fun r M' => r = some (.int (nI (Z.1 3 0))) ∧ fm_MR (Z.1, some Z.1, Z.2.2) M')) := by
    intro d
    induction d with
    | zero =>
      intro i M1 hi hI
      have hi : i = 8 := by omega
      subst hi
      refine fr_iload_n hB dX9_image_78 rfl rfl ?_
      refine fr_bipush (v := nI 8) hB dX9_image_79 (by decide) ?_
      refine fr_icmp_geN (tgt := 150) hB dX9_image_81 (by decide) (by omega) (by omega) (fun h => ?_) (fun h => ?_)
      · refine fr_iconst (v := nI 0) hB dX9_image_150 (by decide) ?_
        refine fr_istore_n hB dX9_image_151 rfl (by decide) rfl ?_
        exact l3 32 0 M1 (by omega) hI
      · exact absurd h (by omega)
    | succ d ih =>
      intro i M1 hi hI
      refine fr_iload_n hB dX9_image_78 rfl rfl ?_
      refine fr_bipush (v := nI 8) hB dX9_image_79 (by decide) ?_
      refine fr_icmp_geN (tgt := 150) hB dX9_image_81 (by decide) (by omega) (by omega) (fun h => ?_) (fun h => ?_)
      · exact absurd h (by omega)
      · refine fr_aload_n hB dX9_image_84 rfl rfl ?_
        refine fr_getR hB dX9_image_85 lf_X9_78 rfl rfl ?_
        refine fr_bipush (v := nI 24) hB dX9_image_88 (by decide) ?_
        refine fr_iload_n hB dX9_image_90 rfl rfl ?_
        refine fr_iaddN hB dX9_image_91 ?_
        refine fr_aload_n hB dX9_image_92 rfl rfl ?_
        refine fr_getR hB dX9_image_93 lf_X9_18 rfl rfl ?_
        refine fr_iload_n hB dX9_image_96 rfl rfl ?_
        refine fr_iald hB (_) dX9_image_97 rfl (rfl) (by omega) (by decide) ?_
        refine fr_eqi (M.1 3 i) (congrFun (hI.1 3 (by omega) (by omega)) i) ?_
        refine fr_iast hB (_) dX9_image_98 rfl (rfl) (by omega) (by decide) ?_
        refine fr_aload_n hB dX9_image_99 rfl rfl ?_
        refine fr_getR hB dX9_image_100 lf_X9_78 rfl rfl ?_
        refine fr_bipush (v := nI 32) hB dX9_image_103 (by decide) ?_
        refine fr_iload_n hB dX9_image_105 rfl rfl ?_
        refine fr_iaddN hB dX9_image_106 ?_
        refine fr_aload_n hB dX9_image_107 rfl rfl ?_
        refine fr_getR hB dX9_image_108 lf_X9_21 rfl rfl ?_
        refine fr_iload_n hB dX9_image_111 rfl rfl ?_
        refine fr_iald hB (_) dX9_image_112 rfl (rfl) (by omega) (by decide) ?_
        refine fr_eqi (M.1 4 i) (congrFun (hI.1 4 (by omega) (by omega)) i) ?_
        refine fr_iast hB (_) dX9_image_113 rfl (rfl) (by omega) (by decide) ?_
        refine fr_aload_n hB dX9_image_114 rfl rfl ?_
        refine fr_getR hB dX9_image_115 lf_X9_78 rfl rfl ?_
        refine fr_bipush (v := nI 40) hB dX9_image_118 (by decide) ?_
        refine fr_iload_n hB dX9_image_120 rfl rfl ?_
        refine fr_iaddN hB dX9_image_121 ?_
        refine fr_aload_n hB dX9_image_122 rfl rfl ?_
        refine fr_getR hB dX9_image_123 lf_X9_24 rfl rfl ?_
        refine fr_iload_n hB dX9_image_126 rfl rfl ?_
        refine fr_iald hB (_) dX9_image_127 rfl (rfl) (by omega) (by decide) ?_
        refine fr_eqi (M.1 5 i) (congrFun (hI.1 5 (by omega) (by omega)) i) ?_
        refine fr_iast hB (_) dX9_image_128 rfl (rfl) (by omega) (by decide) ?_
        refine fr_aload_n hB dX9_image_129 rfl rfl ?_
        refine fr_getR hB dX9_image_130 lf_X9_78 rfl rfl ?_
        refine fr_bipush (v := nI 48) hB dX9_image_133 (by decide) ?_
        refine fr_iload_n hB dX9_image_135 rfl rfl ?_
        refine fr_iaddN hB dX9_image_136 ?_
        refine fr_aload_n hB dX9_image_137 rfl rfl ?_
        refine fr_getR hB dX9_image_138 lf_X9_49 rfl rfl ?_
        refine fr_iload_n hB dX9_image_141 rfl rfl ?_
        refine fr_iald hB (_) dX9_image_142 rfl (rfl) (by omega) (by decide) ?_
        refine fr_eqi (M.1 12 i) (congrFun (hI.1 12 (by omega) (by omega)) i) ?_
        refine fr_iast hB (_) dX9_image_143 rfl (rfl) (by omega) (by decide) ?_
        refine fr_iincN (b := 1) hB dX9_image_144 rfl (by decide) (by decide) rfl ?_
        refine fr_goto (tgt := 78) hB dX9_image_147 (by decide) ?_
        exact ih (i + 1) _ (by omega) (hI.s2 (by omega) (by omega) (by omega) (by omega) (by omega))
  have l1 : ∀ (d i : Nat) (M1 : fm_M), i + d = 6 → fm_im M i 0 0 0 0 M1 → fm_W shM X 2 7 [some (.ref (fm_rh X 0)), some (.int (nI i))] [] M1 (fm_Q shM X (fun r M' => r = some (.int (nI (Z.1 3 0))) ∧ fm_MR (Z.1, some Z.1, Z.2.2) M')) := by
    intro d
    induction d with
    | zero =>
      intro i M1 hi hI
      have hi : i = 6 := by omega
      subst hi
      refine fr_iload_n hB dX9_image_7 rfl rfl ?_
      refine fr_bipush (v := nI 6) hB dX9_image_8 (by decide) ?_
      refine fr_icmp_geN (tgt := 76) hB dX9_image_10 (by decide) (by omega) (by omega) (fun h => ?_) (fun h => ?_)
      · refine fr_iconst (v := nI 0) hB dX9_image_76 (by decide) ?_
        refine fr_istore_n hB dX9_image_77 rfl (by decide) rfl ?_
        exact l2 8 0 M1 (by omega) hI
      · exact absurd h (by omega)
    | succ d ih =>
      intro i M1 hi hI
      refine fr_iload_n hB dX9_image_7 rfl rfl ?_
      refine fr_bipush (v := nI 6) hB dX9_image_8 (by decide) ?_
      refine fr_icmp_geN (tgt := 76) hB dX9_image_10 (by decide) (by omega) (by omega) (fun h => ?_) (fun h => ?_)
      · exact absurd h (by omega)
      · refine fr_aload_n hB dX9_image_13 rfl rfl ?_
        refine fr_getR hB dX9_image_14 lf_X9_78 rfl rfl ?_
        refine fr_iload_n hB dX9_image_17 rfl rfl ?_
        refine fr_aload_n hB dX9_image_18 rfl rfl ?_
        refine fr_getR hB dX9_image_19 lf_X9_9 rfl rfl ?_
        refine fr_iload_n hB dX9_image_22 rfl rfl ?_
        refine fr_iald hB (_) dX9_image_23 rfl (rfl) (by omega) (by decide) ?_
        refine fr_eqi (M.1 1 i) (congrFun (hI.1 1 (by omega) (by omega)) i) ?_
        refine fr_iast hB (_) dX9_image_24 rfl (rfl) (by omega) (by decide) ?_
        refine fr_aload_n hB dX9_image_25 rfl rfl ?_
        refine fr_getR hB dX9_image_26 lf_X9_78 rfl rfl ?_
        refine fr_bipush (v := nI 6) hB dX9_image_29 (by decide) ?_
        refine fr_iload_n hB dX9_image_31 rfl rfl ?_
        refine fr_iaddN hB dX9_image_32 ?_
        refine fr_aload_n hB dX9_image_33 rfl rfl ?_
        refine fr_getR hB dX9_image_34 lf_X9_15 rfl rfl ?_
        refine fr_iload_n hB dX9_image_37 rfl rfl ?_
        refine fr_iald hB (_) dX9_image_38 rfl (rfl) (by omega) (by decide) ?_
        refine fr_eqi (M.1 2 i) (congrFun (hI.1 2 (by omega) (by omega)) i) ?_
        refine fr_iast hB (_) dX9_image_39 rfl (rfl) (by omega) (by decide) ?_
        refine fr_aload_n hB dX9_image_40 rfl rfl ?_
        refine fr_getR hB dX9_image_41 lf_X9_78 rfl rfl ?_
        refine fr_bipush (v := nI 12) hB dX9_image_44 (by decide) ?_
        refine fr_iload_n hB dX9_image_46 rfl rfl ?_
        refine fr_iaddN hB dX9_image_47 ?_
        refine fr_aload_n hB dX9_image_48 rfl rfl ?_
        refine fr_getR hB dX9_image_49 lf_X9_40 rfl rfl ?_
        refine fr_iload_n hB dX9_image_52 rfl rfl ?_
        refine fr_iald hB (_) dX9_image_53 rfl (rfl) (by omega) (by decide) ?_
        refine fr_eqi (M.1 9 i) (congrFun (hI.1 9 (by omega) (by omega)) i) ?_
        refine fr_iast hB (_) dX9_image_54 rfl (rfl) (by omega) (by decide) ?_
        refine fr_aload_n hB dX9_image_55 rfl rfl ?_
        refine fr_getR hB dX9_image_56 lf_X9_78 rfl rfl ?_
        refine fr_bipush (v := nI 18) hB dX9_image_59 (by decide) ?_
        refine fr_iload_n hB dX9_image_61 rfl rfl ?_
        refine fr_iaddN hB dX9_image_62 ?_
        refine fr_aload_n hB dX9_image_63 rfl rfl ?_
        refine fr_getR hB dX9_image_64 lf_X9_43 rfl rfl ?_
        refine fr_iload_n hB dX9_image_67 rfl rfl ?_
        refine fr_iald hB (_) dX9_image_68 rfl (rfl) (by omega) (by decide) ?_
        refine fr_eqi (M.1 10 i) (congrFun (hI.1 10 (by omega) (by omega)) i) ?_
        refine fr_iast hB (_) dX9_image_69 rfl (rfl) (by omega) (by decide) ?_
        refine fr_iincN (b := 1) hB dX9_image_70 rfl (by decide) (by decide) rfl ?_
        refine fr_goto (tgt := 7) hB dX9_image_73 (by decide) ?_
        exact ih (i + 1) _ (by omega) (hI.s1 (by omega) (by omega) (by omega) (by omega) (by omega))
  refine fr_aload_n hB dX9_image_0 rfl rfl ?_
  refine fr_iconst (v := nI 1) hB dX9_image_1 (by decide) ?_
  refine fr_put hB dX9_image_2 lp_X9_287 rfl rfl fm_nar1 (by decide) ?_
  refine fr_iconst (v := nI 0) hB dX9_image_5 (by decide) ?_
  refine fr_istore_n hB dX9_image_6 rfl (by decide) rfl ?_
  refine l1 6 0 _ (by omega) ⟨fun b hb hb2 => fm_u_ne _ _ _ hb, fun j hj => ?_, ?_, rfl, fun p hp => absurd hp (by omega), fun p hp => absurd hp (by omega), fun p hp => absurd hp (by omega), fun p hp => absurd hp (by omega), fun p hp => absurd hp (by omega)⟩
  · simp [fm_u_at, hj]
  · simp [fm_u_at]
set_option maxHeartbeats 400000 in
theorem mm_undo {E : fm_E} {Z : fm_Z} {M : fm_M} (hm : fm_MR Z M) (hw : fm_WZ Z) : fm_C shM E mX9_undo 0 [.ref (E.2.1 0)] M (fun r M' => r = some (.int (sp_undo Z).1) ∧ fm_MR (sp_undo Z).2 M') := by
  have hI := hm.2.1
  refine fm_C.of (by decide +kernel) (Nat.le_of_ble_eq_true rfl) ?_
  intro X hE hR hB
  subst hE
  have hB : fm_B _ X cX9_undo 2 RX9 (some .int) := hB
  refine fr_lv [some (.ref (fm_rh X 0)), none] ⟨rfl, trivial⟩ ?_
  cases hZ : Z.2.1 with
  | none =>
    rw [hZ] at hI
    have e : sp_undo Z = (-3, Z) := by rw [sp_undo, hZ]
    refine fr_aload_n hB dX9_undo_0 rfl rfl ?_
    refine fr_getI hB dX9_undo_1 lf_X9_287 rfl rfl ?_
    refine fr_eqi (nI (0)) (hI) ?_
    refine fr_if_neN (tgt := 10) hB dX9_undo_4 (by decide) (by omega) (fun h => ?_) (fun h => ?_)
    · exact absurd h (by omega)
    · refine fr_bipush (v := -3) hB dX9_undo_7 (by decide) ?_
      exact fr_ireturn hB dX9_undo_9 (⟨by rw [e], by rw [e]; exact hm⟩)
  | some Q =>
    rw [hZ] at hI
    have e : sp_undo Z = (nI (Q 3 0), (Q, some Q, Z.2.2)) := by rw [sp_undo, hZ]
    rw [e]
    clear e
    obtain ⟨hI0, hI⟩ := hI
    obtain ⟨y1, y2, y3, y4, y5, y6, y7, y8, y9, z1, z2, z3, z4, z5, z6, z7, z8, z9, x1, x2⟩ := hI
    have hwq := hw.2.1 Q hZ
    obtain ⟨w1, w2, w3, -⟩ := hwq.2
    have l6 : ∀ M1 : fm_M, fm_un M 6 8 32 16 3 M1 → fm_W shM X 2 256 [some (.ref (fm_rh X 0)), none] [] M1 (fm_Q shM X (fun r M' => r = some (.int (nI (Q 3 0))) ∧ fm_MR (Q, some Q, Z.2.2) M')) := by
      intro M1 hI
      refine fr_aload_n hB dX9_undo_256 rfl rfl ?_
      refine fr_aload_n hB dX9_undo_257 rfl rfl ?_
      refine fr_getR hB dX9_undo_258 lf_X9_78 rfl rfl ?_
      refine fr_bipush (v := nI 110) hB dX9_undo_261 (by decide) ?_
      refine fr_iald hB (_) dX9_undo_263 rfl (rfl) (by omega) (by decide) ?_
      refine fr_eqi (nI (Q 0 0)) ((congrFun (hI.1 21 (by omega)) 110).trans z5) ?_
      refine fr_putI hB dX9_undo_264 lp_X9_90 rfl rfl ?_
      refine fr_aload_n hB dX9_undo_267 rfl rfl ?_
      refine fr_aload_n hB dX9_undo_268 rfl rfl ?_
      refine fr_getR hB dX9_undo_269 lf_X9_78 rfl rfl ?_
      refine fr_bipush (v := nI 111) hB dX9_undo_272 (by decide) ?_
      refine fr_iald hB (_) dX9_undo_274 rfl (rfl) (by omega) (by decide) ?_
      refine fr_eqi (nI (Q 3 0)) ((congrFun (hI.1 21 (by omega)) 111).trans z6) ?_
      refine fr_putI hB dX9_undo_275 lp_X9_97 rfl rfl ?_
      refine fr_aload_n hB dX9_undo_278 rfl rfl ?_
      refine fr_aload_n hB dX9_undo_279 rfl rfl ?_
      refine fr_getR hB dX9_undo_280 lf_X9_78 rfl rfl ?_
      refine fr_bipush (v := nI 112) hB dX9_undo_283 (by decide) ?_
      refine fr_iald hB (_) dX9_undo_285 rfl (rfl) (by omega) (by decide) ?_
      refine fr_eqi (nI (Q 8 0) - 1) ((congrFun (hI.1 21 (by omega)) 112).trans z7) ?_
      refine fr_putI hB dX9_undo_286 lp_X9_30 rfl rfl ?_
      refine fr_aload_n hB dX9_undo_289 rfl rfl ?_
      refine fr_aload_n hB dX9_undo_290 rfl rfl ?_
      refine fr_getR hB dX9_undo_291 lf_X9_78 rfl rfl ?_
      refine fr_bipush (v := nI 113) hB dX9_undo_294 (by decide) ?_
      refine fr_iald hB (_) dX9_undo_296 rfl (rfl) (by omega) (by decide) ?_
      refine fr_eqi (nI (Q 9 0)) ((congrFun (hI.1 21 (by omega)) 113).trans z8) ?_
      refine fr_putI hB dX9_undo_297 lp_X9_121 rfl rfl ?_
      refine fr_aload_n hB dX9_undo_300 rfl rfl ?_
      refine fr_aload_n hB dX9_undo_301 rfl rfl ?_
      refine fr_getR hB dX9_undo_302 lf_X9_78 rfl rfl ?_
      refine fr_bipush (v := nI 114) hB dX9_undo_305 (by decide) ?_
      refine fr_iald hB (_) dX9_undo_307 rfl (rfl) (by omega) (by decide) ?_
      refine fr_eqi (nI (Q 12 0)) ((congrFun (hI.1 21 (by omega)) 114).trans z9) ?_
      refine fr_putI hB dX9_undo_308 lp_X9_268 rfl rfl ?_
      refine fr_aload_n hB dX9_undo_311 rfl rfl ?_
      refine fr_aload_n hB dX9_undo_312 rfl rfl ?_
      refine fr_getR hB dX9_undo_313 lf_X9_78 rfl rfl ?_
      refine fr_bipush (v := nI 115) hB dX9_undo_316 (by decide) ?_
      refine fr_iald hB (_) dX9_undo_318 rfl (rfl) (by omega) (by decide) ?_
      refine fr_eqi (nI (Q 15 0)) ((congrFun (hI.1 21 (by omega)) 115).trans x1) ?_
      refine fr_putI hB dX9_undo_319 lp_X9_275 rfl rfl ?_
      refine fr_aload_n hB dX9_undo_322 rfl rfl ?_
      refine fr_aload_n hB dX9_undo_323 rfl rfl ?_
      refine fr_getR hB dX9_undo_324 lf_X9_78 rfl rfl ?_
      refine fr_bipush (v := nI 116) hB dX9_undo_327 (by decide) ?_
      refine fr_iald hB (_) dX9_undo_329 rfl (rfl) (by omega) (by decide) ?_
      refine fr_eqi (nI (Q 18 0)) ((congrFun (hI.1 21 (by omega)) 116).trans x2) ?_
      refine fr_putI hB dX9_undo_330 lp_X9_278 rfl rfl ?_
      refine fr_aload_n hB dX9_undo_333 rfl rfl ?_
      refine fr_getI hB dX9_undo_334 lf_X9_97 rfl rfl ?_
      refine fr_eqi (nI (Q 3 0)) (by simp [fm_u]) ?_
      obtain ⟨a1, a2, a4, g1, g2, g3, g4, g5⟩ := hI
      have hi0 : ∀ j, 18 ≤ j → M1.1 0 j = M.1 0 j := fun j _ => by rw [a2]
      refine fr_ireturn hB dX9_undo_337 ⟨rfl, ⟨⟨?_, fun p hp => ?_, fun p hp => ?_, ?_, fun p hp => ?_, fun p hp => ?_, fun p hp => ?_, fun p hp => ?_, ?_, ?_, fun p hp => ?_, fun p hp => ?_⟩, ?_, fun p hp => ?_, fun p hp => ?_, ?_, fun p hp => ?_, fun p hp => ?_, ?_, fun p hp => ?_⟩, ⟨?_, ?_⟩, ?_, ?_⟩
      · simp [fm_u_at]
      · exact (g1 p hp).1.trans (y1 p hp)
      · exact (g1 p hp).2.1.trans (y2 p hp)
      · simp [fm_u_at]
      · exact (g2 p hp).1.trans (y5 p hp)
      · exact (g2 p hp).2.1.trans (y6 p hp)
      · exact (g2 p hp).2.2.1.trans (y7 p hp)
      · exact (g3 p hp).trans (y9 p hp)
      · simp [fm_u_at]
      · simp [fm_u_at]
      · exact (g5 p hp).1.trans (z3 p hp)
      · exact (g5 p hp).2.trans (z4 p hp)
      · simp [fm_u_at]
      · exact (g1 p (by have : p < Q 12 0 := hp; omega)).2.2.1.trans (y3 p hp)
      · exact (g1 p (by have : p < Q 12 0 := hp; omega)).2.2.2.trans (y4 p hp)
      · simp [fm_u_at]
      · exact (g4 (2 * p) (by have : p < Q 15 0 := hp; omega)).trans (z1 p hp)
      · exact (g4 (2 * p + 1) (by have : p < Q 15 0 := hp; omega)).trans (z2 p hp)
      · simp [fm_u_at]
      · exact (g2 p (by have : p < Q 18 0 := hp; omega)).2.2.2.trans (y8 p hp)
      · simpa [fm_u_at] using (hi0 30 (by omega)).trans hI0
      · show fm_QI Q (M1.1 21)
        rw [a1 21 (by omega)]
        exact ⟨y1, y2, y3, y4, y5, y6, y7, y8, y9, z1, z2, z3, z4, z5, z6, z7, z8, z9, x1, x2⟩
      · exact hm.2.2.1.mf (by simpa [fm_u_at] using hi0 19 (by omega)) (a1 13 (by omega))
      · exact hm.2.2.2.mf (a1 22 (by omega)) (a1 23 (by omega)) (by show M1.2 24 = _; rw [a4])
    have l5 : ∀ (d i : Nat) (M1 : fm_M), i + d = 3 → fm_un M 6 8 32 16 i M1 → fm_W shM X 2 215 [some (.ref (fm_rh X 0)), some (.int (nI i))] [] M1 (fm_Q shM X (fun r M' => r = some (.int (nI (Q 3 0))) ∧ fm_MR (Q, some Q, Z.2.2) M')) := by
      intro d
      induction d with
      | zero =>
        intro i M1 hi hI
        have hi : i = 3 := by omega
        subst hi
        refine fr_iload_n hB dX9_undo_215 rfl rfl ?_
        refine fr_iconst (v := nI 3) hB dX9_undo_216 (by decide) ?_
        refine fr_icmp_geN (tgt := 256) hB dX9_undo_217 (by decide) (by omega) (by omega) (fun h => ?_) (fun h => ?_)
        · refine fr_lv [some (.ref (fm_rh X 0)), none] ⟨rfl, trivial⟩ ?_
          exact l6 M1 hI
        · exact absurd h (by omega)
      | succ d ih =>
        intro i M1 hi hI
        refine fr_iload_n hB dX9_undo_215 rfl rfl ?_
        refine fr_iconst (v := nI 3) hB dX9_undo_216 (by decide) ?_
        refine fr_icmp_geN (tgt := 256) hB dX9_undo_217 (by decide) (by omega) (by omega) (fun h => ?_) (fun h => ?_)
        · exact absurd h (by omega)
        · refine fr_aload_n hB dX9_undo_220 rfl rfl ?_
          refine fr_getR hB dX9_undo_221 lf_X9_34 rfl rfl ?_
          refine fr_iload_n hB dX9_undo_224 rfl rfl ?_
          refine fr_aload_n hB dX9_undo_225 rfl rfl ?_
          refine fr_getR hB dX9_undo_226 lf_X9_78 rfl rfl ?_
          refine fr_bipush (v := nI 104) hB dX9_undo_229 (by decide) ?_
          refine fr_iload_n hB dX9_undo_231 rfl rfl ?_
          refine fr_iaddN hB dX9_undo_232 ?_
          refine fr_iald hB (_) dX9_undo_233 rfl (rfl) (by omega) (by decide) ?_
          refine fr_eqi (M.1 21 (104 + i)) (congrFun (hI.1 21 (by omega)) _) ?_
          refine fr_iast hB (_) dX9_undo_234 rfl (rfl) (by omega) (by decide) ?_
          refine fr_aload_n hB dX9_undo_235 rfl rfl ?_
          refine fr_getR hB dX9_undo_236 lf_X9_37 rfl rfl ?_
          refine fr_iload_n hB dX9_undo_239 rfl rfl ?_
          refine fr_aload_n hB dX9_undo_240 rfl rfl ?_
          refine fr_getR hB dX9_undo_241 lf_X9_78 rfl rfl ?_
          refine fr_bipush (v := nI 107) hB dX9_undo_244 (by decide) ?_
          refine fr_iload_n hB dX9_undo_246 rfl rfl ?_
          refine fr_iaddN hB dX9_undo_247 ?_
          refine fr_iald hB (_) dX9_undo_248 rfl (rfl) (by omega) (by decide) ?_
          refine fr_eqi (M.1 21 (107 + i)) (congrFun (hI.1 21 (by omega)) _) ?_
          refine fr_iast hB (_) dX9_undo_249 rfl (rfl) (by omega) (by decide) ?_
          refine fr_iincN (b := 1) hB dX9_undo_250 rfl (by decide) (by decide) rfl ?_
          refine fr_goto (tgt := 215) hB dX9_undo_253 (by decide) ?_
          exact ih (i + 1) _ (by omega) hI.s5
    have l4 : ∀ (d i : Nat) (M1 : fm_M), i + d = 16 → fm_un M 6 8 32 i 0 M1 → fm_W shM X 2 186 [some (.ref (fm_rh X 0)), some (.int (nI i))] [] M1 (fm_Q shM X (fun r M' => r = some (.int (nI (Q 3 0))) ∧ fm_MR (Q, some Q, Z.2.2) M')) := by
      intro d
      induction d with
      | zero =>
        intro i M1 hi hI
        have hi : i = 16 := by omega
        subst hi
        refine fr_iload_n hB dX9_undo_186 rfl rfl ?_
        refine fr_bipush (v := nI 16) hB dX9_undo_187 (by decide) ?_
        refine fr_icmp_geN (tgt := 213) hB dX9_undo_189 (by decide) (by omega) (by omega) (fun h => ?_) (fun h => ?_)
        · refine fr_iconst (v := nI 0) hB dX9_undo_213 (by decide) ?_
          refine fr_istore_n hB dX9_undo_214 rfl (by decide) rfl ?_
          exact l5 3 0 M1 (by omega) hI
        · exact absurd h (by omega)
      | succ d ih =>
        intro i M1 hi hI
        refine fr_iload_n hB dX9_undo_186 rfl rfl ?_
        refine fr_bipush (v := nI 16) hB dX9_undo_187 (by decide) ?_
        refine fr_icmp_geN (tgt := 213) hB dX9_undo_189 (by decide) (by omega) (by omega) (fun h => ?_) (fun h => ?_)
        · exact absurd h (by omega)
        · refine fr_aload_n hB dX9_undo_192 rfl rfl ?_
          refine fr_getR hB dX9_undo_193 lf_X9_46 rfl rfl ?_
          refine fr_iload_n hB dX9_undo_196 rfl rfl ?_
          refine fr_aload_n hB dX9_undo_197 rfl rfl ?_
          refine fr_getR hB dX9_undo_198 lf_X9_78 rfl rfl ?_
          refine fr_bipush (v := nI 88) hB dX9_undo_201 (by decide) ?_
          refine fr_iload_n hB dX9_undo_203 rfl rfl ?_
          refine fr_iaddN hB dX9_undo_204 ?_
          refine fr_iald hB (_) dX9_undo_205 rfl (rfl) (by omega) (by decide) ?_
          refine fr_eqi (M.1 21 (88 + i)) (congrFun (hI.1 21 (by omega)) _) ?_
          refine fr_iast hB (_) dX9_undo_206 rfl (rfl) (by omega) (by decide) ?_
          refine fr_iincN (b := 1) hB dX9_undo_207 rfl (by decide) (by decide) rfl ?_
          refine fr_goto (tgt := 186) hB dX9_undo_210 (by decide) ?_
          exact ih (i + 1) _ (by omega) hI.s4
    have l3 : ∀ (d i : Nat) (M1 : fm_M), i + d = 32 → fm_un M 6 8 i 0 0 M1 → fm_W shM X 2 157 [some (.ref (fm_rh X 0)), some (.int (nI i))] [] M1 (fm_Q shM X (fun r M' => r = some (.int (nI (Q 3 0))) ∧ fm_MR (Q, some Q, Z.2.2) M')) := by
      intro d
      induction d with
      | zero =>
        intro i M1 hi hI
        have hi : i = 32 := by omega
        subst hi
        refine fr_iload_n hB dX9_undo_157 rfl rfl ?_
        refine fr_bipush (v := nI 32) hB dX9_undo_158 (by decide) ?_
        refine fr_icmp_geN (tgt := 184) hB dX9_undo_160 (by decide) (by omega) (by omega) (fun h => ?_) (fun h => ?_)
        · refine fr_iconst (v := nI 0) hB dX9_undo_184 (by decide) ?_
          refine fr_istore_n hB dX9_undo_185 rfl (by decide) rfl ?_
          exact l4 16 0 M1 (by omega) hI
        · exact absurd h (by omega)
      | succ d ih =>
        intro i M1 hi hI
        refine fr_iload_n hB dX9_undo_157 rfl rfl ?_
        refine fr_bipush (v := nI 32) hB dX9_undo_158 (by decide) ?_
        refine fr_icmp_geN (tgt := 184) hB dX9_undo_160 (by decide) (by omega) (by omega) (fun h => ?_) (fun h => ?_)
        · exact absurd h (by omega)
        · refine fr_aload_n hB dX9_undo_163 rfl rfl ?_
          refine fr_getR hB dX9_undo_164 lf_X9_27 rfl rfl ?_
          refine fr_iload_n hB dX9_undo_167 rfl rfl ?_
          refine fr_aload_n hB dX9_undo_168 rfl rfl ?_
          refine fr_getR hB dX9_undo_169 lf_X9_78 rfl rfl ?_
          refine fr_bipush (v := nI 56) hB dX9_undo_172 (by decide) ?_
          refine fr_iload_n hB dX9_undo_174 rfl rfl ?_
          refine fr_iaddN hB dX9_undo_175 ?_
          refine fr_iald hB (_) dX9_undo_176 rfl (rfl) (by omega) (by decide) ?_
          refine fr_eqi (M.1 21 (56 + i)) (congrFun (hI.1 21 (by omega)) _) ?_
          refine fr_iast hB (_) dX9_undo_177 rfl (rfl) (by omega) (by decide) ?_
          refine fr_iincN (b := 1) hB dX9_undo_178 rfl (by decide) (by decide) rfl ?_
          refine fr_goto (tgt := 157) hB dX9_undo_181 (by decide) ?_
          exact ih (i + 1) _ (by omega) hI.s3
    have l2 : ∀ (d i : Nat) (M1 : fm_M), i + d = 8 → fm_un M 6 i 0 0 0 M1 → fm_W shM X 2 83 [some (.ref (fm_rh X 0)), some (.int (nI i))] [] M1 (fm_Q shM X (fun r M' => r = some (.int (nI (Q 3 0))) ∧ fm_MR (Q, some Q, Z.2.2) M')) := by
      intro d
      induction d with
      | zero =>
        intro i M1 hi hI
        have hi : i = 8 := by omega
        subst hi
        refine fr_iload_n hB dX9_undo_83 rfl rfl ?_
        refine fr_bipush (v := nI 8) hB dX9_undo_84 (by decide) ?_
        refine fr_icmp_geN (tgt := 155) hB dX9_undo_86 (by decide) (by omega) (by omega) (fun h => ?_) (fun h => ?_)
        · refine fr_iconst (v := nI 0) hB dX9_undo_155 (by decide) ?_
          refine fr_istore_n hB dX9_undo_156 rfl (by decide) rfl ?_
          exact l3 32 0 M1 (by omega) hI
        · exact absurd h (by omega)
      | succ d ih =>
        intro i M1 hi hI
        refine fr_iload_n hB dX9_undo_83 rfl rfl ?_
        refine fr_bipush (v := nI 8) hB dX9_undo_84 (by decide) ?_
        refine fr_icmp_geN (tgt := 155) hB dX9_undo_86 (by decide) (by omega) (by omega) (fun h => ?_) (fun h => ?_)
        · exact absurd h (by omega)
        · refine fr_aload_n hB dX9_undo_89 rfl rfl ?_
          refine fr_getR hB dX9_undo_90 lf_X9_18 rfl rfl ?_
          refine fr_iload_n hB dX9_undo_93 rfl rfl ?_
          refine fr_aload_n hB dX9_undo_94 rfl rfl ?_
          refine fr_getR hB dX9_undo_95 lf_X9_78 rfl rfl ?_
          refine fr_bipush (v := nI 24) hB dX9_undo_98 (by decide) ?_
          refine fr_iload_n hB dX9_undo_100 rfl rfl ?_
          refine fr_iaddN hB dX9_undo_101 ?_
          refine fr_iald hB (_) dX9_undo_102 rfl (rfl) (by omega) (by decide) ?_
          refine fr_eqi (M.1 21 (24 + i)) (congrFun (hI.1 21 (by omega)) _) ?_
          refine fr_iast hB (_) dX9_undo_103 rfl (rfl) (by omega) (by decide) ?_
          refine fr_aload_n hB dX9_undo_104 rfl rfl ?_
          refine fr_getR hB dX9_undo_105 lf_X9_21 rfl rfl ?_
          refine fr_iload_n hB dX9_undo_108 rfl rfl ?_
          refine fr_aload_n hB dX9_undo_109 rfl rfl ?_
          refine fr_getR hB dX9_undo_110 lf_X9_78 rfl rfl ?_
          refine fr_bipush (v := nI 32) hB dX9_undo_113 (by decide) ?_
          refine fr_iload_n hB dX9_undo_115 rfl rfl ?_
          refine fr_iaddN hB dX9_undo_116 ?_
          refine fr_iald hB (_) dX9_undo_117 rfl (rfl) (by omega) (by decide) ?_
          refine fr_eqi (M.1 21 (32 + i)) (congrFun (hI.1 21 (by omega)) _) ?_
          refine fr_iast hB (_) dX9_undo_118 rfl (rfl) (by omega) (by decide) ?_
          refine fr_aload_n hB dX9_undo_119 rfl rfl ?_
          refine fr_getR hB dX9_undo_120 lf_X9_24 rfl rfl ?_
          refine fr_iload_n hB dX9_undo_123 rfl rfl ?_
          refine fr_aload_n hB dX9_undo_124 rfl rfl ?_
          refine fr_getR hB dX9_undo_125 lf_X9_78 rfl rfl ?_
          refine fr_bipush (v := nI 40) hB dX9_undo_128 (by decide) ?_
          refine fr_iload_n hB dX9_undo_130 rfl rfl ?_
          refine fr_iaddN hB dX9_undo_131 ?_
          refine fr_iald hB (_) dX9_undo_132 rfl (rfl) (by omega) (by decide) ?_
          refine fr_eqi (M.1 21 (40 + i)) (congrFun (hI.1 21 (by omega)) _) ?_
          refine fr_iast hB (_) dX9_undo_133 rfl (rfl) (by omega) (by decide) ?_
          refine fr_aload_n hB dX9_undo_134 rfl rfl ?_
          refine fr_getR hB dX9_undo_135 lf_X9_49 rfl rfl ?_
          refine fr_iload_n hB dX9_undo_138 rfl rfl ?_
          refine fr_aload_n hB dX9_undo_139 rfl rfl ?_
          refine fr_getR hB dX9_undo_140 lf_X9_78 rfl rfl ?_
          refine fr_bipush (v := nI 48) hB dX9_undo_143 (by decide) ?_
          refine fr_iload_n hB dX9_undo_145 rfl rfl ?_
          refine fr_iaddN hB dX9_undo_146 ?_
          refine fr_iald hB (_) dX9_undo_147 rfl (rfl) (by omega) (by decide) ?_
          refine fr_eqi (M.1 21 (48 + i)) (congrFun (hI.1 21 (by omega)) _) ?_
          refine fr_iast hB (_) dX9_undo_148 rfl (rfl) (by omega) (by decide) ?_
          refine fr_iincN (b := 1) hB dX9_undo_149 rfl (by decide) (by decide) rfl ?_
          refine fr_goto (tgt := 83) hB dX9_undo_152 (by decide) ?_
          exact ih (i + 1) _ (by omega) hI.s2
    have l1 : ∀ (d i : Nat) (M1 : fm_M), i + d = 6 → fm_un M i 0 0 0 0 M1 → fm_W shM X 2 12 [some (.ref (fm_rh X 0)), some (.int (nI i))] [] M1 (fm_Q shM X (fun r M' => r = some (.int (nI (Q 3 0))) ∧ fm_MR (Q, some Q, Z.2.2) M')) := by
      intro d
      induction d with
      | zero =>
        intro i M1 hi hI
        have hi : i = 6 := by omega
        subst hi
        refine fr_iload_n hB dX9_undo_12 rfl rfl ?_
        refine fr_bipush (v := nI 6) hB dX9_undo_13 (by decide) ?_
        refine fr_icmp_geN (tgt := 81) hB dX9_undo_15 (by decide) (by omega) (by omega) (fun h => ?_) (fun h => ?_)
        · refine fr_iconst (v := nI 0) hB dX9_undo_81 (by decide) ?_
          refine fr_istore_n hB dX9_undo_82 rfl (by decide) rfl ?_
          exact l2 8 0 M1 (by omega) hI
        · exact absurd h (by omega)
      | succ d ih =>
        intro i M1 hi hI
        refine fr_iload_n hB dX9_undo_12 rfl rfl ?_
        refine fr_bipush (v := nI 6) hB dX9_undo_13 (by decide) ?_
        refine fr_icmp_geN (tgt := 81) hB dX9_undo_15 (by decide) (by omega) (by omega) (fun h => ?_) (fun h => ?_)
        · exact absurd h (by omega)
        · refine fr_aload_n hB dX9_undo_18 rfl rfl ?_
          refine fr_getR hB dX9_undo_19 lf_X9_9 rfl rfl ?_
          refine fr_iload_n hB dX9_undo_22 rfl rfl ?_
          refine fr_aload_n hB dX9_undo_23 rfl rfl ?_
          refine fr_getR hB dX9_undo_24 lf_X9_78 rfl rfl ?_
          refine fr_iload_n hB dX9_undo_27 rfl rfl ?_
          refine fr_iald hB (_) dX9_undo_28 rfl (rfl) (by omega) (by decide) ?_
          refine fr_eqi (M.1 21 (i)) (congrFun (hI.1 21 (by omega)) _) ?_
          refine fr_iast hB (_) dX9_undo_29 rfl (rfl) (by omega) (by decide) ?_
          refine fr_aload_n hB dX9_undo_30 rfl rfl ?_
          refine fr_getR hB dX9_undo_31 lf_X9_15 rfl rfl ?_
          refine fr_iload_n hB dX9_undo_34 rfl rfl ?_
          refine fr_aload_n hB dX9_undo_35 rfl rfl ?_
          refine fr_getR hB dX9_undo_36 lf_X9_78 rfl rfl ?_
          refine fr_bipush (v := nI 6) hB dX9_undo_39 (by decide) ?_
          refine fr_iload_n hB dX9_undo_41 rfl rfl ?_
          refine fr_iaddN hB dX9_undo_42 ?_
          refine fr_iald hB (_) dX9_undo_43 rfl (rfl) (by omega) (by decide) ?_
          refine fr_eqi (M.1 21 (6 + i)) (congrFun (hI.1 21 (by omega)) _) ?_
          refine fr_iast hB (_) dX9_undo_44 rfl (rfl) (by omega) (by decide) ?_
          refine fr_aload_n hB dX9_undo_45 rfl rfl ?_
          refine fr_getR hB dX9_undo_46 lf_X9_40 rfl rfl ?_
          refine fr_iload_n hB dX9_undo_49 rfl rfl ?_
          refine fr_aload_n hB dX9_undo_50 rfl rfl ?_
          refine fr_getR hB dX9_undo_51 lf_X9_78 rfl rfl ?_
          refine fr_bipush (v := nI 12) hB dX9_undo_54 (by decide) ?_
          refine fr_iload_n hB dX9_undo_56 rfl rfl ?_
          refine fr_iaddN hB dX9_undo_57 ?_
          refine fr_iald hB (_) dX9_undo_58 rfl (rfl) (by omega) (by decide) ?_
          refine fr_eqi (M.1 21 (12 + i)) (congrFun (hI.1 21 (by omega)) _) ?_
          refine fr_iast hB (_) dX9_undo_59 rfl (rfl) (by omega) (by decide) ?_
          refine fr_aload_n hB dX9_undo_60 rfl rfl ?_
          refine fr_getR hB dX9_undo_61 lf_X9_43 rfl rfl ?_
          refine fr_iload_n hB dX9_undo_64 rfl rfl ?_
          refine fr_aload_n hB dX9_undo_65 rfl rfl ?_
          refine fr_getR hB dX9_undo_66 lf_X9_78 rfl rfl ?_
          refine fr_bipush (v := nI 18) hB dX9_undo_69 (by decide) ?_
          refine fr_iload_n hB dX9_undo_71 rfl rfl ?_
          refine fr_iaddN hB dX9_undo_72 ?_
          refine fr_iald hB (_) dX9_undo_73 rfl (rfl) (by omega) (by decide) ?_
          refine fr_eqi (M.1 21 (18 + i)) (congrFun (hI.1 21 (by omega)) _) ?_
          refine fr_iast hB (_) dX9_undo_74 rfl (rfl) (by omega) (by decide) ?_
          refine fr_iincN (b := 1) hB dX9_undo_75 rfl (by decide) (by decide) rfl ?_
          refine fr_goto (tgt := 12) hB dX9_undo_78 (by decide) ?_
          exact ih (i + 1) _ (by omega) hI.s1
    refine fr_aload_n hB dX9_undo_0 rfl rfl ?_
    refine fr_getI hB dX9_undo_1 lf_X9_287 rfl rfl ?_
    refine fr_eqi (nI (1)) (hI0) ?_
    refine fr_if_neN (tgt := 10) hB dX9_undo_4 (by decide) (by omega) (fun h => ?_) (fun h => ?_)
    · refine fr_iconst (v := nI 0) hB dX9_undo_10 (by decide) ?_
      refine fr_istore_n hB dX9_undo_11 rfl (by decide) rfl ?_
      exact l1 6 0 M (by omega) ⟨fun b hb => rfl, rfl, rfl, fun p hp => absurd hp (by omega), fun p hp => absurd hp (by omega), fun p hp => absurd hp (by omega), fun p hp => absurd hp (by omega), fun p hp => absurd hp (by omega)⟩
    · exact absurd h (by omega)
