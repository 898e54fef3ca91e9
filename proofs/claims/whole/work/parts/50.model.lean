/-! ===== the reference in the memory: its plant; what is seen, events, the book; image, text, tapes ===== -/
def fm_NP (P : fm_P) (M : fm_M) : Prop := M.1 0 0 = nI (P 0 0) ∧ (∀ j, j < 6 → M.1 1 j = nI (P 1 j)) ∧ (∀ j, j < 6 → M.1 2 j = nI (P 2 j)) ∧ M.1 0 3 = nI (P 3 0) ∧ (∀ j, j < 8 → M.1 3 j = nI (P 4 j)) ∧ (∀ j, j < 8 → M.1 4 j = nI (P 5 j)) ∧ (∀ j, j < 8 → M.1 5 j = nI (P 6 j)) ∧ (∀ j, j < 32 → M.1 6 j = nI (P 7 j)) ∧ M.1 0 8 = nI (P 8 0) - 1 ∧ M.1 0 9 = nI (P 9 0) ∧ (∀ j, j < 3 → M.1 7 j = nI (P 10 j)) ∧ (∀ j, j < 3 → M.1 8 j = nI (P 11 j))
def fm_NR (P : fm_P) (M : fm_M) : Prop := fm_NP P M ∧ M.1 0 12 = nI (P 12 0) ∧ (∀ j, j < P 12 0 → M.1 9 j = nI (P 13 j)) ∧ (∀ j, j < P 12 0 → M.1 10 j = nI (P 14 j)) ∧ M.1 0 15 = nI (P 15 0) ∧ (∀ j, j < P 15 0 → M.1 11 (2 * j) = nI (P 16 j)) ∧ (∀ j, j < P 15 0 → M.1 11 (2 * j + 1) = nI (P 17 j)) ∧ M.1 0 17 = nI (P 18 0) ∧ (∀ j, j < P 18 0 → M.1 12 j = nI (P 19 j))
theorem fm_NP.parts {P : fm_P} {M : fm_M} (h : fm_NP P M) : M.1 0 0 = nI (P 0 0) := h.1
theorem fm_NP.odds {P : fm_P} {M : fm_M} (h : fm_NP P M) : (∀ j, j < 6 → M.1 1 j = nI (P 1 j)) := h.2.1
theorem fm_NP.order {P : fm_P} {M : fm_M} (h : fm_NP P M) : (∀ j, j < 6 → M.1 2 j = nI (P 2 j)) := h.2.2.1
theorem fm_NP.gates {P : fm_P} {M : fm_M} (h : fm_NP P M) : M.1 0 3 = nI (P 3 0) := h.2.2.2.1
theorem fm_NP.kind {P : fm_P} {M : fm_M} (h : fm_NP P M) : (∀ j, j < 8 → M.1 3 j = nI (P 4 j)) := h.2.2.2.2.1
theorem fm_NP.need {P : fm_P} {M : fm_M} (h : fm_NP P M) : (∀ j, j < 8 → M.1 4 j = nI (P 5 j)) := h.2.2.2.2.2.1
theorem fm_NP.cnt {P : fm_P} {M : fm_M} (h : fm_NP P M) : (∀ j, j < 8 → M.1 5 j = nI (P 6 j)) := h.2.2.2.2.2.2.1
theorem fm_NP.inp {P : fm_P} {M : fm_M} (h : fm_NP P M) : (∀ j, j < 32 → M.1 6 j = nI (P 7 j)) := h.2.2.2.2.2.2.2.1
theorem fm_NP.top {P : fm_P} {M : fm_M} (h : fm_NP P M) : M.1 0 8 = nI (P 8 0) - 1 := h.2.2.2.2.2.2.2.2.1
theorem fm_NP.causes {P : fm_P} {M : fm_M} (h : fm_NP P M) : M.1 0 9 = nI (P 9 0) := h.2.2.2.2.2.2.2.2.2.1
theorem fm_NP.codds {P : fm_P} {M : fm_M} (h : fm_NP P M) : (∀ j, j < 3 → M.1 7 j = nI (P 10 j)) := h.2.2.2.2.2.2.2.2.2.2.1
theorem fm_NP.cbits {P : fm_P} {M : fm_M} (h : fm_NP P M) : (∀ j, j < 3 → M.1 8 j = nI (P 11 j)) := h.2.2.2.2.2.2.2.2.2.2.2
theorem fm_NR.pl {P : fm_P} {M : fm_M} (h : fm_NR P M) : fm_NP P M := h.1
theorem fm_NR.r12 {P : fm_P} {M : fm_M} (h : fm_NR P M) : M.1 0 12 = nI (P 12 0) := h.2.1
theorem fm_NR.r13 {P : fm_P} {M : fm_M} (h : fm_NR P M) : (∀ j, j < P 12 0 → M.1 9 j = nI (P 13 j)) := h.2.2.1
theorem fm_NR.r14 {P : fm_P} {M : fm_M} (h : fm_NR P M) : (∀ j, j < P 12 0 → M.1 10 j = nI (P 14 j)) := h.2.2.2.1
theorem fm_NR.r15 {P : fm_P} {M : fm_M} (h : fm_NR P M) : M.1 0 15 = nI (P 15 0) := h.2.2.2.2.1
theorem fm_NR.r16 {P : fm_P} {M : fm_M} (h : fm_NR P M) : (∀ j, j < P 15 0 → M.1 11 (2 * j) = nI (P 16 j)) := h.2.2.2.2.2.1
theorem fm_NR.r17 {P : fm_P} {M : fm_M} (h : fm_NR P M) : (∀ j, j < P 15 0 → M.1 11 (2 * j + 1) = nI (P 17 j)) := h.2.2.2.2.2.2.1
theorem fm_NR.r18 {P : fm_P} {M : fm_M} (h : fm_NR P M) : M.1 0 17 = nI (P 18 0) := h.2.2.2.2.2.2.2.1
theorem fm_NR.r19 {P : fm_P} {M : fm_M} (h : fm_NR P M) : (∀ j, j < P 18 0 → M.1 12 j = nI (P 19 j)) := h.2.2.2.2.2.2.2.2
theorem fm_NP.kept {P : fm_P} {M M' : fm_M} (h : fm_NP P M) (e : ∀ a, 1 ≤ a → a < 9 → M'.1 a = M.1 a) (e0 : ∀ j, j < 10 → M'.1 0 j = M.1 0 j) : fm_NP P M' := by
  obtain ⟨hparts, hodds, horder, hgates, hkind, hneed, hcnt, hinp, htop, hcauses, hcodds, hcbits⟩ := h
  refine ⟨?_, ?_, ?_, ?_, ?_, ?_, ?_, ?_, ?_, ?_, ?_, ?_⟩
  · rw [e0 0 (by omega)]; exact hparts
  · rw [e 1 (by omega) (by omega)]; exact hodds
  · rw [e 2 (by omega) (by omega)]; exact horder
  · rw [e0 3 (by omega)]; exact hgates
  · rw [e 3 (by omega) (by omega)]; exact hkind
  · rw [e 4 (by omega) (by omega)]; exact hneed
  · rw [e 5 (by omega) (by omega)]; exact hcnt
  · rw [e 6 (by omega) (by omega)]; exact hinp
  · rw [e0 8 (by omega)]; exact htop
  · rw [e0 9 (by omega)]; exact hcauses
  · rw [e 7 (by omega) (by omega)]; exact hcodds
  · rw [e 8 (by omega) (by omega)]; exact hcbits
theorem fm_NR.kept {P : fm_P} {M M' : fm_M} (h : fm_NR P M) (e : ∀ a, 1 ≤ a → a < 13 → M'.1 a = M.1 a) (e0 : ∀ j, j < 18 → M'.1 0 j = M.1 0 j) : fm_NR P M' := by
  obtain ⟨hp, hr12, hr13, hr14, hr15, hr16, hr17, hr18, hr19⟩ := h
  refine ⟨hp.kept (fun a h1 h2 => e a h1 (by omega)) (fun j hj => e0 j (by omega)), ?_, ?_, ?_, ?_, ?_, ?_, ?_, ?_⟩
  · rw [e0 12 (by omega)]; exact hr12
  · rw [e 9 (by omega) (by omega)]; exact hr13
  · rw [e 10 (by omega) (by omega)]; exact hr14
  · rw [e0 15 (by omega)]; exact hr15
  · rw [e 11 (by omega) (by omega)]; exact hr16
  · rw [e 11 (by omega) (by omega)]; exact hr17
  · rw [e0 17 (by omega)]; exact hr18
  · rw [e 12 (by omega) (by omega)]; exact hr19
theorem fm_NP.u_parts {P : fm_P} {M : fm_M} (h : fm_NP P M) {v : Nat} : fm_NP (fm_u P 0 0 v) (fm_pi M 0 0 (nI v)) := by
  obtain ⟨hparts, hodds, horder, hgates, hkind, hneed, hcnt, hinp, htop, hcauses, hcodds, hcbits⟩ := h
  refine ⟨?_, ?_, ?_, ?_, ?_, ?_, ?_, ?_, ?_, ?_, ?_, ?_⟩
  · simp [fm_u_at]
  · intro j hj; simpa [fm_u_at] using hodds j hj
  · intro j hj; simpa [fm_u_at] using horder j hj
  · simpa [fm_u_at] using hgates
  · intro j hj; simpa [fm_u_at] using hkind j hj
  · intro j hj; simpa [fm_u_at] using hneed j hj
  · intro j hj; simpa [fm_u_at] using hcnt j hj
  · intro j hj; simpa [fm_u_at] using hinp j hj
  · simpa [fm_u_at] using htop
  · simpa [fm_u_at] using hcauses
  · intro j hj; simpa [fm_u_at] using hcodds j hj
  · intro j hj; simpa [fm_u_at] using hcbits j hj
theorem fm_NR.u_parts {P : fm_P} {M : fm_M} (h : fm_NR P M) {v : Nat} : fm_NR (fm_u P 0 0 v) (fm_pi M 0 0 (nI v)) := by
  obtain ⟨hp, hr12, hr13, hr14, hr15, hr16, hr17, hr18, hr19⟩ := h
  refine ⟨hp.u_parts, ?_, ?_, ?_, ?_, ?_, ?_, ?_, ?_⟩
  · simpa [fm_u_at] using hr12
  · intro j hj; simp only [fm_u_at]; simpa [fm_u_at] using hr13 j (by simpa [fm_u_at] using hj)
  · intro j hj; simp only [fm_u_at]; simpa [fm_u_at] using hr14 j (by simpa [fm_u_at] using hj)
  · simpa [fm_u_at] using hr15
  · intro j hj; simp only [fm_u_at]; simpa [fm_u_at] using hr16 j (by simpa [fm_u_at] using hj)
  · intro j hj; simp only [fm_u_at]; simpa [fm_u_at] using hr17 j (by simpa [fm_u_at] using hj)
  · simpa [fm_u_at] using hr18
  · intro j hj; simp only [fm_u_at]; simpa [fm_u_at] using hr19 j (by simpa [fm_u_at] using hj)
theorem fm_NP.u_odds {P : fm_P} {M : fm_M} (h : fm_NP P M) {i v : Nat} : fm_NP (fm_u P 1 i v) (fm_pi M 1 i (nI v)) := by
  obtain ⟨hparts, hodds, horder, hgates, hkind, hneed, hcnt, hinp, htop, hcauses, hcodds, hcbits⟩ := h
  refine ⟨?_, ?_, ?_, ?_, ?_, ?_, ?_, ?_, ?_, ?_, ?_, ?_⟩
  · simpa [fm_u_at] using hparts
  · intro j hj
    by_cases e : j = i
    · simp [fm_u_at, e]
    · simpa [fm_u_at, e] using hodds j hj
  · intro j hj; simpa [fm_u_at] using horder j hj
  · simpa [fm_u_at] using hgates
  · intro j hj; simpa [fm_u_at] using hkind j hj
  · intro j hj; simpa [fm_u_at] using hneed j hj
  · intro j hj; simpa [fm_u_at] using hcnt j hj
  · intro j hj; simpa [fm_u_at] using hinp j hj
  · simpa [fm_u_at] using htop
  · simpa [fm_u_at] using hcauses
  · intro j hj; simpa [fm_u_at] using hcodds j hj
  · intro j hj; simpa [fm_u_at] using hcbits j hj
theorem fm_NR.u_odds {P : fm_P} {M : fm_M} (h : fm_NR P M) {i v : Nat} : fm_NR (fm_u P 1 i v) (fm_pi M 1 i (nI v)) := by
  obtain ⟨hp, hr12, hr13, hr14, hr15, hr16, hr17, hr18, hr19⟩ := h
  refine ⟨hp.u_odds, ?_, ?_, ?_, ?_, ?_, ?_, ?_, ?_⟩
  · simpa [fm_u_at] using hr12
  · intro j hj; simp only [fm_u_at]; simpa [fm_u_at] using hr13 j (by simpa [fm_u_at] using hj)
  · intro j hj; simp only [fm_u_at]; simpa [fm_u_at] using hr14 j (by simpa [fm_u_at] using hj)
  · simpa [fm_u_at] using hr15
  · intro j hj; simp only [fm_u_at]; simpa [fm_u_at] using hr16 j (by simpa [fm_u_at] using hj)
  · intro j hj; simp only [fm_u_at]; simpa [fm_u_at] using hr17 j (by simpa [fm_u_at] using hj)
  · simpa [fm_u_at] using hr18
  · intro j hj; simp only [fm_u_at]; simpa [fm_u_at] using hr19 j (by simpa [fm_u_at] using hj)
theorem fm_NP.u_order {P : fm_P} {M : fm_M} (h : fm_NP P M) {i v : Nat} : fm_NP (fm_u P 2 i v) (fm_pi M 2 i (nI v)) := by
  obtain ⟨hparts, hodds, horder, hgates, hkind, hneed, hcnt, hinp, htop, hcauses, hcodds, hcbits⟩ := h
  refine ⟨?_, ?_, ?_, ?_, ?_, ?_, ?_, ?_, ?_, ?_, ?_, ?_⟩
  · simpa [fm_u_at] using hparts
  · intro j hj; simpa [fm_u_at] using hodds j hj
  · intro j hj
    by_cases e : j = i
    · simp [fm_u_at, e]
    · simpa [fm_u_at, e] using horder j hj
  · simpa [fm_u_at] using hgates
  · intro j hj; simpa [fm_u_at] using hkind j hj
  · intro j hj; simpa [fm_u_at] using hneed j hj
  · intro j hj; simpa [fm_u_at] using hcnt j hj
  · intro j hj; simpa [fm_u_at] using hinp j hj
  · simpa [fm_u_at] using htop
  · simpa [fm_u_at] using hcauses
  · intro j hj; simpa [fm_u_at] using hcodds j hj
  · intro j hj; simpa [fm_u_at] using hcbits j hj
theorem fm_NR.u_order {P : fm_P} {M : fm_M} (h : fm_NR P M) {i v : Nat} : fm_NR (fm_u P 2 i v) (fm_pi M 2 i (nI v)) := by
  obtain ⟨hp, hr12, hr13, hr14, hr15, hr16, hr17, hr18, hr19⟩ := h
  refine ⟨hp.u_order, ?_, ?_, ?_, ?_, ?_, ?_, ?_, ?_⟩
  · simpa [fm_u_at] using hr12
  · intro j hj; simp only [fm_u_at]; simpa [fm_u_at] using hr13 j (by simpa [fm_u_at] using hj)
  · intro j hj; simp only [fm_u_at]; simpa [fm_u_at] using hr14 j (by simpa [fm_u_at] using hj)
  · simpa [fm_u_at] using hr15
  · intro j hj; simp only [fm_u_at]; simpa [fm_u_at] using hr16 j (by simpa [fm_u_at] using hj)
  · intro j hj; simp only [fm_u_at]; simpa [fm_u_at] using hr17 j (by simpa [fm_u_at] using hj)
  · simpa [fm_u_at] using hr18
  · intro j hj; simp only [fm_u_at]; simpa [fm_u_at] using hr19 j (by simpa [fm_u_at] using hj)
theorem fm_NP.u_gates {P : fm_P} {M : fm_M} (h : fm_NP P M) {v : Nat} : fm_NP (fm_u P 3 0 v) (fm_pi M 0 3 (nI v)) := by
  obtain ⟨hparts, hodds, horder, hgates, hkind, hneed, hcnt, hinp, htop, hcauses, hcodds, hcbits⟩ := h
  refine ⟨?_, ?_, ?_, ?_, ?_, ?_, ?_, ?_, ?_, ?_, ?_, ?_⟩
  · simpa [fm_u_at] using hparts
  · intro j hj; simpa [fm_u_at] using hodds j hj
  · intro j hj; simpa [fm_u_at] using horder j hj
  · simp [fm_u_at]
  · intro j hj; simpa [fm_u_at] using hkind j hj
  · intro j hj; simpa [fm_u_at] using hneed j hj
  · intro j hj; simpa [fm_u_at] using hcnt j hj
  · intro j hj; simpa [fm_u_at] using hinp j hj
  · simpa [fm_u_at] using htop
  · simpa [fm_u_at] using hcauses
  · intro j hj; simpa [fm_u_at] using hcodds j hj
  · intro j hj; simpa [fm_u_at] using hcbits j hj
theorem fm_NR.u_gates {P : fm_P} {M : fm_M} (h : fm_NR P M) {v : Nat} : fm_NR (fm_u P 3 0 v) (fm_pi M 0 3 (nI v)) := by
  obtain ⟨hp, hr12, hr13, hr14, hr15, hr16, hr17, hr18, hr19⟩ := h
  refine ⟨hp.u_gates, ?_, ?_, ?_, ?_, ?_, ?_, ?_, ?_⟩
  · simpa [fm_u_at] using hr12
  · intro j hj; simp only [fm_u_at]; simpa [fm_u_at] using hr13 j (by simpa [fm_u_at] using hj)
  · intro j hj; simp only [fm_u_at]; simpa [fm_u_at] using hr14 j (by simpa [fm_u_at] using hj)
  · simpa [fm_u_at] using hr15
  · intro j hj; simp only [fm_u_at]; simpa [fm_u_at] using hr16 j (by simpa [fm_u_at] using hj)
  · intro j hj; simp only [fm_u_at]; simpa [fm_u_at] using hr17 j (by simpa [fm_u_at] using hj)
  · simpa [fm_u_at] using hr18
  · intro j hj; simp only [fm_u_at]; simpa [fm_u_at] using hr19 j (by simpa [fm_u_at] using hj)
theorem fm_NP.u_kind {P : fm_P} {M : fm_M} (h : fm_NP P M) {i v : Nat} : fm_NP (fm_u P 4 i v) (fm_pi M 3 i (nI v)) := by
  obtain ⟨hparts, hodds, horder, hgates, hkind, hneed, hcnt, hinp, htop, hcauses, hcodds, hcbits⟩ := h
  refine ⟨?_, ?_, ?_, ?_, ?_, ?_, ?_, ?_, ?_, ?_, ?_, ?_⟩
  · simpa [fm_u_at] using hparts
  · intro j hj; simpa [fm_u_at] using hodds j hj
  · intro j hj; simpa [fm_u_at] using horder j hj
  · simpa [fm_u_at] using hgates
  · intro j hj
    by_cases e : j = i
    · simp [fm_u_at, e]
    · simpa [fm_u_at, e] using hkind j hj
  · intro j hj; simpa [fm_u_at] using hneed j hj
  · intro j hj; simpa [fm_u_at] using hcnt j hj
  · intro j hj; simpa [fm_u_at] using hinp j hj
  · simpa [fm_u_at] using htop
  · simpa [fm_u_at] using hcauses
  · intro j hj; simpa [fm_u_at] using hcodds j hj
  · intro j hj; simpa [fm_u_at] using hcbits j hj
theorem fm_NR.u_kind {P : fm_P} {M : fm_M} (h : fm_NR P M) {i v : Nat} : fm_NR (fm_u P 4 i v) (fm_pi M 3 i (nI v)) := by
  obtain ⟨hp, hr12, hr13, hr14, hr15, hr16, hr17, hr18, hr19⟩ := h
  refine ⟨hp.u_kind, ?_, ?_, ?_, ?_, ?_, ?_, ?_, ?_⟩
  · simpa [fm_u_at] using hr12
  · intro j hj; simp only [fm_u_at]; simpa [fm_u_at] using hr13 j (by simpa [fm_u_at] using hj)
  · intro j hj; simp only [fm_u_at]; simpa [fm_u_at] using hr14 j (by simpa [fm_u_at] using hj)
  · simpa [fm_u_at] using hr15
  · intro j hj; simp only [fm_u_at]; simpa [fm_u_at] using hr16 j (by simpa [fm_u_at] using hj)
  · intro j hj; simp only [fm_u_at]; simpa [fm_u_at] using hr17 j (by simpa [fm_u_at] using hj)
  · simpa [fm_u_at] using hr18
  · intro j hj; simp only [fm_u_at]; simpa [fm_u_at] using hr19 j (by simpa [fm_u_at] using hj)
theorem fm_NP.u_need {P : fm_P} {M : fm_M} (h : fm_NP P M) {i v : Nat} : fm_NP (fm_u P 5 i v) (fm_pi M 4 i (nI v)) := by
  obtain ⟨hparts, hodds, horder, hgates, hkind, hneed, hcnt, hinp, htop, hcauses, hcodds, hcbits⟩ := h
  refine ⟨?_, ?_, ?_, ?_, ?_, ?_, ?_, ?_, ?_, ?_, ?_, ?_⟩
  · simpa [fm_u_at] using hparts
  · intro j hj; simpa [fm_u_at] using hodds j hj
  · intro j hj; simpa [fm_u_at] using horder j hj
  · simpa [fm_u_at] using hgates
  · intro j hj; simpa [fm_u_at] using hkind j hj
  · intro j hj
    by_cases e : j = i
    · simp [fm_u_at, e]
    · simpa [fm_u_at, e] using hneed j hj
  · intro j hj; simpa [fm_u_at] using hcnt j hj
  · intro j hj; simpa [fm_u_at] using hinp j hj
  · simpa [fm_u_at] using htop
  · simpa [fm_u_at] using hcauses
  · intro j hj; simpa [fm_u_at] using hcodds j hj
  · intro j hj; simpa [fm_u_at] using hcbits j hj
theorem fm_NR.u_need {P : fm_P} {M : fm_M} (h : fm_NR P M) {i v : Nat} : fm_NR (fm_u P 5 i v) (fm_pi M 4 i (nI v)) := by
  obtain ⟨hp, hr12, hr13, hr14, hr15, hr16, hr17, hr18, hr19⟩ := h
  refine ⟨hp.u_need, ?_, ?_, ?_, ?_, ?_, ?_, ?_, ?_⟩
  · simpa [fm_u_at] using hr12
  · intro j hj; simp only [fm_u_at]; simpa [fm_u_at] using hr13 j (by simpa [fm_u_at] using hj)
  · intro j hj; simp only [fm_u_at]; simpa [fm_u_at] using hr14 j (by simpa [fm_u_at] using hj)
  · simpa [fm_u_at] using hr15
  · intro j hj; simp only [fm_u_at]; simpa [fm_u_at] using hr16 j (by simpa [fm_u_at] using hj)
  · intro j hj; simp only [fm_u_at]; simpa [fm_u_at] using hr17 j (by simpa [fm_u_at] using hj)
  · simpa [fm_u_at] using hr18
  · intro j hj; simp only [fm_u_at]; simpa [fm_u_at] using hr19 j (by simpa [fm_u_at] using hj)
theorem fm_NP.u_cnt {P : fm_P} {M : fm_M} (h : fm_NP P M) {i v : Nat} : fm_NP (fm_u P 6 i v) (fm_pi M 5 i (nI v)) := by
  obtain ⟨hparts, hodds, horder, hgates, hkind, hneed, hcnt, hinp, htop, hcauses, hcodds, hcbits⟩ := h
  refine ⟨?_, ?_, ?_, ?_, ?_, ?_, ?_, ?_, ?_, ?_, ?_, ?_⟩
  · simpa [fm_u_at] using hparts
  · intro j hj; simpa [fm_u_at] using hodds j hj
  · intro j hj; simpa [fm_u_at] using horder j hj
  · simpa [fm_u_at] using hgates
  · intro j hj; simpa [fm_u_at] using hkind j hj
  · intro j hj; simpa [fm_u_at] using hneed j hj
  · intro j hj
    by_cases e : j = i
    · simp [fm_u_at, e]
    · simpa [fm_u_at, e] using hcnt j hj
  · intro j hj; simpa [fm_u_at] using hinp j hj
  · simpa [fm_u_at] using htop
  · simpa [fm_u_at] using hcauses
  · intro j hj; simpa [fm_u_at] using hcodds j hj
  · intro j hj; simpa [fm_u_at] using hcbits j hj
theorem fm_NR.u_cnt {P : fm_P} {M : fm_M} (h : fm_NR P M) {i v : Nat} : fm_NR (fm_u P 6 i v) (fm_pi M 5 i (nI v)) := by
  obtain ⟨hp, hr12, hr13, hr14, hr15, hr16, hr17, hr18, hr19⟩ := h
  refine ⟨hp.u_cnt, ?_, ?_, ?_, ?_, ?_, ?_, ?_, ?_⟩
  · simpa [fm_u_at] using hr12
  · intro j hj; simp only [fm_u_at]; simpa [fm_u_at] using hr13 j (by simpa [fm_u_at] using hj)
  · intro j hj; simp only [fm_u_at]; simpa [fm_u_at] using hr14 j (by simpa [fm_u_at] using hj)
  · simpa [fm_u_at] using hr15
  · intro j hj; simp only [fm_u_at]; simpa [fm_u_at] using hr16 j (by simpa [fm_u_at] using hj)
  · intro j hj; simp only [fm_u_at]; simpa [fm_u_at] using hr17 j (by simpa [fm_u_at] using hj)
  · simpa [fm_u_at] using hr18
  · intro j hj; simp only [fm_u_at]; simpa [fm_u_at] using hr19 j (by simpa [fm_u_at] using hj)
theorem fm_NP.u_inp {P : fm_P} {M : fm_M} (h : fm_NP P M) {i v : Nat} : fm_NP (fm_u P 7 i v) (fm_pi M 6 i (nI v)) := by
  obtain ⟨hparts, hodds, horder, hgates, hkind, hneed, hcnt, hinp, htop, hcauses, hcodds, hcbits⟩ := h
  refine ⟨?_, ?_, ?_, ?_, ?_, ?_, ?_, ?_, ?_, ?_, ?_, ?_⟩
  · simpa [fm_u_at] using hparts
  · intro j hj; simpa [fm_u_at] using hodds j hj
  · intro j hj; simpa [fm_u_at] using horder j hj
  · simpa [fm_u_at] using hgates
  · intro j hj; simpa [fm_u_at] using hkind j hj
  · intro j hj; simpa [fm_u_at] using hneed j hj
  · intro j hj; simpa [fm_u_at] using hcnt j hj
  · intro j hj
    by_cases e : j = i
    · simp [fm_u_at, e]
    · simpa [fm_u_at, e] using hinp j hj
  · simpa [fm_u_at] using htop
  · simpa [fm_u_at] using hcauses
  · intro j hj; simpa [fm_u_at] using hcodds j hj
  · intro j hj; simpa [fm_u_at] using hcbits j hj
theorem fm_NR.u_inp {P : fm_P} {M : fm_M} (h : fm_NR P M) {i v : Nat} : fm_NR (fm_u P 7 i v) (fm_pi M 6 i (nI v)) := by
  obtain ⟨hp, hr12, hr13, hr14, hr15, hr16, hr17, hr18, hr19⟩ := h
  refine ⟨hp.u_inp, ?_, ?_, ?_, ?_, ?_, ?_, ?_, ?_⟩
  · simpa [fm_u_at] using hr12
  · intro j hj; simp only [fm_u_at]; simpa [fm_u_at] using hr13 j (by simpa [fm_u_at] using hj)
  · intro j hj; simp only [fm_u_at]; simpa [fm_u_at] using hr14 j (by simpa [fm_u_at] using hj)
  · simpa [fm_u_at] using hr15
  · intro j hj; simp only [fm_u_at]; simpa [fm_u_at] using hr16 j (by simpa [fm_u_at] using hj)
  · intro j hj; simp only [fm_u_at]; simpa [fm_u_at] using hr17 j (by simpa [fm_u_at] using hj)
  · simpa [fm_u_at] using hr18
  · intro j hj; simp only [fm_u_at]; simpa [fm_u_at] using hr19 j (by simpa [fm_u_at] using hj)
theorem fm_NP.u_top {P : fm_P} {M : fm_M} (h : fm_NP P M) {v : Nat} : fm_NP (fm_u P 8 0 v) (fm_pi M 0 8 (nI v - 1)) := by
  obtain ⟨hparts, hodds, horder, hgates, hkind, hneed, hcnt, hinp, htop, hcauses, hcodds, hcbits⟩ := h
  refine ⟨?_, ?_, ?_, ?_, ?_, ?_, ?_, ?_, ?_, ?_, ?_, ?_⟩
  · simpa [fm_u_at] using hparts
  · intro j hj; simpa [fm_u_at] using hodds j hj
  · intro j hj; simpa [fm_u_at] using horder j hj
  · simpa [fm_u_at] using hgates
  · intro j hj; simpa [fm_u_at] using hkind j hj
  · intro j hj; simpa [fm_u_at] using hneed j hj
  · intro j hj; simpa [fm_u_at] using hcnt j hj
  · intro j hj; simpa [fm_u_at] using hinp j hj
  · simp [fm_u_at]
  · simpa [fm_u_at] using hcauses
  · intro j hj; simpa [fm_u_at] using hcodds j hj
  · intro j hj; simpa [fm_u_at] using hcbits j hj
theorem fm_NR.u_top {P : fm_P} {M : fm_M} (h : fm_NR P M) {v : Nat} : fm_NR (fm_u P 8 0 v) (fm_pi M 0 8 (nI v - 1)) := by
  obtain ⟨hp, hr12, hr13, hr14, hr15, hr16, hr17, hr18, hr19⟩ := h
  refine ⟨hp.u_top, ?_, ?_, ?_, ?_, ?_, ?_, ?_, ?_⟩
  · simpa [fm_u_at] using hr12
  · intro j hj; simp only [fm_u_at]; simpa [fm_u_at] using hr13 j (by simpa [fm_u_at] using hj)
  · intro j hj; simp only [fm_u_at]; simpa [fm_u_at] using hr14 j (by simpa [fm_u_at] using hj)
  · simpa [fm_u_at] using hr15
  · intro j hj; simp only [fm_u_at]; simpa [fm_u_at] using hr16 j (by simpa [fm_u_at] using hj)
  · intro j hj; simp only [fm_u_at]; simpa [fm_u_at] using hr17 j (by simpa [fm_u_at] using hj)
  · simpa [fm_u_at] using hr18
  · intro j hj; simp only [fm_u_at]; simpa [fm_u_at] using hr19 j (by simpa [fm_u_at] using hj)
theorem fm_NP.u_causes {P : fm_P} {M : fm_M} (h : fm_NP P M) {v : Nat} : fm_NP (fm_u P 9 0 v) (fm_pi M 0 9 (nI v)) := by
  obtain ⟨hparts, hodds, horder, hgates, hkind, hneed, hcnt, hinp, htop, hcauses, hcodds, hcbits⟩ := h
  refine ⟨?_, ?_, ?_, ?_, ?_, ?_, ?_, ?_, ?_, ?_, ?_, ?_⟩
  · simpa [fm_u_at] using hparts
  · intro j hj; simpa [fm_u_at] using hodds j hj
  · intro j hj; simpa [fm_u_at] using horder j hj
  · simpa [fm_u_at] using hgates
  · intro j hj; simpa [fm_u_at] using hkind j hj
  · intro j hj; simpa [fm_u_at] using hneed j hj
  · intro j hj; simpa [fm_u_at] using hcnt j hj
  · intro j hj; simpa [fm_u_at] using hinp j hj
  · simpa [fm_u_at] using htop
  · simp [fm_u_at]
  · intro j hj; simpa [fm_u_at] using hcodds j hj
  · intro j hj; simpa [fm_u_at] using hcbits j hj
theorem fm_NR.u_causes {P : fm_P} {M : fm_M} (h : fm_NR P M) {v : Nat} : fm_NR (fm_u P 9 0 v) (fm_pi M 0 9 (nI v)) := by
  obtain ⟨hp, hr12, hr13, hr14, hr15, hr16, hr17, hr18, hr19⟩ := h
  refine ⟨hp.u_causes, ?_, ?_, ?_, ?_, ?_, ?_, ?_, ?_⟩
  · simpa [fm_u_at] using hr12
  · intro j hj; simp only [fm_u_at]; simpa [fm_u_at] using hr13 j (by simpa [fm_u_at] using hj)
  · intro j hj; simp only [fm_u_at]; simpa [fm_u_at] using hr14 j (by simpa [fm_u_at] using hj)
  · simpa [fm_u_at] using hr15
  · intro j hj; simp only [fm_u_at]; simpa [fm_u_at] using hr16 j (by simpa [fm_u_at] using hj)
  · intro j hj; simp only [fm_u_at]; simpa [fm_u_at] using hr17 j (by simpa [fm_u_at] using hj)
  · simpa [fm_u_at] using hr18
  · intro j hj; simp only [fm_u_at]; simpa [fm_u_at] using hr19 j (by simpa [fm_u_at] using hj)
theorem fm_NP.u_codds {P : fm_P} {M : fm_M} (h : fm_NP P M) {i v : Nat} : fm_NP (fm_u P 10 i v) (fm_pi M 7 i (nI v)) := by
  obtain ⟨hparts, hodds, horder, hgates, hkind, hneed, hcnt, hinp, htop, hcauses, hcodds, hcbits⟩ := h
  refine ⟨?_, ?_, ?_, ?_, ?_, ?_, ?_, ?_, ?_, ?_, ?_, ?_⟩
  · simpa [fm_u_at] using hparts
  · intro j hj; simpa [fm_u_at] using hodds j hj
  · intro j hj; simpa [fm_u_at] using horder j hj
  · simpa [fm_u_at] using hgates
  · intro j hj; simpa [fm_u_at] using hkind j hj
  · intro j hj; simpa [fm_u_at] using hneed j hj
  · intro j hj; simpa [fm_u_at] using hcnt j hj
  · intro j hj; simpa [fm_u_at] using hinp j hj
  · simpa [fm_u_at] using htop
  · simpa [fm_u_at] using hcauses
  · intro j hj
    by_cases e : j = i
    · simp [fm_u_at, e]
    · simpa [fm_u_at, e] using hcodds j hj
  · intro j hj; simpa [fm_u_at] using hcbits j hj
theorem fm_NR.u_codds {P : fm_P} {M : fm_M} (h : fm_NR P M) {i v : Nat} : fm_NR (fm_u P 10 i v) (fm_pi M 7 i (nI v)) := by
  obtain ⟨hp, hr12, hr13, hr14, hr15, hr16, hr17, hr18, hr19⟩ := h
  refine ⟨hp.u_codds, ?_, ?_, ?_, ?_, ?_, ?_, ?_, ?_⟩
  · simpa [fm_u_at] using hr12
  · intro j hj; simp only [fm_u_at]; simpa [fm_u_at] using hr13 j (by simpa [fm_u_at] using hj)
  · intro j hj; simp only [fm_u_at]; simpa [fm_u_at] using hr14 j (by simpa [fm_u_at] using hj)
  · simpa [fm_u_at] using hr15
  · intro j hj; simp only [fm_u_at]; simpa [fm_u_at] using hr16 j (by simpa [fm_u_at] using hj)
  · intro j hj; simp only [fm_u_at]; simpa [fm_u_at] using hr17 j (by simpa [fm_u_at] using hj)
  · simpa [fm_u_at] using hr18
  · intro j hj; simp only [fm_u_at]; simpa [fm_u_at] using hr19 j (by simpa [fm_u_at] using hj)
theorem fm_NP.u_cbits {P : fm_P} {M : fm_M} (h : fm_NP P M) {i v : Nat} : fm_NP (fm_u P 11 i v) (fm_pi M 8 i (nI v)) := by
  obtain ⟨hparts, hodds, horder, hgates, hkind, hneed, hcnt, hinp, htop, hcauses, hcodds, hcbits⟩ := h
  refine ⟨?_, ?_, ?_, ?_, ?_, ?_, ?_, ?_, ?_, ?_, ?_, ?_⟩
  · simpa [fm_u_at] using hparts
  · intro j hj; simpa [fm_u_at] using hodds j hj
  · intro j hj; simpa [fm_u_at] using horder j hj
  · simpa [fm_u_at] using hgates
  · intro j hj; simpa [fm_u_at] using hkind j hj
  · intro j hj; simpa [fm_u_at] using hneed j hj
  · intro j hj; simpa [fm_u_at] using hcnt j hj
  · intro j hj; simpa [fm_u_at] using hinp j hj
  · simpa [fm_u_at] using htop
  · simpa [fm_u_at] using hcauses
  · intro j hj; simpa [fm_u_at] using hcodds j hj
  · intro j hj
    by_cases e : j = i
    · simp [fm_u_at, e]
    · simpa [fm_u_at, e] using hcbits j hj
theorem fm_NR.u_cbits {P : fm_P} {M : fm_M} (h : fm_NR P M) {i v : Nat} : fm_NR (fm_u P 11 i v) (fm_pi M 8 i (nI v)) := by
  obtain ⟨hp, hr12, hr13, hr14, hr15, hr16, hr17, hr18, hr19⟩ := h
  refine ⟨hp.u_cbits, ?_, ?_, ?_, ?_, ?_, ?_, ?_, ?_⟩
  · simpa [fm_u_at] using hr12
  · intro j hj; simp only [fm_u_at]; simpa [fm_u_at] using hr13 j (by simpa [fm_u_at] using hj)
  · intro j hj; simp only [fm_u_at]; simpa [fm_u_at] using hr14 j (by simpa [fm_u_at] using hj)
  · simpa [fm_u_at] using hr15
  · intro j hj; simp only [fm_u_at]; simpa [fm_u_at] using hr16 j (by simpa [fm_u_at] using hj)
  · intro j hj; simp only [fm_u_at]; simpa [fm_u_at] using hr17 j (by simpa [fm_u_at] using hj)
  · simpa [fm_u_at] using hr18
  · intro j hj; simp only [fm_u_at]; simpa [fm_u_at] using hr19 j (by simpa [fm_u_at] using hj)
theorem fm_NR.see {P : fm_P} {M : fm_M} (h : fm_NR P M) {x y : Nat} : fm_NR (fm_u (fm_u (fm_u P 13 (P 12 0) x) 14 (P 12 0) y) 12 0 (P 12 0 + 1)) (fm_pi (fm_pi (fm_pi M 9 (P 12 0) (nI x)) 10 (P 12 0) (nI y)) 0 12 (nI (P 12 0 + 1))) := by
  obtain ⟨hp, hr12, hr13, hr14, hr15, hr16, hr17, hr18, hr19⟩ := h
  refine ⟨hp.kept (fun a h1 h2 => by simp [fm_u_ne, show ¬ a = 0 by omega, show ¬ a = 9 by omega, show ¬ a = 10 by omega, show ¬ a = 11 by omega, show ¬ a = 12 by omega]) (fun j hj => by simp [fm_u_at]; try omega), ?_, ?_, ?_, ?_, ?_, ?_, ?_, ?_⟩
  · simp [fm_u_at]
  · intro j hj
    have hj2 : j < P 12 0 + 1 := by simpa [fm_u_at] using hj
    by_cases e : j = P 12 0
    · simp [fm_u_at, e]; try omega
    · have q := hr13 j (by omega)
      simp only [fm_u_at]
      simpa [fm_u_at, e, show ¬ 2 * j = 2 * P 12 0 by omega, show ¬ 2 * j + 1 = 2 * P 12 0 by omega, show ¬ 2 * j = 2 * P 12 0 + 1 by omega] using q
  · intro j hj
    have hj2 : j < P 12 0 + 1 := by simpa [fm_u_at] using hj
    by_cases e : j = P 12 0
    · simp [fm_u_at, e]; try omega
    · have q := hr14 j (by omega)
      simp only [fm_u_at]
      simpa [fm_u_at, e, show ¬ 2 * j = 2 * P 12 0 by omega, show ¬ 2 * j + 1 = 2 * P 12 0 by omega, show ¬ 2 * j = 2 * P 12 0 + 1 by omega] using q
  · simpa [fm_u_at] using hr15
  · intro j hj; simp only [fm_u_at]; simpa [fm_u_at] using hr16 j (by simpa [fm_u_at] using hj)
  · intro j hj; simp only [fm_u_at]; simpa [fm_u_at] using hr17 j (by simpa [fm_u_at] using hj)
  · simpa [fm_u_at] using hr18
  · intro j hj; simp only [fm_u_at]; simpa [fm_u_at] using hr19 j (by simpa [fm_u_at] using hj)
theorem fm_NR.event {P : fm_P} {M : fm_M} (h : fm_NR P M) {x y : Nat} : fm_NR (fm_u (fm_u (fm_u P 16 (P 15 0) x) 17 (P 15 0) y) 15 0 (P 15 0 + 1)) (fm_pi (fm_pi (fm_pi M 11 (2 * P 15 0) (nI x)) 11 (2 * P 15 0 + 1) (nI y)) 0 15 (nI (P 15 0 + 1))) := by
  obtain ⟨hp, hr12, hr13, hr14, hr15, hr16, hr17, hr18, hr19⟩ := h
  refine ⟨hp.kept (fun a h1 h2 => by simp [fm_u_ne, show ¬ a = 0 by omega, show ¬ a = 9 by omega, show ¬ a = 10 by omega, show ¬ a = 11 by omega, show ¬ a = 12 by omega]) (fun j hj => by simp [fm_u_at]; try omega), ?_, ?_, ?_, ?_, ?_, ?_, ?_, ?_⟩
  · simpa [fm_u_at] using hr12
  · intro j hj; simp only [fm_u_at]; simpa [fm_u_at] using hr13 j (by simpa [fm_u_at] using hj)
  · intro j hj; simp only [fm_u_at]; simpa [fm_u_at] using hr14 j (by simpa [fm_u_at] using hj)
  · simp [fm_u_at]
  · intro j hj
    have hj2 : j < P 15 0 + 1 := by simpa [fm_u_at] using hj
    by_cases e : j = P 15 0
    · simp [fm_u_at, e]; try omega
    · have q := hr16 j (by omega)
      simp only [fm_u_at]
      simpa [fm_u_at, e, show ¬ 2 * j = 2 * P 15 0 by omega, show ¬ 2 * j + 1 = 2 * P 15 0 by omega, show ¬ 2 * j = 2 * P 15 0 + 1 by omega] using q
  · intro j hj
    have hj2 : j < P 15 0 + 1 := by simpa [fm_u_at] using hj
    by_cases e : j = P 15 0
    · simp [fm_u_at, e]; try omega
    · have q := hr17 j (by omega)
      simp only [fm_u_at]
      simpa [fm_u_at, e, show ¬ 2 * j = 2 * P 15 0 by omega, show ¬ 2 * j + 1 = 2 * P 15 0 by omega, show ¬ 2 * j = 2 * P 15 0 + 1 by omega] using q
  · simpa [fm_u_at] using hr18
  · intro j hj; simp only [fm_u_at]; simpa [fm_u_at] using hr19 j (by simpa [fm_u_at] using hj)
theorem fm_NR.book {P : fm_P} {M : fm_M} (h : fm_NR P M) {x : Nat} : fm_NR (fm_u (fm_u P 19 (P 18 0) x) 18 0 (P 18 0 + 1)) (fm_pi (fm_pi M 0 17 (nI (P 18 0 + 1))) 12 (P 18 0) (nI x)) := by
  obtain ⟨hp, hr12, hr13, hr14, hr15, hr16, hr17, hr18, hr19⟩ := h
  refine ⟨hp.kept (fun a h1 h2 => by simp [fm_u_ne, show ¬ a = 0 by omega, show ¬ a = 9 by omega, show ¬ a = 10 by omega, show ¬ a = 11 by omega, show ¬ a = 12 by omega]) (fun j hj => by simp [fm_u_at]; try omega), ?_, ?_, ?_, ?_, ?_, ?_, ?_, ?_⟩
  · simpa [fm_u_at] using hr12
  · intro j hj; simp only [fm_u_at]; simpa [fm_u_at] using hr13 j (by simpa [fm_u_at] using hj)
  · intro j hj; simp only [fm_u_at]; simpa [fm_u_at] using hr14 j (by simpa [fm_u_at] using hj)
  · simpa [fm_u_at] using hr15
  · intro j hj; simp only [fm_u_at]; simpa [fm_u_at] using hr16 j (by simpa [fm_u_at] using hj)
  · intro j hj; simp only [fm_u_at]; simpa [fm_u_at] using hr17 j (by simpa [fm_u_at] using hj)
  · simp [fm_u_at]
  · intro j hj
    have hj2 : j < P 18 0 + 1 := by simpa [fm_u_at] using hj
    by_cases e : j = P 18 0
    · simp [fm_u_at, e]; try omega
    · have q := hr19 j (by omega)
      simp only [fm_u_at]
      simpa [fm_u_at, e, show ¬ 2 * j = 2 * P 18 0 by omega, show ¬ 2 * j + 1 = 2 * P 18 0 by omega, show ¬ 2 * j = 2 * P 18 0 + 1 by omega] using q
theorem fm_NR.see0 {P : fm_P} {M : fm_M} (h : fm_NR P M) : fm_NR (fm_u P 12 0 0) (fm_pi M 0 12 (nI 0)) := by
  obtain ⟨hp, hr12, hr13, hr14, hr15, hr16, hr17, hr18, hr19⟩ := h
  refine ⟨hp.kept (fun a h1 h2 => by simp [fm_u_ne, show ¬ a = 0 by omega]) (fun j hj => by simp [fm_u_at]; try omega), ?_, ?_, ?_, ?_, ?_, ?_, ?_, ?_⟩
  · simp [fm_u_at]
  · intro j hj
    simp [fm_u_at] at hj
  · intro j hj
    simp [fm_u_at] at hj
  · simpa [fm_u_at] using hr15
  · intro j hj; simp only [fm_u_at]; simpa [fm_u_at] using hr16 j (by simpa [fm_u_at] using hj)
  · intro j hj; simp only [fm_u_at]; simpa [fm_u_at] using hr17 j (by simpa [fm_u_at] using hj)
  · simpa [fm_u_at] using hr18
  · intro j hj; simp only [fm_u_at]; simpa [fm_u_at] using hr19 j (by simpa [fm_u_at] using hj)
theorem fm_NR.event0 {P : fm_P} {M : fm_M} (h : fm_NR P M) : fm_NR (fm_u P 15 0 0) (fm_pi M 0 15 (nI 0)) := by
  obtain ⟨hp, hr12, hr13, hr14, hr15, hr16, hr17, hr18, hr19⟩ := h
  refine ⟨hp.kept (fun a h1 h2 => by simp [fm_u_ne, show ¬ a = 0 by omega]) (fun j hj => by simp [fm_u_at]; try omega), ?_, ?_, ?_, ?_, ?_, ?_, ?_, ?_⟩
  · simpa [fm_u_at] using hr12
  · intro j hj; simp only [fm_u_at]; simpa [fm_u_at] using hr13 j (by simpa [fm_u_at] using hj)
  · intro j hj; simp only [fm_u_at]; simpa [fm_u_at] using hr14 j (by simpa [fm_u_at] using hj)
  · simp [fm_u_at]
  · intro j hj
    simp [fm_u_at] at hj
  · intro j hj
    simp [fm_u_at] at hj
  · simpa [fm_u_at] using hr18
  · intro j hj; simp only [fm_u_at]; simpa [fm_u_at] using hr19 j (by simpa [fm_u_at] using hj)
theorem fm_NR.book0 {P : fm_P} {M : fm_M} (h : fm_NR P M) : fm_NR (fm_u P 18 0 0) (fm_pi M 0 17 (nI 0)) := by
  obtain ⟨hp, hr12, hr13, hr14, hr15, hr16, hr17, hr18, hr19⟩ := h
  refine ⟨hp.kept (fun a h1 h2 => by simp [fm_u_ne, show ¬ a = 0 by omega]) (fun j hj => by simp [fm_u_at]; try omega), ?_, ?_, ?_, ?_, ?_, ?_, ?_, ?_⟩
  · simpa [fm_u_at] using hr12
  · intro j hj; simp only [fm_u_at]; simpa [fm_u_at] using hr13 j (by simpa [fm_u_at] using hj)
  · intro j hj; simp only [fm_u_at]; simpa [fm_u_at] using hr14 j (by simpa [fm_u_at] using hj)
  · simpa [fm_u_at] using hr15
  · intro j hj; simp only [fm_u_at]; simpa [fm_u_at] using hr16 j (by simpa [fm_u_at] using hj)
  · intro j hj; simp only [fm_u_at]; simpa [fm_u_at] using hr17 j (by simpa [fm_u_at] using hj)
  · simp [fm_u_at]
  · intro j hj
    simp [fm_u_at] at hj
def fm_QI (Q : fm_P) (g : Nat → Int32) : Prop := (∀ p, p < 6 → g p = nI (Q 1 p)) ∧ (∀ p, p < 6 → g (6 + p) = nI (Q 2 p)) ∧ (∀ p, p < Q 12 0 → g (12 + p) = nI (Q 13 p)) ∧ (∀ p, p < Q 12 0 → g (18 + p) = nI (Q 14 p)) ∧ (∀ j, j < 8 → g (24 + j) = nI (Q 4 j)) ∧ (∀ j, j < 8 → g (32 + j) = nI (Q 5 j)) ∧ (∀ j, j < 8 → g (40 + j) = nI (Q 6 j)) ∧ (∀ j, j < Q 18 0 → g (48 + j) = nI (Q 19 j)) ∧ (∀ k, k < 32 → g (56 + k) = nI (Q 7 k)) ∧ (∀ j, j < Q 15 0 → g (88 + 2 * j) = nI (Q 16 j)) ∧ (∀ j, j < Q 15 0 → g (88 + (2 * j + 1)) = nI (Q 17 j)) ∧ (∀ c, c < 3 → g (104 + c) = nI (Q 10 c)) ∧ (∀ c, c < 3 → g (107 + c) = nI (Q 11 c)) ∧ g 110 = nI (Q 0 0) ∧ g 111 = nI (Q 3 0) ∧ g 112 = nI (Q 8 0) - 1 ∧ g 113 = nI (Q 9 0) ∧ g 114 = nI (Q 12 0) ∧ g 115 = nI (Q 15 0) ∧ g 116 = nI (Q 18 0)
def fm_MI (I : Option fm_P) (M : fm_M) : Prop := match I with
  | none => M.1 0 30 = nI 0
  | some Q => M.1 0 30 = nI 1 ∧ fm_QI Q (M.1 21)
def fm_MT (f : Nat → Nat) (z : Nat) (M : fm_M) : Prop := M.1 0 19 = nI z ∧ z ≤ 100 ∧ ∀ j, j < z → M.1 13 j = nI (f j) ∧ f j < 128
def fm_MK (so le : Nat → Nat) (it : Nat → Nat → Int64) (M : fm_M) : Prop := ∀ j, j < 6 → M.1 22 j = nI (so j) - 1 ∧ M.1 23 j = nI (le j) ∧ ∀ i, i < 60 → M.2 24 (60 * j + i) = it j i
def fm_MR (Z : fm_Z) (M : fm_M) : Prop := fm_NR Z.1 M ∧ fm_MI Z.2.1 M ∧ fm_MT Z.2.2.1 Z.2.2.2.1 M ∧ fm_MK Z.2.2.2.2.1 Z.2.2.2.2.2.1 Z.2.2.2.2.2.2 M
/-- from M to M' nothing has changed but what is made anew at each question -/
def fm_mf (M M' : fm_M) : Prop := (∀ a, 1 ≤ a → a < 14 → M'.1 a = M.1 a) ∧ (∀ j, j ≠ 22 → j ≠ 27 → M'.1 0 j = M.1 0 j) ∧ (∀ a, 21 ≤ a → M'.1 a = M.1 a) ∧ M'.2 24 = M.2 24
theorem fm_mf.rf (M : fm_M) : fm_mf M M := ⟨fun _ _ _ => rfl, fun _ _ _ => rfl, fun _ _ => rfl, rfl⟩
theorem fm_mf.tr {M M1 M2 : fm_M} (h : fm_mf M M1) (h2 : fm_mf M1 M2) : fm_mf M M2 := ⟨fun a ha hb => (h2.1 a ha hb).trans (h.1 a ha hb), fun j h3 h4 => (h2.2.1 j h3 h4).trans (h.2.1 j h3 h4), fun a ha => (h2.2.2.1 a ha).trans (h.2.2.1 a ha), h2.2.2.2.trans h.2.2.2⟩
theorem fm_mf.sy {M M1 : fm_M} (h : fm_mf M M1) : fm_mf M1 M := ⟨fun a ha hb => (h.1 a ha hb).symm, fun j h3 h4 => (h.2.1 j h3 h4).symm, fun a ha => (h.2.2.1 a ha).symm, h.2.2.2.symm⟩
theorem fm_NP.mf {P : fm_P} {M M' : fm_M} (h : fm_NP P M) (e : fm_mf M M') : fm_NP P M' := h.kept (fun a h1 h2 => e.1 a h1 (by omega)) (fun j hj => e.2.1 j (by omega) (by omega))
theorem fm_NR.mf {P : fm_P} {M M' : fm_M} (h : fm_NR P M) (e : fm_mf M M') : fm_NR P M' := h.kept (fun a h1 h2 => e.1 a h1 (by omega)) (fun j hj => e.2.1 j (by omega) (by omega))
theorem fm_MT.mf {f : Nat → Nat} {z : Nat} {M M' : fm_M} (h : fm_MT f z M) (e0 : M'.1 0 19 = M.1 0 19) (e : M'.1 13 = M.1 13) : fm_MT f z M' := ⟨by rw [e0]; exact h.1, h.2.1, by rw [e]; exact h.2.2⟩
theorem fm_MI.mf {I : Option fm_P} {M M' : fm_M} (h : fm_MI I M) (e0 : M'.1 0 30 = M.1 0 30) (e : M'.1 21 = M.1 21) : fm_MI I M' := by
  cases I with
  | none => show M'.1 0 30 = nI 0; rw [e0]; exact h
  | some Q => exact ⟨by rw [e0]; exact h.1, by rw [e]; exact h.2⟩
theorem fm_MK.mf {so le : Nat → Nat} {it : Nat → Nat → Int64} {M M' : fm_M} (h : fm_MK so le it M) (e : M'.1 22 = M.1 22) (e2 : M'.1 23 = M.1 23) (e3 : M'.2 24 = M.2 24) : fm_MK so le it M' := by
  intro j hj
  rw [e, e2, e3]
  exact h j hj
theorem fm_MR.mf {Z : fm_Z} {M M' : fm_M} (h : fm_MR Z M) (e : fm_mf M M') : fm_MR Z M' := ⟨h.1.mf e, h.2.1.mf (e.2.1 30 (by omega) (by omega)) (e.2.2.1 21 (by omega)), h.2.2.1.mf (e.2.1 19 (by omega) (by omega)) (e.1 13 (by omega) (by omega)), h.2.2.2.mf (e.2.2.1 22 (by omega)) (e.2.2.1 23 (by omega)) e.2.2.2⟩
theorem fm_MR.now {Z : fm_Z} {M M' : fm_M} (h : fm_MR Z M) {P' : fm_P} (hP : fm_NR P' M') (e0 : ∀ j, 18 ≤ j → M'.1 0 j = M.1 0 j) (e : ∀ a, 13 ≤ a → M'.1 a = M.1 a) (e3 : M'.2 = M.2) : fm_MR (P', Z.2) M' := ⟨hP, h.2.1.mf (e0 30 (by omega)) (e 21 (by omega)), h.2.2.1.mf (e0 19 (by omega)) (e 13 (by omega)), h.2.2.2.mf (e 22 (by omega)) (e 23 (by omega)) (by rw [e3])⟩
