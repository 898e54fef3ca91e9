/-! ===== a State in the memory: its plant, what is seen, events, the book ===== -/
def fm_SR (s : Nat) (P : fm_P) (M : fm_M) : Prop := fm_PR (s + 1) P M ∧ M.1 (s + 12) 2 = nI (P 12 0) ∧ (∀ j, j < P 12 0 → M.1 (s + 13) j = nI (P 13 j)) ∧ (∀ j, j < P 12 0 → M.1 (s + 14) j = nI (P 14 j)) ∧ M.1 (s + 15) 2 = nI (P 15 0) ∧ (∀ j, j < P 15 0 → M.1 (s + 16) j = nI (P 16 j)) ∧ (∀ j, j < P 15 0 → M.1 (s + 17) j = nI (P 17 j)) ∧ M.1 (s + 18) 2 = nI (P 18 0) ∧ (∀ j, j < P 18 0 → M.1 (s + 19) j = nI (P 19 j))
theorem fm_SR.pl {s : Nat} {P : fm_P} {M : fm_M} (h : fm_SR s P M) : fm_PR (s + 1) P M := h.1
theorem fm_SR.kept {s : Nat} {P : fm_P} {M M' : fm_M} (h : fm_SR s P M) (e : ∀ a, s < a → a < s + 21 → M'.1 a = M.1 a) : fm_SR s P M' := by
  refine ⟨h.1.kept (fun a h1 h2 => e a (by omega) (by omega)), ?_, ?_, ?_, ?_, ?_, ?_, ?_, ?_⟩
  · rw [e (s + 12) (by omega) (by omega)]; exact h.2.1
  · rw [e (s + 13) (by omega) (by omega)]; exact h.2.2.1
  · rw [e (s + 14) (by omega) (by omega)]; exact h.2.2.2.1
  · rw [e (s + 15) (by omega) (by omega)]; exact h.2.2.2.2.1
  · rw [e (s + 16) (by omega) (by omega)]; exact h.2.2.2.2.2.1
  · rw [e (s + 17) (by omega) (by omega)]; exact h.2.2.2.2.2.2.1
  · rw [e (s + 18) (by omega) (by omega)]; exact h.2.2.2.2.2.2.2.1
  · rw [e (s + 19) (by omega) (by omega)]; exact h.2.2.2.2.2.2.2.2
/-- what always holds of the rows told by hand -/
def fm_wr (P : fm_P) : Prop := P 12 0 ≤ 6 ∧ P 15 0 ≤ 8 ∧ P 18 0 ≤ 8 ∧ (∀ j, j < P 12 0 → P 13 j < 2 ^ P 0 0 ∧ P 14 j ≤ 1) ∧ (∀ j, j < P 15 0 → P 16 j ≤ 3 ∧ (P 16 j < 2 → P 17 j < P 0 0) ∧ (2 ≤ P 16 j → P 17 j < P 3 0)) ∧ (∀ j, j < P 18 0 → P 19 j < 2 ^ P 0 0)
def fm_wF (P : fm_P) : Prop := fm_wf P ∧ fm_wr P
theorem fm_SR.u_parts {P : fm_P} {M : fm_M} (h : fm_SR 1 P M) {v : Nat} : fm_SR 1 (fm_u P 0 0 v) (fm_pi M 2 2 (nI v)) := by
  obtain ⟨⟨hparts, hodds, horder, hgates, hkind, hneed, hcnt, hinp, htop, hcauses, hcodds, hcbits⟩, hr12, hr13, hr14, hr15, hr16, hr17, hr18, hr19⟩ := h
  refine ⟨⟨?_, ?_, ?_, ?_, ?_, ?_, ?_, ?_, ?_, ?_, ?_, ?_⟩, ?_, ?_, ?_, ?_, ?_, ?_, ?_, ?_⟩
  · simp [fm_u_at]
  · intro j hj; simp only [fm_u_at]; simpa [fm_u_at] using hodds j (by simpa [fm_u_at] using hj)
  · intro j hj; simp only [fm_u_at]; simpa [fm_u_at] using horder j (by simpa [fm_u_at] using hj)
  · simpa [fm_u_at] using hgates
  · intro j hj; simp only [fm_u_at]; simpa [fm_u_at] using hkind j (by simpa [fm_u_at] using hj)
  · intro j hj; simp only [fm_u_at]; simpa [fm_u_at] using hneed j (by simpa [fm_u_at] using hj)
  · intro j hj; simp only [fm_u_at]; simpa [fm_u_at] using hcnt j (by simpa [fm_u_at] using hj)
  · intro j hj; simp only [fm_u_at]; simpa [fm_u_at] using hinp j (by simpa [fm_u_at] using hj)
  · simpa [fm_u_at] using htop
  · simpa [fm_u_at] using hcauses
  · intro j hj; simp only [fm_u_at]; simpa [fm_u_at] using hcodds j (by simpa [fm_u_at] using hj)
  · intro j hj; simp only [fm_u_at]; simpa [fm_u_at] using hcbits j (by simpa [fm_u_at] using hj)
  · simpa [fm_u_at] using hr12
  · intro j hj; simp only [fm_u_at]; simpa [fm_u_at] using hr13 j (by simpa [fm_u_at] using hj)
  · intro j hj; simp only [fm_u_at]; simpa [fm_u_at] using hr14 j (by simpa [fm_u_at] using hj)
  · simpa [fm_u_at] using hr15
  · intro j hj; simp only [fm_u_at]; simpa [fm_u_at] using hr16 j (by simpa [fm_u_at] using hj)
  · intro j hj; simp only [fm_u_at]; simpa [fm_u_at] using hr17 j (by simpa [fm_u_at] using hj)
  · simpa [fm_u_at] using hr18
  · intro j hj; simp only [fm_u_at]; simpa [fm_u_at] using hr19 j (by simpa [fm_u_at] using hj)
theorem fm_SR.u_odds {P : fm_P} {M : fm_M} (h : fm_SR 1 P M) {i v : Nat} : fm_SR 1 (fm_u P 1 i v) (fm_pi M 3 i (nI v)) := by
  obtain ⟨⟨hparts, hodds, horder, hgates, hkind, hneed, hcnt, hinp, htop, hcauses, hcodds, hcbits⟩, hr12, hr13, hr14, hr15, hr16, hr17, hr18, hr19⟩ := h
  refine ⟨⟨?_, ?_, ?_, ?_, ?_, ?_, ?_, ?_, ?_, ?_, ?_, ?_⟩, ?_, ?_, ?_, ?_, ?_, ?_, ?_, ?_⟩
  · simpa [fm_u_at] using hparts
  · intro j hj
    by_cases e : j = i
    · simp [fm_u_at, e]
    · simpa [fm_u_at, e] using hodds j hj
  · intro j hj; simp only [fm_u_at]; simpa [fm_u_at] using horder j (by simpa [fm_u_at] using hj)
  · simpa [fm_u_at] using hgates
  · intro j hj; simp only [fm_u_at]; simpa [fm_u_at] using hkind j (by simpa [fm_u_at] using hj)
  · intro j hj; simp only [fm_u_at]; simpa [fm_u_at] using hneed j (by simpa [fm_u_at] using hj)
  · intro j hj; simp only [fm_u_at]; simpa [fm_u_at] using hcnt j (by simpa [fm_u_at] using hj)
  · intro j hj; simp only [fm_u_at]; simpa [fm_u_at] using hinp j (by simpa [fm_u_at] using hj)
  · simpa [fm_u_at] using htop
  · simpa [fm_u_at] using hcauses
  · intro j hj; simp only [fm_u_at]; simpa [fm_u_at] using hcodds j (by simpa [fm_u_at] using hj)
  · intro j hj; simp only [fm_u_at]; simpa [fm_u_at] using hcbits j (by simpa [fm_u_at] using hj)
  · simpa [fm_u_at] using hr12
  · intro j hj; simp only [fm_u_at]; simpa [fm_u_at] using hr13 j (by simpa [fm_u_at] using hj)
  · intro j hj; simp only [fm_u_at]; simpa [fm_u_at] using hr14 j (by simpa [fm_u_at] using hj)
  · simpa [fm_u_at] using hr15
  · intro j hj; simp only [fm_u_at]; simpa [fm_u_at] using hr16 j (by simpa [fm_u_at] using hj)
  · intro j hj; simp only [fm_u_at]; simpa [fm_u_at] using hr17 j (by simpa [fm_u_at] using hj)
  · simpa [fm_u_at] using hr18
  · intro j hj; simp only [fm_u_at]; simpa [fm_u_at] using hr19 j (by simpa [fm_u_at] using hj)
theorem fm_SR.u_order {P : fm_P} {M : fm_M} (h : fm_SR 1 P M) {i v : Nat} : fm_SR 1 (fm_u P 2 i v) (fm_pi M 4 i (nI v)) := by
  obtain ⟨⟨hparts, hodds, horder, hgates, hkind, hneed, hcnt, hinp, htop, hcauses, hcodds, hcbits⟩, hr12, hr13, hr14, hr15, hr16, hr17, hr18, hr19⟩ := h
  refine ⟨⟨?_, ?_, ?_, ?_, ?_, ?_, ?_, ?_, ?_, ?_, ?_, ?_⟩, ?_, ?_, ?_, ?_, ?_, ?_, ?_, ?_⟩
  · simpa [fm_u_at] using hparts
  · intro j hj; simp only [fm_u_at]; simpa [fm_u_at] using hodds j (by simpa [fm_u_at] using hj)
  · intro j hj
    by_cases e : j = i
    · simp [fm_u_at, e]
    · simpa [fm_u_at, e] using horder j hj
  · simpa [fm_u_at] using hgates
  · intro j hj; simp only [fm_u_at]; simpa [fm_u_at] using hkind j (by simpa [fm_u_at] using hj)
  · intro j hj; simp only [fm_u_at]; simpa [fm_u_at] using hneed j (by simpa [fm_u_at] using hj)
  · intro j hj; simp only [fm_u_at]; simpa [fm_u_at] using hcnt j (by simpa [fm_u_at] using hj)
  · intro j hj; simp only [fm_u_at]; simpa [fm_u_at] using hinp j (by simpa [fm_u_at] using hj)
  · simpa [fm_u_at] using htop
  · simpa [fm_u_at] using hcauses
  · intro j hj; simp only [fm_u_at]; simpa [fm_u_at] using hcodds j (by simpa [fm_u_at] using hj)
  · intro j hj; simp only [fm_u_at]; simpa [fm_u_at] using hcbits j (by simpa [fm_u_at] using hj)
  · simpa [fm_u_at] using hr12
  · intro j hj; simp only [fm_u_at]; simpa [fm_u_at] using hr13 j (by simpa [fm_u_at] using hj)
  · intro j hj; simp only [fm_u_at]; simpa [fm_u_at] using hr14 j (by simpa [fm_u_at] using hj)
  · simpa [fm_u_at] using hr15
  · intro j hj; simp only [fm_u_at]; simpa [fm_u_at] using hr16 j (by simpa [fm_u_at] using hj)
  · intro j hj; simp only [fm_u_at]; simpa [fm_u_at] using hr17 j (by simpa [fm_u_at] using hj)
  · simpa [fm_u_at] using hr18
  · intro j hj; simp only [fm_u_at]; simpa [fm_u_at] using hr19 j (by simpa [fm_u_at] using hj)
theorem fm_SR.u_gates {P : fm_P} {M : fm_M} (h : fm_SR 1 P M) {v : Nat} : fm_SR 1 (fm_u P 3 0 v) (fm_pi M 2 7 (nI v)) := by
  obtain ⟨⟨hparts, hodds, horder, hgates, hkind, hneed, hcnt, hinp, htop, hcauses, hcodds, hcbits⟩, hr12, hr13, hr14, hr15, hr16, hr17, hr18, hr19⟩ := h
  refine ⟨⟨?_, ?_, ?_, ?_, ?_, ?_, ?_, ?_, ?_, ?_, ?_, ?_⟩, ?_, ?_, ?_, ?_, ?_, ?_, ?_, ?_⟩
  · simpa [fm_u_at] using hparts
  · intro j hj; simp only [fm_u_at]; simpa [fm_u_at] using hodds j (by simpa [fm_u_at] using hj)
  · intro j hj; simp only [fm_u_at]; simpa [fm_u_at] using horder j (by simpa [fm_u_at] using hj)
  · simp [fm_u_at]
  · intro j hj; simp only [fm_u_at]; simpa [fm_u_at] using hkind j (by simpa [fm_u_at] using hj)
  · intro j hj; simp only [fm_u_at]; simpa [fm_u_at] using hneed j (by simpa [fm_u_at] using hj)
  · intro j hj; simp only [fm_u_at]; simpa [fm_u_at] using hcnt j (by simpa [fm_u_at] using hj)
  · intro j hj; simp only [fm_u_at]; simpa [fm_u_at] using hinp j (by simpa [fm_u_at] using hj)
  · simpa [fm_u_at] using htop
  · simpa [fm_u_at] using hcauses
  · intro j hj; simp only [fm_u_at]; simpa [fm_u_at] using hcodds j (by simpa [fm_u_at] using hj)
  · intro j hj; simp only [fm_u_at]; simpa [fm_u_at] using hcbits j (by simpa [fm_u_at] using hj)
  · simpa [fm_u_at] using hr12
  · intro j hj; simp only [fm_u_at]; simpa [fm_u_at] using hr13 j (by simpa [fm_u_at] using hj)
  · intro j hj; simp only [fm_u_at]; simpa [fm_u_at] using hr14 j (by simpa [fm_u_at] using hj)
  · simpa [fm_u_at] using hr15
  · intro j hj; simp only [fm_u_at]; simpa [fm_u_at] using hr16 j (by simpa [fm_u_at] using hj)
  · intro j hj; simp only [fm_u_at]; simpa [fm_u_at] using hr17 j (by simpa [fm_u_at] using hj)
  · simpa [fm_u_at] using hr18
  · intro j hj; simp only [fm_u_at]; simpa [fm_u_at] using hr19 j (by simpa [fm_u_at] using hj)
theorem fm_SR.u_kind {P : fm_P} {M : fm_M} (h : fm_SR 1 P M) {i v : Nat} : fm_SR 1 (fm_u P 4 i v) (fm_pi M 5 i (nI v)) := by
  obtain ⟨⟨hparts, hodds, horder, hgates, hkind, hneed, hcnt, hinp, htop, hcauses, hcodds, hcbits⟩, hr12, hr13, hr14, hr15, hr16, hr17, hr18, hr19⟩ := h
  refine ⟨⟨?_, ?_, ?_, ?_, ?_, ?_, ?_, ?_, ?_, ?_, ?_, ?_⟩, ?_, ?_, ?_, ?_, ?_, ?_, ?_, ?_⟩
  · simpa [fm_u_at] using hparts
  · intro j hj; simp only [fm_u_at]; simpa [fm_u_at] using hodds j (by simpa [fm_u_at] using hj)
  · intro j hj; simp only [fm_u_at]; simpa [fm_u_at] using horder j (by simpa [fm_u_at] using hj)
  · simpa [fm_u_at] using hgates
  · intro j hj
    by_cases e : j = i
    · simp [fm_u_at, e]
    · simpa [fm_u_at, e] using hkind j hj
  · intro j hj; simp only [fm_u_at]; simpa [fm_u_at] using hneed j (by simpa [fm_u_at] using hj)
  · intro j hj; simp only [fm_u_at]; simpa [fm_u_at] using hcnt j (by simpa [fm_u_at] using hj)
  · intro j hj; simp only [fm_u_at]; simpa [fm_u_at] using hinp j (by simpa [fm_u_at] using hj)
  · simpa [fm_u_at] using htop
  · simpa [fm_u_at] using hcauses
  · intro j hj; simp only [fm_u_at]; simpa [fm_u_at] using hcodds j (by simpa [fm_u_at] using hj)
  · intro j hj; simp only [fm_u_at]; simpa [fm_u_at] using hcbits j (by simpa [fm_u_at] using hj)
  · simpa [fm_u_at] using hr12
  · intro j hj; simp only [fm_u_at]; simpa [fm_u_at] using hr13 j (by simpa [fm_u_at] using hj)
  · intro j hj; simp only [fm_u_at]; simpa [fm_u_at] using hr14 j (by simpa [fm_u_at] using hj)
  · simpa [fm_u_at] using hr15
  · intro j hj; simp only [fm_u_at]; simpa [fm_u_at] using hr16 j (by simpa [fm_u_at] using hj)
  · intro j hj; simp only [fm_u_at]; simpa [fm_u_at] using hr17 j (by simpa [fm_u_at] using hj)
  · simpa [fm_u_at] using hr18
  · intro j hj; simp only [fm_u_at]; simpa [fm_u_at] using hr19 j (by simpa [fm_u_at] using hj)
theorem fm_SR.u_need {P : fm_P} {M : fm_M} (h : fm_SR 1 P M) {i v : Nat} : fm_SR 1 (fm_u P 5 i v) (fm_pi M 6 i (nI v)) := by
  obtain ⟨⟨hparts, hodds, horder, hgates, hkind, hneed, hcnt, hinp, htop, hcauses, hcodds, hcbits⟩, hr12, hr13, hr14, hr15, hr16, hr17, hr18, hr19⟩ := h
  refine ⟨⟨?_, ?_, ?_, ?_, ?_, ?_, ?_, ?_, ?_, ?_, ?_, ?_⟩, ?_, ?_, ?_, ?_, ?_, ?_, ?_, ?_⟩
  · simpa [fm_u_at] using hparts
  · intro j hj; simp only [fm_u_at]; simpa [fm_u_at] using hodds j (by simpa [fm_u_at] using hj)
  · intro j hj; simp only [fm_u_at]; simpa [fm_u_at] using horder j (by simpa [fm_u_at] using hj)
  · simpa [fm_u_at] using hgates
  · intro j hj; simp only [fm_u_at]; simpa [fm_u_at] using hkind j (by simpa [fm_u_at] using hj)
  · intro j hj
    by_cases e : j = i
    · simp [fm_u_at, e]
    · simpa [fm_u_at, e] using hneed j hj
  · intro j hj; simp only [fm_u_at]; simpa [fm_u_at] using hcnt j (by simpa [fm_u_at] using hj)
  · intro j hj; simp only [fm_u_at]; simpa [fm_u_at] using hinp j (by simpa [fm_u_at] using hj)
  · simpa [fm_u_at] using htop
  · simpa [fm_u_at] using hcauses
  · intro j hj; simp only [fm_u_at]; simpa [fm_u_at] using hcodds j (by simpa [fm_u_at] using hj)
  · intro j hj; simp only [fm_u_at]; simpa [fm_u_at] using hcbits j (by simpa [fm_u_at] using hj)
  · simpa [fm_u_at] using hr12
  · intro j hj; simp only [fm_u_at]; simpa [fm_u_at] using hr13 j (by simpa [fm_u_at] using hj)
  · intro j hj; simp only [fm_u_at]; simpa [fm_u_at] using hr14 j (by simpa [fm_u_at] using hj)
  · simpa [fm_u_at] using hr15
  · intro j hj; simp only [fm_u_at]; simpa [fm_u_at] using hr16 j (by simpa [fm_u_at] using hj)
  · intro j hj; simp only [fm_u_at]; simpa [fm_u_at] using hr17 j (by simpa [fm_u_at] using hj)
  · simpa [fm_u_at] using hr18
  · intro j hj; simp only [fm_u_at]; simpa [fm_u_at] using hr19 j (by simpa [fm_u_at] using hj)
theorem fm_SR.u_cnt {P : fm_P} {M : fm_M} (h : fm_SR 1 P M) {i v : Nat} : fm_SR 1 (fm_u P 6 i v) (fm_pi M 8 i (nI v)) := by
  obtain ⟨⟨hparts, hodds, horder, hgates, hkind, hneed, hcnt, hinp, htop, hcauses, hcodds, hcbits⟩, hr12, hr13, hr14, hr15, hr16, hr17, hr18, hr19⟩ := h
  refine ⟨⟨?_, ?_, ?_, ?_, ?_, ?_, ?_, ?_, ?_, ?_, ?_, ?_⟩, ?_, ?_, ?_, ?_, ?_, ?_, ?_, ?_⟩
  · simpa [fm_u_at] using hparts
  · intro j hj; simp only [fm_u_at]; simpa [fm_u_at] using hodds j (by simpa [fm_u_at] using hj)
  · intro j hj; simp only [fm_u_at]; simpa [fm_u_at] using horder j (by simpa [fm_u_at] using hj)
  · simpa [fm_u_at] using hgates
  · intro j hj; simp only [fm_u_at]; simpa [fm_u_at] using hkind j (by simpa [fm_u_at] using hj)
  · intro j hj; simp only [fm_u_at]; simpa [fm_u_at] using hneed j (by simpa [fm_u_at] using hj)
  · intro j hj
    by_cases e : j = i
    · simp [fm_u_at, e]
    · simpa [fm_u_at, e] using hcnt j hj
  · intro j hj; simp only [fm_u_at]; simpa [fm_u_at] using hinp j (by simpa [fm_u_at] using hj)
  · simpa [fm_u_at] using htop
  · simpa [fm_u_at] using hcauses
  · intro j hj; simp only [fm_u_at]; simpa [fm_u_at] using hcodds j (by simpa [fm_u_at] using hj)
  · intro j hj; simp only [fm_u_at]; simpa [fm_u_at] using hcbits j (by simpa [fm_u_at] using hj)
  · simpa [fm_u_at] using hr12
  · intro j hj; simp only [fm_u_at]; simpa [fm_u_at] using hr13 j (by simpa [fm_u_at] using hj)
  · intro j hj; simp only [fm_u_at]; simpa [fm_u_at] using hr14 j (by simpa [fm_u_at] using hj)
  · simpa [fm_u_at] using hr15
  · intro j hj; simp only [fm_u_at]; simpa [fm_u_at] using hr16 j (by simpa [fm_u_at] using hj)
  · intro j hj; simp only [fm_u_at]; simpa [fm_u_at] using hr17 j (by simpa [fm_u_at] using hj)
  · simpa [fm_u_at] using hr18
  · intro j hj; simp only [fm_u_at]; simpa [fm_u_at] using hr19 j (by simpa [fm_u_at] using hj)
theorem fm_SR.u_inp {P : fm_P} {M : fm_M} (h : fm_SR 1 P M) {i v : Nat} : fm_SR 1 (fm_u P 7 i v) (fm_pi M 7 i (nI v)) := by
  obtain ⟨⟨hparts, hodds, horder, hgates, hkind, hneed, hcnt, hinp, htop, hcauses, hcodds, hcbits⟩, hr12, hr13, hr14, hr15, hr16, hr17, hr18, hr19⟩ := h
  refine ⟨⟨?_, ?_, ?_, ?_, ?_, ?_, ?_, ?_, ?_, ?_, ?_, ?_⟩, ?_, ?_, ?_, ?_, ?_, ?_, ?_, ?_⟩
  · simpa [fm_u_at] using hparts
  · intro j hj; simp only [fm_u_at]; simpa [fm_u_at] using hodds j (by simpa [fm_u_at] using hj)
  · intro j hj; simp only [fm_u_at]; simpa [fm_u_at] using horder j (by simpa [fm_u_at] using hj)
  · simpa [fm_u_at] using hgates
  · intro j hj; simp only [fm_u_at]; simpa [fm_u_at] using hkind j (by simpa [fm_u_at] using hj)
  · intro j hj; simp only [fm_u_at]; simpa [fm_u_at] using hneed j (by simpa [fm_u_at] using hj)
  · intro j hj; simp only [fm_u_at]; simpa [fm_u_at] using hcnt j (by simpa [fm_u_at] using hj)
  · intro j hj
    by_cases e : j = i
    · simp [fm_u_at, e]
    · simpa [fm_u_at, e] using hinp j hj
  · simpa [fm_u_at] using htop
  · simpa [fm_u_at] using hcauses
  · intro j hj; simp only [fm_u_at]; simpa [fm_u_at] using hcodds j (by simpa [fm_u_at] using hj)
  · intro j hj; simp only [fm_u_at]; simpa [fm_u_at] using hcbits j (by simpa [fm_u_at] using hj)
  · simpa [fm_u_at] using hr12
  · intro j hj; simp only [fm_u_at]; simpa [fm_u_at] using hr13 j (by simpa [fm_u_at] using hj)
  · intro j hj; simp only [fm_u_at]; simpa [fm_u_at] using hr14 j (by simpa [fm_u_at] using hj)
  · simpa [fm_u_at] using hr15
  · intro j hj; simp only [fm_u_at]; simpa [fm_u_at] using hr16 j (by simpa [fm_u_at] using hj)
  · intro j hj; simp only [fm_u_at]; simpa [fm_u_at] using hr17 j (by simpa [fm_u_at] using hj)
  · simpa [fm_u_at] using hr18
  · intro j hj; simp only [fm_u_at]; simpa [fm_u_at] using hr19 j (by simpa [fm_u_at] using hj)
theorem fm_SR.u_causes {P : fm_P} {M : fm_M} (h : fm_SR 1 P M) {v : Nat} : fm_SR 1 (fm_u P 9 0 v) (fm_pi M 2 11 (nI v)) := by
  obtain ⟨⟨hparts, hodds, horder, hgates, hkind, hneed, hcnt, hinp, htop, hcauses, hcodds, hcbits⟩, hr12, hr13, hr14, hr15, hr16, hr17, hr18, hr19⟩ := h
  refine ⟨⟨?_, ?_, ?_, ?_, ?_, ?_, ?_, ?_, ?_, ?_, ?_, ?_⟩, ?_, ?_, ?_, ?_, ?_, ?_, ?_, ?_⟩
  · simpa [fm_u_at] using hparts
  · intro j hj; simp only [fm_u_at]; simpa [fm_u_at] using hodds j (by simpa [fm_u_at] using hj)
  · intro j hj; simp only [fm_u_at]; simpa [fm_u_at] using horder j (by simpa [fm_u_at] using hj)
  · simpa [fm_u_at] using hgates
  · intro j hj; simp only [fm_u_at]; simpa [fm_u_at] using hkind j (by simpa [fm_u_at] using hj)
  · intro j hj; simp only [fm_u_at]; simpa [fm_u_at] using hneed j (by simpa [fm_u_at] using hj)
  · intro j hj; simp only [fm_u_at]; simpa [fm_u_at] using hcnt j (by simpa [fm_u_at] using hj)
  · intro j hj; simp only [fm_u_at]; simpa [fm_u_at] using hinp j (by simpa [fm_u_at] using hj)
  · simpa [fm_u_at] using htop
  · simp [fm_u_at]
  · intro j hj; simp only [fm_u_at]; simpa [fm_u_at] using hcodds j (by simpa [fm_u_at] using hj)
  · intro j hj; simp only [fm_u_at]; simpa [fm_u_at] using hcbits j (by simpa [fm_u_at] using hj)
  · simpa [fm_u_at] using hr12
  · intro j hj; simp only [fm_u_at]; simpa [fm_u_at] using hr13 j (by simpa [fm_u_at] using hj)
  · intro j hj; simp only [fm_u_at]; simpa [fm_u_at] using hr14 j (by simpa [fm_u_at] using hj)
  · simpa [fm_u_at] using hr15
  · intro j hj; simp only [fm_u_at]; simpa [fm_u_at] using hr16 j (by simpa [fm_u_at] using hj)
  · intro j hj; simp only [fm_u_at]; simpa [fm_u_at] using hr17 j (by simpa [fm_u_at] using hj)
  · simpa [fm_u_at] using hr18
  · intro j hj; simp only [fm_u_at]; simpa [fm_u_at] using hr19 j (by simpa [fm_u_at] using hj)
theorem fm_SR.u_codds {P : fm_P} {M : fm_M} (h : fm_SR 1 P M) {i v : Nat} : fm_SR 1 (fm_u P 10 i v) (fm_pi M 9 i (nI v)) := by
  obtain ⟨⟨hparts, hodds, horder, hgates, hkind, hneed, hcnt, hinp, htop, hcauses, hcodds, hcbits⟩, hr12, hr13, hr14, hr15, hr16, hr17, hr18, hr19⟩ := h
  refine ⟨⟨?_, ?_, ?_, ?_, ?_, ?_, ?_, ?_, ?_, ?_, ?_, ?_⟩, ?_, ?_, ?_, ?_, ?_, ?_, ?_, ?_⟩
  · simpa [fm_u_at] using hparts
  · intro j hj; simp only [fm_u_at]; simpa [fm_u_at] using hodds j (by simpa [fm_u_at] using hj)
  · intro j hj; simp only [fm_u_at]; simpa [fm_u_at] using horder j (by simpa [fm_u_at] using hj)
  · simpa [fm_u_at] using hgates
  · intro j hj; simp only [fm_u_at]; simpa [fm_u_at] using hkind j (by simpa [fm_u_at] using hj)
  · intro j hj; simp only [fm_u_at]; simpa [fm_u_at] using hneed j (by simpa [fm_u_at] using hj)
  · intro j hj; simp only [fm_u_at]; simpa [fm_u_at] using hcnt j (by simpa [fm_u_at] using hj)
  · intro j hj; simp only [fm_u_at]; simpa [fm_u_at] using hinp j (by simpa [fm_u_at] using hj)
  · simpa [fm_u_at] using htop
  · simpa [fm_u_at] using hcauses
  · intro j hj
    by_cases e : j = i
    · simp [fm_u_at, e]
    · simpa [fm_u_at, e] using hcodds j hj
  · intro j hj; simp only [fm_u_at]; simpa [fm_u_at] using hcbits j (by simpa [fm_u_at] using hj)
  · simpa [fm_u_at] using hr12
  · intro j hj; simp only [fm_u_at]; simpa [fm_u_at] using hr13 j (by simpa [fm_u_at] using hj)
  · intro j hj; simp only [fm_u_at]; simpa [fm_u_at] using hr14 j (by simpa [fm_u_at] using hj)
  · simpa [fm_u_at] using hr15
  · intro j hj; simp only [fm_u_at]; simpa [fm_u_at] using hr16 j (by simpa [fm_u_at] using hj)
  · intro j hj; simp only [fm_u_at]; simpa [fm_u_at] using hr17 j (by simpa [fm_u_at] using hj)
  · simpa [fm_u_at] using hr18
  · intro j hj; simp only [fm_u_at]; simpa [fm_u_at] using hr19 j (by simpa [fm_u_at] using hj)
theorem fm_SR.u_cbits {P : fm_P} {M : fm_M} (h : fm_SR 1 P M) {i v : Nat} : fm_SR 1 (fm_u P 11 i v) (fm_pi M 10 i (nI v)) := by
  obtain ⟨⟨hparts, hodds, horder, hgates, hkind, hneed, hcnt, hinp, htop, hcauses, hcodds, hcbits⟩, hr12, hr13, hr14, hr15, hr16, hr17, hr18, hr19⟩ := h
  refine ⟨⟨?_, ?_, ?_, ?_, ?_, ?_, ?_, ?_, ?_, ?_, ?_, ?_⟩, ?_, ?_, ?_, ?_, ?_, ?_, ?_, ?_⟩
  · simpa [fm_u_at] using hparts
  · intro j hj; simp only [fm_u_at]; simpa [fm_u_at] using hodds j (by simpa [fm_u_at] using hj)
  · intro j hj; simp only [fm_u_at]; simpa [fm_u_at] using horder j (by simpa [fm_u_at] using hj)
  · simpa [fm_u_at] using hgates
  · intro j hj; simp only [fm_u_at]; simpa [fm_u_at] using hkind j (by simpa [fm_u_at] using hj)
  · intro j hj; simp only [fm_u_at]; simpa [fm_u_at] using hneed j (by simpa [fm_u_at] using hj)
  · intro j hj; simp only [fm_u_at]; simpa [fm_u_at] using hcnt j (by simpa [fm_u_at] using hj)
  · intro j hj; simp only [fm_u_at]; simpa [fm_u_at] using hinp j (by simpa [fm_u_at] using hj)
  · simpa [fm_u_at] using htop
  · simpa [fm_u_at] using hcauses
  · intro j hj; simp only [fm_u_at]; simpa [fm_u_at] using hcodds j (by simpa [fm_u_at] using hj)
  · intro j hj
    by_cases e : j = i
    · simp [fm_u_at, e]
    · simpa [fm_u_at, e] using hcbits j hj
  · simpa [fm_u_at] using hr12
  · intro j hj; simp only [fm_u_at]; simpa [fm_u_at] using hr13 j (by simpa [fm_u_at] using hj)
  · intro j hj; simp only [fm_u_at]; simpa [fm_u_at] using hr14 j (by simpa [fm_u_at] using hj)
  · simpa [fm_u_at] using hr15
  · intro j hj; simp only [fm_u_at]; simpa [fm_u_at] using hr16 j (by simpa [fm_u_at] using hj)
  · intro j hj; simp only [fm_u_at]; simpa [fm_u_at] using hr17 j (by simpa [fm_u_at] using hj)
  · simpa [fm_u_at] using hr18
  · intro j hj; simp only [fm_u_at]; simpa [fm_u_at] using hr19 j (by simpa [fm_u_at] using hj)
theorem fm_SR.u_top {P : fm_P} {M : fm_M} (h : fm_SR 1 P M) {v : Nat} : fm_SR 1 (fm_u P 8 0 v) (fm_pi M 2 8 (nI v - 1)) := by
  obtain ⟨⟨hparts, hodds, horder, hgates, hkind, hneed, hcnt, hinp, htop, hcauses, hcodds, hcbits⟩, hr12, hr13, hr14, hr15, hr16, hr17, hr18, hr19⟩ := h
  refine ⟨⟨?_, ?_, ?_, ?_, ?_, ?_, ?_, ?_, ?_, ?_, ?_, ?_⟩, ?_, ?_, ?_, ?_, ?_, ?_, ?_, ?_⟩
  · simpa [fm_u_at] using hparts
  · intro j hj; simp only [fm_u_at]; simpa [fm_u_at] using hodds j (by simpa [fm_u_at] using hj)
  · intro j hj; simp only [fm_u_at]; simpa [fm_u_at] using horder j (by simpa [fm_u_at] using hj)
  · simpa [fm_u_at] using hgates
  · intro j hj; simp only [fm_u_at]; simpa [fm_u_at] using hkind j (by simpa [fm_u_at] using hj)
  · intro j hj; simp only [fm_u_at]; simpa [fm_u_at] using hneed j (by simpa [fm_u_at] using hj)
  · intro j hj; simp only [fm_u_at]; simpa [fm_u_at] using hcnt j (by simpa [fm_u_at] using hj)
  · intro j hj; simp only [fm_u_at]; simpa [fm_u_at] using hinp j (by simpa [fm_u_at] using hj)
  · simp [fm_u_at]
  · simpa [fm_u_at] using hcauses
  · intro j hj; simp only [fm_u_at]; simpa [fm_u_at] using hcodds j (by simpa [fm_u_at] using hj)
  · intro j hj; simp only [fm_u_at]; simpa [fm_u_at] using hcbits j (by simpa [fm_u_at] using hj)
  · simpa [fm_u_at] using hr12
  · intro j hj; simp only [fm_u_at]; simpa [fm_u_at] using hr13 j (by simpa [fm_u_at] using hj)
  · intro j hj; simp only [fm_u_at]; simpa [fm_u_at] using hr14 j (by simpa [fm_u_at] using hj)
  · simpa [fm_u_at] using hr15
  · intro j hj; simp only [fm_u_at]; simpa [fm_u_at] using hr16 j (by simpa [fm_u_at] using hj)
  · intro j hj; simp only [fm_u_at]; simpa [fm_u_at] using hr17 j (by simpa [fm_u_at] using hj)
  · simpa [fm_u_at] using hr18
  · intro j hj; simp only [fm_u_at]; simpa [fm_u_at] using hr19 j (by simpa [fm_u_at] using hj)
theorem fm_SR.see {P : fm_P} {M : fm_M} (h : fm_SR 1 P M) {x y : Nat} : fm_SR 1 (fm_u (fm_u (fm_u P 13 (P 12 0) x) 14 (P 12 0) y) 12 0 (P 12 0 + 1)) (fm_pi (fm_pi (fm_pi M 14 (P 12 0) (nI x)) 15 (P 12 0) (nI y)) 13 2 (nI (P 12 0 + 1))) := by
  obtain ⟨⟨hparts, hodds, horder, hgates, hkind, hneed, hcnt, hinp, htop, hcauses, hcodds, hcbits⟩, hr12, hr13, hr14, hr15, hr16, hr17, hr18, hr19⟩ := h
  refine ⟨⟨?_, ?_, ?_, ?_, ?_, ?_, ?_, ?_, ?_, ?_, ?_, ?_⟩, ?_, ?_, ?_, ?_, ?_, ?_, ?_, ?_⟩
  · simpa [fm_u_at] using hparts
  · intro j hj; simp only [fm_u_at]; simpa [fm_u_at] using hodds j (by simpa [fm_u_at] using hj)
  · intro j hj; simp only [fm_u_at]; simpa [fm_u_at] using horder j (by simpa [fm_u_at] using hj)
  · simpa [fm_u_at] using hgates
  · intro j hj; simp only [fm_u_at]; simpa [fm_u_at] using hkind j (by simpa [fm_u_at] using hj)
  · intro j hj; simp only [fm_u_at]; simpa [fm_u_at] using hneed j (by simpa [fm_u_at] using hj)
  · intro j hj; simp only [fm_u_at]; simpa [fm_u_at] using hcnt j (by simpa [fm_u_at] using hj)
  · intro j hj; simp only [fm_u_at]; simpa [fm_u_at] using hinp j (by simpa [fm_u_at] using hj)
  · simpa [fm_u_at] using htop
  · simpa [fm_u_at] using hcauses
  · intro j hj; simp only [fm_u_at]; simpa [fm_u_at] using hcodds j (by simpa [fm_u_at] using hj)
  · intro j hj; simp only [fm_u_at]; simpa [fm_u_at] using hcbits j (by simpa [fm_u_at] using hj)
  · simp [fm_u_at]
  · intro j hj
    have hj2 : j < P 12 0 + 1 := by simpa [fm_u_at] using hj
    by_cases e : j = P 12 0
    · simp [fm_u_at, e]
    · simpa [fm_u_at, e] using hr13 j (by omega)
  · intro j hj
    have hj2 : j < P 12 0 + 1 := by simpa [fm_u_at] using hj
    by_cases e : j = P 12 0
    · simp [fm_u_at, e]
    · simpa [fm_u_at, e] using hr14 j (by omega)
  · simpa [fm_u_at] using hr15
  · intro j hj; simp only [fm_u_at]; simpa [fm_u_at] using hr16 j (by simpa [fm_u_at] using hj)
  · intro j hj; simp only [fm_u_at]; simpa [fm_u_at] using hr17 j (by simpa [fm_u_at] using hj)
  · simpa [fm_u_at] using hr18
  · intro j hj; simp only [fm_u_at]; simpa [fm_u_at] using hr19 j (by simpa [fm_u_at] using hj)
theorem fm_SR.event {P : fm_P} {M : fm_M} (h : fm_SR 1 P M) {x y : Nat} : fm_SR 1 (fm_u (fm_u (fm_u P 16 (P 15 0) x) 17 (P 15 0) y) 15 0 (P 15 0 + 1)) (fm_pi (fm_pi (fm_pi M 17 (P 15 0) (nI x)) 18 (P 15 0) (nI y)) 16 2 (nI (P 15 0 + 1))) := by
  obtain ⟨⟨hparts, hodds, horder, hgates, hkind, hneed, hcnt, hinp, htop, hcauses, hcodds, hcbits⟩, hr12, hr13, hr14, hr15, hr16, hr17, hr18, hr19⟩ := h
  refine ⟨⟨?_, ?_, ?_, ?_, ?_, ?_, ?_, ?_, ?_, ?_, ?_, ?_⟩, ?_, ?_, ?_, ?_, ?_, ?_, ?_, ?_⟩
  · simpa [fm_u_at] using hparts
  · intro j hj; simp only [fm_u_at]; simpa [fm_u_at] using hodds j (by simpa [fm_u_at] using hj)
  · intro j hj; simp only [fm_u_at]; simpa [fm_u_at] using horder j (by simpa [fm_u_at] using hj)
  · simpa [fm_u_at] using hgates
  · intro j hj; simp only [fm_u_at]; simpa [fm_u_at] using hkind j (by simpa [fm_u_at] using hj)
  · intro j hj; simp only [fm_u_at]; simpa [fm_u_at] using hneed j (by simpa [fm_u_at] using hj)
  · intro j hj; simp only [fm_u_at]; simpa [fm_u_at] using hcnt j (by simpa [fm_u_at] using hj)
  · intro j hj; simp only [fm_u_at]; simpa [fm_u_at] using hinp j (by simpa [fm_u_at] using hj)
  · simpa [fm_u_at] using htop
  · simpa [fm_u_at] using hcauses
  · intro j hj; simp only [fm_u_at]; simpa [fm_u_at] using hcodds j (by simpa [fm_u_at] using hj)
  · intro j hj; simp only [fm_u_at]; simpa [fm_u_at] using hcbits j (by simpa [fm_u_at] using hj)
  · simpa [fm_u_at] using hr12
  · intro j hj; simp only [fm_u_at]; simpa [fm_u_at] using hr13 j (by simpa [fm_u_at] using hj)
  · intro j hj; simp only [fm_u_at]; simpa [fm_u_at] using hr14 j (by simpa [fm_u_at] using hj)
  · simp [fm_u_at]
  · intro j hj
    have hj2 : j < P 15 0 + 1 := by simpa [fm_u_at] using hj
    by_cases e : j = P 15 0
    · simp [fm_u_at, e]
    · simpa [fm_u_at, e] using hr16 j (by omega)
  · intro j hj
    have hj2 : j < P 15 0 + 1 := by simpa [fm_u_at] using hj
    by_cases e : j = P 15 0
    · simp [fm_u_at, e]
    · simpa [fm_u_at, e] using hr17 j (by omega)
  · simpa [fm_u_at] using hr18
  · intro j hj; simp only [fm_u_at]; simpa [fm_u_at] using hr19 j (by simpa [fm_u_at] using hj)
theorem fm_SR.book {P : fm_P} {M : fm_M} (h : fm_SR 1 P M) {x : Nat} {y : Int32} : fm_SR 1 (fm_u (fm_u P 19 (P 18 0) x) 18 0 (P 18 0 + 1)) (fm_pi (fm_pi (fm_pi M 20 (P 18 0) (nI x)) 21 (P 18 0) (y)) 19 2 (nI (P 18 0 + 1))) := by
  obtain ⟨⟨hparts, hodds, horder, hgates, hkind, hneed, hcnt, hinp, htop, hcauses, hcodds, hcbits⟩, hr12, hr13, hr14, hr15, hr16, hr17, hr18, hr19⟩ := h
  refine ⟨⟨?_, ?_, ?_, ?_, ?_, ?_, ?_, ?_, ?_, ?_, ?_, ?_⟩, ?_, ?_, ?_, ?_, ?_, ?_, ?_, ?_⟩
  · simpa [fm_u_at] using hparts
  · intro j hj; simp only [fm_u_at]; simpa [fm_u_at] using hodds j (by simpa [fm_u_at] using hj)
  · intro j hj; simp only [fm_u_at]; simpa [fm_u_at] using horder j (by simpa [fm_u_at] using hj)
  · simpa [fm_u_at] using hgates
  · intro j hj; simp only [fm_u_at]; simpa [fm_u_at] using hkind j (by simpa [fm_u_at] using hj)
  · intro j hj; simp only [fm_u_at]; simpa [fm_u_at] using hneed j (by simpa [fm_u_at] using hj)
  · intro j hj; simp only [fm_u_at]; simpa [fm_u_at] using hcnt j (by simpa [fm_u_at] using hj)
  · intro j hj; simp only [fm_u_at]; simpa [fm_u_at] using hinp j (by simpa [fm_u_at] using hj)
  · simpa [fm_u_at] using htop
  · simpa [fm_u_at] using hcauses
  · intro j hj; simp only [fm_u_at]; simpa [fm_u_at] using hcodds j (by simpa [fm_u_at] using hj)
  · intro j hj; simp only [fm_u_at]; simpa [fm_u_at] using hcbits j (by simpa [fm_u_at] using hj)
  · simpa [fm_u_at] using hr12
  · intro j hj; simp only [fm_u_at]; simpa [fm_u_at] using hr13 j (by simpa [fm_u_at] using hj)
  · intro j hj; simp only [fm_u_at]; simpa [fm_u_at] using hr14 j (by simpa [fm_u_at] using hj)
  · simpa [fm_u_at] using hr15
  · intro j hj; simp only [fm_u_at]; simpa [fm_u_at] using hr16 j (by simpa [fm_u_at] using hj)
  · intro j hj; simp only [fm_u_at]; simpa [fm_u_at] using hr17 j (by simpa [fm_u_at] using hj)
  · simp [fm_u_at]
  · intro j hj
    have hj2 : j < P 18 0 + 1 := by simpa [fm_u_at] using hj
    by_cases e : j = P 18 0
    · simp [fm_u_at, e]
    · simpa [fm_u_at, e] using hr19 j (by omega)
theorem fm_SR.see0 {P : fm_P} {M : fm_M} (h : fm_SR 1 P M) : fm_SR 1 (fm_u P 12 0 0) (fm_pi M 13 2 (nI 0)) := by
  obtain ⟨⟨hparts, hodds, horder, hgates, hkind, hneed, hcnt, hinp, htop, hcauses, hcodds, hcbits⟩, hr12, hr13, hr14, hr15, hr16, hr17, hr18, hr19⟩ := h
  refine ⟨⟨?_, ?_, ?_, ?_, ?_, ?_, ?_, ?_, ?_, ?_, ?_, ?_⟩, ?_, ?_, ?_, ?_, ?_, ?_, ?_, ?_⟩
  · simpa [fm_u_at] using hparts
  · intro j hj; simp only [fm_u_at]; simpa [fm_u_at] using hodds j (by simpa [fm_u_at] using hj)
  · intro j hj; simp only [fm_u_at]; simpa [fm_u_at] using horder j (by simpa [fm_u_at] using hj)
  · simpa [fm_u_at] using hgates
  · intro j hj; simp only [fm_u_at]; simpa [fm_u_at] using hkind j (by simpa [fm_u_at] using hj)
  · intro j hj; simp only [fm_u_at]; simpa [fm_u_at] using hneed j (by simpa [fm_u_at] using hj)
  · intro j hj; simp only [fm_u_at]; simpa [fm_u_at] using hcnt j (by simpa [fm_u_at] using hj)
  · intro j hj; simp only [fm_u_at]; simpa [fm_u_at] using hinp j (by simpa [fm_u_at] using hj)
  · simpa [fm_u_at] using htop
  · simpa [fm_u_at] using hcauses
  · intro j hj; simp only [fm_u_at]; simpa [fm_u_at] using hcodds j (by simpa [fm_u_at] using hj)
  · intro j hj; simp only [fm_u_at]; simpa [fm_u_at] using hcbits j (by simpa [fm_u_at] using hj)
  · simp [fm_u_at]
  · intro j hj
    simp [fm_u_at] at hj
  · intro j hj
    simp [fm_u_at] at hj
  · simpa [fm_u_at] using hr15
  · intro j hj; simp only [fm_u_at]; simpa [fm_u_at] using hr16 j (by simpa [fm_u_at] using hj)
  · intro j hj; simp only [fm_u_at]; simpa [fm_u_at] using hr17 j (by simpa [fm_u_at] using hj)
  · simpa [fm_u_at] using hr18
  · intro j hj; simp only [fm_u_at]; simpa [fm_u_at] using hr19 j (by simpa [fm_u_at] using hj)
theorem fm_SR.event0 {P : fm_P} {M : fm_M} (h : fm_SR 1 P M) : fm_SR 1 (fm_u P 15 0 0) (fm_pi M 16 2 (nI 0)) := by
  obtain ⟨⟨hparts, hodds, horder, hgates, hkind, hneed, hcnt, hinp, htop, hcauses, hcodds, hcbits⟩, hr12, hr13, hr14, hr15, hr16, hr17, hr18, hr19⟩ := h
  refine ⟨⟨?_, ?_, ?_, ?_, ?_, ?_, ?_, ?_, ?_, ?_, ?_, ?_⟩, ?_, ?_, ?_, ?_, ?_, ?_, ?_, ?_⟩
  · simpa [fm_u_at] using hparts
  · intro j hj; simp only [fm_u_at]; simpa [fm_u_at] using hodds j (by simpa [fm_u_at] using hj)
  · intro j hj; simp only [fm_u_at]; simpa [fm_u_at] using horder j (by simpa [fm_u_at] using hj)
  · simpa [fm_u_at] using hgates
  · intro j hj; simp only [fm_u_at]; simpa [fm_u_at] using hkind j (by simpa [fm_u_at] using hj)
  · intro j hj; simp only [fm_u_at]; simpa [fm_u_at] using hneed j (by simpa [fm_u_at] using hj)
  · intro j hj; simp only [fm_u_at]; simpa [fm_u_at] using hcnt j (by simpa [fm_u_at] using hj)
  · intro j hj; simp only [fm_u_at]; simpa [fm_u_at] using hinp j (by simpa [fm_u_at] using hj)
  · simpa [fm_u_at] using htop
  · simpa [fm_u_at] using hcauses
  · intro j hj; simp only [fm_u_at]; simpa [fm_u_at] using hcodds j (by simpa [fm_u_at] using hj)
  · intro j hj; simp only [fm_u_at]; simpa [fm_u_at] using hcbits j (by simpa [fm_u_at] using hj)
  · simpa [fm_u_at] using hr12
  · intro j hj; simp only [fm_u_at]; simpa [fm_u_at] using hr13 j (by simpa [fm_u_at] using hj)
  · intro j hj; simp only [fm_u_at]; simpa [fm_u_at] using hr14 j (by simpa [fm_u_at] using hj)
  · simp [fm_u_at]
  · intro j hj
    simp [fm_u_at] at hj
  · intro j hj
    simp [fm_u_at] at hj
  · simpa [fm_u_at] using hr18
  · intro j hj; simp only [fm_u_at]; simpa [fm_u_at] using hr19 j (by simpa [fm_u_at] using hj)
theorem fm_SR.book0 {P : fm_P} {M : fm_M} (h : fm_SR 1 P M) : fm_SR 1 (fm_u P 18 0 0) (fm_pi M 19 2 (nI 0)) := by
  obtain ⟨⟨hparts, hodds, horder, hgates, hkind, hneed, hcnt, hinp, htop, hcauses, hcodds, hcbits⟩, hr12, hr13, hr14, hr15, hr16, hr17, hr18, hr19⟩ := h
  refine ⟨⟨?_, ?_, ?_, ?_, ?_, ?_, ?_, ?_, ?_, ?_, ?_, ?_⟩, ?_, ?_, ?_, ?_, ?_, ?_, ?_, ?_⟩
  · simpa [fm_u_at] using hparts
  · intro j hj; simp only [fm_u_at]; simpa [fm_u_at] using hodds j (by simpa [fm_u_at] using hj)
  · intro j hj; simp only [fm_u_at]; simpa [fm_u_at] using horder j (by simpa [fm_u_at] using hj)
  · simpa [fm_u_at] using hgates
  · intro j hj; simp only [fm_u_at]; simpa [fm_u_at] using hkind j (by simpa [fm_u_at] using hj)
  · intro j hj; simp only [fm_u_at]; simpa [fm_u_at] using hneed j (by simpa [fm_u_at] using hj)
  · intro j hj; simp only [fm_u_at]; simpa [fm_u_at] using hcnt j (by simpa [fm_u_at] using hj)
  · intro j hj; simp only [fm_u_at]; simpa [fm_u_at] using hinp j (by simpa [fm_u_at] using hj)
  · simpa [fm_u_at] using htop
  · simpa [fm_u_at] using hcauses
  · intro j hj; simp only [fm_u_at]; simpa [fm_u_at] using hcodds j (by simpa [fm_u_at] using hj)
  · intro j hj; simp only [fm_u_at]; simpa [fm_u_at] using hcbits j (by simpa [fm_u_at] using hj)
  · simpa [fm_u_at] using hr12
  · intro j hj; simp only [fm_u_at]; simpa [fm_u_at] using hr13 j (by simpa [fm_u_at] using hj)
  · intro j hj; simp only [fm_u_at]; simpa [fm_u_at] using hr14 j (by simpa [fm_u_at] using hj)
  · simpa [fm_u_at] using hr15
  · intro j hj; simp only [fm_u_at]; simpa [fm_u_at] using hr16 j (by simpa [fm_u_at] using hj)
  · intro j hj; simp only [fm_u_at]; simpa [fm_u_at] using hr17 j (by simpa [fm_u_at] using hj)
  · simp [fm_u_at]
  · intro j hj
    simp [fm_u_at] at hj
