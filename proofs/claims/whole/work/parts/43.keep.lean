/-! ===== what always holds goes on to hold ===== -/
theorem fm_clamp_lt {n : Int32} {c : Nat} (hc : c < 2 ^ 31) (h : fm_lt n c = true) : n.toNatClampNeg < c := by
  obtain ⟨a, ha, rfl⟩ := fm_lt_of hc h
  rw [nI_clamp (by omega)]
  exact ha
theorem fm_ord.up {n : Nat} {f : Nat → Nat} (h : fm_ord n f) : fm_ord (n + 1) (fun b => if b = n then n else f b) := by
  refine ⟨fun j hj => ?_, fun i j hi hj e => ?_, fun a ha => ?_⟩
  · show (if j = n then n else f j) < n + 1
    split
    · omega
    · have := h.1 j (by omega); omega
  · have e : (if i = n then n else f i) = (if j = n then n else f j) := e
    split at e <;> split at e
    · omega
    · have := h.1 j (by omega); omega
    · have := h.1 i (by omega); omega
    · exact h.2.1 i j (by omega) (by omega) e
  · by_cases e : a = n
    · exact ⟨n, by omega, by show (if n = n then n else f n) = a; rw [if_pos rfl, e]⟩
    · obtain ⟨j, hj, e2⟩ := h.2.2 a (by omega)
      exact ⟨j, by omega, by show (if j = n then n else f j) = a; rw [if_neg (by omega)]; exact e2⟩
theorem fm_2up {a n : Nat} (h : a < 2 ^ n) : a < 2 ^ (n + 1) := by rw [Nat.pow_succ]; omega
theorem kp_part {P : fm_P} (h : fm_wF P) (n : Int32) : fm_wF (sp_part P n).2 := by
  unfold sp_part
  split
  · rename_i hl
    have hv := fm_clamp_lt (by omega) hl
    split
    · rename_i hp
      obtain ⟨⟨a1, a2, a3, a4, a5, a6, a7, a8, a9, b1, b2, b3⟩, c1, c2, c3, c4, c5, c6⟩ := h
      refine ⟨⟨?_, a2, a3, a4, fun j => ?_, a6, a7, a8, fun g i hg hi => ?_, ?_, b2, fun c hc => ?_⟩, c1, c2, c3, fun j hj => ?_, fun j hj => ?_, fun j hj => ?_⟩
      · show P 0 0 + 1 ≤ 6; omega
      · show (if j = P 0 0 then n.toNatClampNeg else P 1 j) ≤ 100
        split
        · omega
        · exact a5 j
      · show P 7 (4 * g + i) < P 0 0 + 1 ∨ _
        rcases a9 g i hg hi with q | q
        · exact Or.inl (by omega)
        · exact Or.inr q
      · exact b1.up
      · exact fm_2up (b3 c hc)
      · exact ⟨fm_2up (c4 j hj).1, (c4 j hj).2⟩
      · refine ⟨(c5 j hj).1, fun q => ?_, (c5 j hj).2.2⟩
        show P 17 j < P 0 0 + 1
        have := (c5 j hj).2.1 q
        omega
      · exact fm_2up (c6 j hj)
    · exact h
  · exact h
theorem kp_gate {P : fm_P} (h : fm_wF P) (n m : Int32) : fm_wF (sp_gate P n m).2 := by
  unfold sp_gate
  split
  · rename_i hl
    rw [Bool.and_eq_true] at hl
    have hv := fm_clamp_lt (by omega) hl.1
    have hu := fm_clamp_lt (by omega) hl.2
    split
    · rename_i hp
      obtain ⟨⟨a1, a2, a3, a4, a5, a6, a7, a8, a9, b1, b2, b3⟩, c1, c2, c3, c4, c5, c6⟩ := h
      refine ⟨⟨a1, ?_, a3, ?_, a5, fun j => ?_, fun j => ?_, fun j => ?_, fun g i hg hi => ?_, b1, b2, b3⟩, c1, c2, c3, c4, fun j hj => ?_, c6⟩
      · show P 3 0 + 1 ≤ 8; omega
      · show P 8 0 ≤ P 3 0 + 1; omega
      · show (if j = P 3 0 then n.toNatClampNeg else P 4 j) ≤ 2
        split
        · omega
        · exact a6 j
      · show (if j = P 3 0 then m.toNatClampNeg else P 5 j) ≤ 5
        split
        · omega
        · exact a7 j
      · show (if j = P 3 0 then 0 else P 6 j) ≤ 4
        split
        · omega
        · exact a8 j
      · have hg : g < P 3 0 + 1 := hg
        have hi : i < (if g = P 3 0 then 0 else P 6 g) := hi
        split at hi
        · omega
        · exact a9 g i (by omega) hi
      · refine ⟨(c5 j hj).1, (c5 j hj).2.1, fun q => ?_⟩
        show P 17 j < P 3 0 + 1
        have := (c5 j hj).2.2 q
        omega
    · exact h
  · exact h
theorem kp_turn {P : fm_P} (h : fm_wF P) (g n m : Int32) : fm_wF (sp_turn P g n m).2 := by
  unfold sp_turn
  split
  · split
    · rename_i hl
      rw [Bool.and_eq_true] at hl
      have hv := fm_clamp_lt (by omega) hl.1
      have hu := fm_clamp_lt (by omega) hl.2
      exact ⟨(h.1.u_kind (by omega)).u_need (by omega), h.2⟩
    · exact h
  · exact h
theorem kp_in {P : fm_P} (h : fm_wF P) {g x : Nat} (hx : x < P 0 0 ∨ (10 ≤ x ∧ x < 10 + g)) : fm_wF (sp_in P g x).2 := by
  unfold sp_in
  split
  · rename_i hp
    obtain ⟨⟨a1, a2, a3, a4, a5, a6, a7, a8, a9, b1, b2, b3⟩, c⟩ := h
    refine ⟨⟨a1, a2, a3, a4, a5, a6, a7, fun j => ?_, fun q i hq hi => ?_, b1, b2, b3⟩, c⟩
    · show (if j = g then P 6 g + 1 else P 6 j) ≤ 4
      split
      · omega
      · exact a8 j
    · have hq : q < P 3 0 := hq
      have hi : i < (if q = g then P 6 g + 1 else P 6 q) := hi
      show (if 4 * q + i = g * 4 + P 6 g then x else P 7 (4 * q + i)) < P 0 0 ∨ 10 ≤ (if 4 * q + i = g * 4 + P 6 g then x else P 7 (4 * q + i)) ∧ (if 4 * q + i = g * 4 + P 6 g then x else P 7 (4 * q + i)) < 10 + q
      have h4 := a8 q
      by_cases e : q = g
      · rw [if_pos e] at hi
        subst e
        by_cases e2 : i = P 6 q
        · rw [if_pos (by omega)]; exact hx
        · rw [if_neg (by omega)]; exact a9 q i hq (by omega)
      · rw [if_neg e] at hi
        rw [if_neg (by omega)]
        exact a9 q i hq hi
  · exact h
theorem kp_join {P : fm_P} (h : fm_wF P) (g : Int32) (b : Bool) (n : Int32) : fm_wF (sp_join P g b n).2 := by
  have h8 := h.1.g8
  have h6 := h.1.p6
  unfold sp_join
  split
  · rename_i hg
    split
    · split
      · rename_i hn
        exact kp_in h (Or.inl (fm_clamp_lt (by omega) hn))
      · exact h
    · split
      · rename_i hn
        split
        · rename_i hlt
          obtain ⟨c, hc, rfl⟩ := fm_lt_of (by omega) hg
          obtain ⟨d, hd, rfl⟩ := fm_lt_of (by omega) hn
          have hdc := (nI_ltI (show d < 2 ^ 31 by omega) (show c < 2 ^ 31 by omega)).mp hlt
          rw [nI_clamp (show c < 2 ^ 31 by omega), nI_clamp (show d < 2 ^ 31 by omega)]
          exact kp_in h (Or.inr (by omega))
        · exact h
      · exact h
  · exact h
theorem kp_drop {P : fm_P} (h : fm_wF P) (g : Int32) : fm_wF (sp_drop P g).2 := by
  unfold sp_drop
  split
  · split
    · exact h
    · obtain ⟨⟨a1, a2, a3, a4, a5, a6, a7, a8, a9, b1, b2, b3⟩, c⟩ := h
      generalize g.toNatClampNeg = q
      refine ⟨⟨a1, a2, a3, a4, a5, a6, a7, fun j => ?_, fun r i hr hi => ?_, b1, b2, b3⟩, c⟩
      · show (if j = q then P 6 q - 1 else P 6 j) ≤ 4
        have := a8 q
        split
        · omega
        · exact a8 j
      · have hi : i < (if r = q then P 6 q - 1 else P 6 r) := hi
        refine a9 r i hr ?_
        split at hi
        · rename_i e; rw [e]; omega
        · exact hi
  · exact h
theorem kp_top {P : fm_P} (h : fm_wF P) (g : Int32) : fm_wF (sp_top P g).2 := by
  have h8 := h.1.g8
  unfold sp_top
  split
  · obtain ⟨⟨a1, a2, a3, a4, a5, a6, a7, a8, a9, b1, b2, b3⟩, c⟩ := h
    exact ⟨⟨a1, a2, a3, Nat.zero_le _, a5, a6, a7, a8, a9, b1, b2, b3⟩, c⟩
  · split
    · rename_i hl
      have hv := fm_clamp_lt (by omega) hl
      obtain ⟨⟨a1, a2, a3, a4, a5, a6, a7, a8, a9, b1, b2, b3⟩, c⟩ := h
      exact ⟨⟨a1, a2, a3, hv, a5, a6, a7, a8, a9, b1, b2, b3⟩, c⟩
    · exact h
theorem kp_cause {P : fm_P} (h : fm_wF P) (n b : Int32) : fm_wF (sp_cause P n b).2 := by
  have h6 := h.1.p6
  have h2c := fm_2c h6
  unfold sp_cause
  split
  · rename_i hl
    rw [Bool.and_eq_true] at hl
    have hv := fm_clamp_lt (by omega) hl.1
    have hu := fm_clamp_lt (by omega) hl.2
    split
    · rename_i hp
      obtain ⟨⟨a1, a2, a3, a4, a5, a6, a7, a8, a9, b1, b2, b3⟩, c⟩ := h
      refine ⟨⟨a1, a2, ?_, a4, a5, a6, a7, a8, a9, b1, fun j => ?_, fun j hj => ?_⟩, c⟩
      · show P 9 0 + 1 ≤ 3; omega
      · show (if j = P 9 0 then n.toNatClampNeg else P 10 j) ≤ 100
        split
        · omega
        · exact b2 j
      · have hj : j < P 9 0 + 1 := hj
        show (if j = P 9 0 then b.toNatClampNeg else P 11 j) < 2 ^ P 0 0
        split
        · exact hu
        · exact b3 j (by omega)
    · exact h
  · exact h
theorem kp_odds {P : fm_P} (h : fm_wF P) (s k v : Int32) : fm_wF (sp_odds P s k v).2 := by
  unfold sp_odds
  split
  · split
    · rename_i hl
      have hv := fm_clamp_lt (by omega) hl
      exact ⟨h.1.u_odds (by omega), h.2⟩
    · exact h
  · split
    · split
      · rename_i hl
        have hv := fm_clamp_lt (by omega) hl
        obtain ⟨⟨a1, a2, a3, a4, a5, a6, a7, a8, a9, b1, b2, b3⟩, c⟩ := h
        refine ⟨⟨a1, a2, a3, a4, a5, a6, a7, a8, a9, b1, fun j => ?_, b3⟩, c⟩
        show (if j = k.toNatClampNeg then v.toNatClampNeg else P 10 j) ≤ 100
        split
        · omega
        · exact b2 j
      · exact h
    · exact h
theorem kp_mv {P : fm_P} (h : fm_wF P) {a b : Nat} (ha : a < P 0 0) (hb : b < P 0 0) : fm_wF (sp_mv P a b) := ⟨h.1.mv ha hb, h.2⟩
theorem kp_move {P : fm_P} (h : fm_wF P) (n m : Int32) : fm_wF (sp_move P n m).2 := by
  have h6 := h.1.p6
  unfold sp_move
  split
  · rename_i h1
    split
    · rename_i h2
      exact kp_mv h (fm_clamp_lt (by omega) h1) (fm_clamp_lt (by omega) h2)
    · exact h
  · exact h
theorem kp_sift {P : fm_P} (h : fm_wF P) (n : Int32) : fm_wF (sp_sift P n).2 := by
  have h6 := h.1.p6
  unfold sp_sift
  split
  · rename_i h1
    have ha := fm_clamp_lt (by omega) h1
    split
    · exact h
    · exact kp_mv h ha (sp_best_lt P _ (by omega))
  · exact h
theorem kp_see {P : fm_P} (h : fm_wF P) (n : Int32) (b : Bool) : fm_wF (sp_see P n b).2 := by
  have h2c := fm_2c h.1.p6
  unfold sp_see
  split
  · exact ⟨h.1, Nat.zero_le _, h.2.2.1, h.2.2.2.1, fun j hj => absurd (show j < 0 from hj) (by omega), h.2.2.2.2.2⟩
  · split
    · rename_i hl
      have hu := fm_clamp_lt (by omega) hl
      split
      · obtain ⟨a, c1, c2, c3, c4, c5, c6⟩ := h
        refine ⟨a, ?_, c2, c3, fun j hj => ?_, c5, c6⟩
        · show P 12 0 + 1 ≤ 6; omega
        · have hj : j < P 12 0 + 1 := hj
          show (if j = P 12 0 then n.toNatClampNeg else P 13 j) < 2 ^ P 0 0 ∧ (if j = P 12 0 then fm_bn b else P 14 j) ≤ 1
          by_cases e : j = P 12 0
          · rw [if_pos e, if_pos e]
            exact ⟨hu, by cases b <;> decide⟩
          · rw [if_neg e, if_neg e]
            exact c4 j (by omega)
      · exact h
    · exact h
theorem kp_book {P : fm_P} (h : fm_wF P) (n : Int32) : fm_wF (sp_book P n).2 := by
  have h2c := fm_2c h.1.p6
  unfold sp_book
  split
  · exact ⟨h.1, h.2.1, h.2.2.1, Nat.zero_le _, h.2.2.2.2.1, h.2.2.2.2.2.1, fun j hj => absurd (show j < 0 from hj) (by omega)⟩
  · split
    · rename_i hl
      have hu := fm_clamp_lt (by omega) hl
      split
      · obtain ⟨a, c1, c2, c3, c4, c5, c6⟩ := h
        refine ⟨a, c1, c2, ?_, c4, c5, fun j hj => ?_⟩
        · show P 18 0 + 1 ≤ 8; omega
        · have hj : j < P 18 0 + 1 := hj
          show (if j = P 18 0 then n.toNatClampNeg else P 19 j) < 2 ^ P 0 0
          by_cases e : j = P 18 0
          · rw [if_pos e]; exact hu
          · rw [if_neg e]; exact c6 j (by omega)
      · exact h
    · exact h
theorem kp_event {P : fm_P} (h : fm_wF P) (w n : Int32) : fm_wF (sp_event P w n).2 := by
  have h6 := h.1.p6
  have h8 := h.1.g8
  unfold sp_event
  split
  · exact ⟨h.1, h.2.1, Nat.zero_le _, h.2.2.2.1, h.2.2.2.2.1, fun j hj => absurd (show j < 0 from hj) (by omega), h.2.2.2.2.2.2⟩
  · split
    · rename_i hl
      split
      · have hq : w.toNatClampNeg ≤ 3 ∧ (w.toNatClampNeg < 2 → n.toNatClampNeg < P 0 0) ∧ (2 ≤ w.toNatClampNeg → n.toNatClampNeg < P 3 0) := by
          unfold sp_evok at hl
          simp only [Bool.or_eq_true, Bool.and_eq_true, decide_eq_true_eq] at hl
          rcases hl with ⟨hl | hl, h2⟩ | ⟨hl | hl, h2⟩
          · rw [hl, nI_clamp (by omega)]; exact ⟨by omega, fun _ => fm_clamp_lt (by omega) h2, fun q => by omega⟩
          · rw [hl, nI_clamp (by omega)]; exact ⟨by omega, fun _ => fm_clamp_lt (by omega) h2, fun q => by omega⟩
          · rw [hl, nI_clamp (by omega)]; exact ⟨by omega, fun q => by omega, fun _ => fm_clamp_lt (by omega) h2⟩
          · rw [hl, nI_clamp (by omega)]; exact ⟨by omega, fun q => by omega, fun _ => fm_clamp_lt (by omega) h2⟩
        obtain ⟨a, c1, c2, c3, c4, c5, c6⟩ := h
        refine ⟨a, c1, ?_, c3, c4, fun j hj => ?_, c6⟩
        · show P 15 0 + 1 ≤ 8; omega
        · have hj : j < P 15 0 + 1 := hj
          show (if j = P 15 0 then w.toNatClampNeg else P 16 j) ≤ 3 ∧ ((if j = P 15 0 then w.toNatClampNeg else P 16 j) < 2 → (if j = P 15 0 then n.toNatClampNeg else P 17 j) < P 0 0) ∧ (2 ≤ (if j = P 15 0 then w.toNatClampNeg else P 16 j) → (if j = P 15 0 then n.toNatClampNeg else P 17 j) < P 3 0)
          by_cases e : j = P 15 0
          · rw [if_pos e, if_pos e]; exact hq
          · rw [if_neg e, if_neg e]; exact c5 j (by omega)
      · exact h
    · exact h
