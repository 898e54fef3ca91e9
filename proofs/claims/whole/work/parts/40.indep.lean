/-! ===== the graph doesn't hang on what its rows held before ===== -/
theorem fm_mt_congr {T T' : Nat → Int64} (t : Int64) : ∀ d i, (∀ j, i ≤ j → j < i + d → T j = T' j) → fm_mt T t i d = fm_mt T' t i d := by
  intro d
  induction d with
  | zero => intro i _; rfl
  | succ d ih =>
    intro i h
    unfold fm_mt
    rw [h i (by omega) (by omega), ih (i + 1) (fun j h1 h2 => h j (by omega) (by omega))]
/-- the same nodes, so far as their tables and parts go -/
def fm_gq (S S' : fm_GS) : Prop := S.1 = S'.1 ∧ ∀ j, j < S.1 → S.2.1 j = S'.2.1 j ∧ S.2.2.1 j = S'.2.2.1 j
/-- what became of S and S' alike: the nodes that came are the same, the old ones' works and fails are as they were -/
def fm_gr (S S' : fm_GS) (R R' : Int32 × fm_GS) : Prop := R.1 = R'.1 ∧ fm_gq R.2 R'.2 ∧ S.1 ≤ R.2.1 ∧ (∀ j, j < S.1 → R.2.2.2.2.1 j = S.2.2.2.1 j ∧ R'.2.2.2.2.1 j = S'.2.2.2.1 j ∧ R.2.2.2.2.2 j = S.2.2.2.2 j ∧ R'.2.2.2.2.2 j = S'.2.2.2.2 j) ∧ ∀ j, S.1 ≤ j → j < R.2.1 → R.2.2.2.2.1 j = R'.2.2.2.2.1 j ∧ R.2.2.2.2.2 j = R'.2.2.2.2.2 j
theorem fm_gr.stay {S S' : fm_GS} (h : fm_gq S S') (r : Int32) : fm_gr S S' (r, S) (r, S') := ⟨rfl, h, Nat.le_refl _, fun j _ => ⟨rfl, rfl, rfl, rfl⟩, fun j h1 h2 => absurd h2 (Nat.not_lt.mpr h1)⟩
theorem fm_up_at {α : Type} (f : Nat → α) (n : Nat) (v : α) (j : Nat) : fm_up f n v j = if j = n then v else f j := rfl
theorem fm_meet_gr (o : Nat → Nat) (c : Nat) : ∀ (d : Nat) (t : Int64) (pl : Nat) (S S' : fm_GS), fm_gq S S' → fm_gr S S' (fm_meet o c d t pl S) (fm_meet o c d t pl S') := by
  intro d
  induction d with
  | zero =>
    intro t pl S S' h
    have em : fm_mt S.2.1 t 0 S.1 = fm_mt S'.2.1 t 0 S'.1 := by
      rw [← h.1]
      exact fm_mt_congr t S.1 0 (fun j _ hj => (h.2 j (by omega)).1)
    by_cases h0 : t = 0
    · rw [fm_meet_0 o c 0 pl S h0, fm_meet_0 o c 0 pl S' h0]; exact fm_gr.stay h _
    · by_cases h1 : t = -1
      · rw [fm_meet_m1 o c 0 pl S h0 h1, fm_meet_m1 o c 0 pl S' h0 h1]; exact fm_gr.stay h _
      · cases hm : fm_mt S.2.1 t 0 S.1 with
        | some i => rw [fm_meet_some o c 0 pl S h0 h1 hm, fm_meet_some o c 0 pl S' h0 h1 (by rw [← em]; exact hm)]; exact fm_gr.stay h _
        | none => rw [fm_meet_z o c pl S h0 h1 hm, fm_meet_z o c pl S' h0 h1 (by rw [← em]; exact hm)]; exact fm_gr.stay h _
  | succ d ih =>
    intro t pl S S' h
    have em : fm_mt S.2.1 t 0 S.1 = fm_mt S'.2.1 t 0 S'.1 := by
      rw [← h.1]
      exact fm_mt_congr t S.1 0 (fun j _ hj => (h.2 j (by omega)).1)
    by_cases h0 : t = 0
    · rw [fm_meet_0 o c (d + 1) pl S h0, fm_meet_0 o c (d + 1) pl S' h0]; exact fm_gr.stay h _
    · by_cases h1 : t = -1
      · rw [fm_meet_m1 o c (d + 1) pl S h0 h1, fm_meet_m1 o c (d + 1) pl S' h0 h1]; exact fm_gr.stay h _
      · cases hm : fm_mt S.2.1 t 0 S.1 with
        | some i => rw [fm_meet_some o c (d + 1) pl S h0 h1 hm, fm_meet_some o c (d + 1) pl S' h0 h1 (by rw [← em]; exact hm)]; exact fm_gr.stay h _
        | none =>
          have hm' : fm_mt S'.2.1 t 0 S'.1 = none := by rw [← em]; exact hm
          by_cases h2 : c ≤ fm_fp o t pl (c - pl) ∨ 64 ≤ S.1
          · rw [fm_meet_stop o c d pl S h0 h1 hm h2, fm_meet_stop o c d pl S' h0 h1 hm' (by rw [← h.1]; exact h2)]; exact fm_gr.stay h _
          · rw [fm_meet_go o c d pl S h0 h1 hm h2 rfl rfl rfl, fm_meet_go o c d pl S' h0 h1 hm' (by rw [← h.1]; exact h2) rfl rfl rfl]
            generalize fm_fp o t pl (c - pl) = f
            have hq1 : fm_gq (S.1 + 1, fm_up S.2.1 S.1 t, fm_up S.2.2.1 S.1 (nI (o f)), S.2.2.2) (S'.1 + 1, fm_up S'.2.1 S'.1 t, fm_up S'.2.2.1 S'.1 (nI (o f)), S'.2.2.2) := by
              refine ⟨by show S.1 + 1 = S'.1 + 1; rw [h.1], fun j hj => ?_⟩
              have hj : j < S.1 + 1 := hj
              show fm_up S.2.1 S.1 t j = fm_up S'.2.1 S'.1 t j ∧ fm_up S.2.2.1 S.1 (nI (o f)) j = fm_up S'.2.2.1 S'.1 (nI (o f)) j
              rw [← h.1]
              by_cases e : j = S.1
              · simp [fm_up, e]
              · simp [fm_up, e, h.2 j (by omega)]
            have g1 := ih (fm_iw t (o f)) (f + 1) _ _ hq1
            generalize fm_meet o c d (fm_iw t (o f)) (f + 1) (S.1 + 1, fm_up S.2.1 S.1 t, fm_up S.2.2.1 S.1 (nI (o f)), S.2.2.2) = R1 at g1 ⊢
            generalize fm_meet o c d (fm_iw t (o f)) (f + 1) (S'.1 + 1, fm_up S'.2.1 S'.1 t, fm_up S'.2.2.1 S'.1 (nI (o f)), S'.2.2.2) = R1' at g1 ⊢
            obtain ⟨a1, a2, a3, a4, a5⟩ := g1
            have a3 : S.1 + 1 ≤ R1.2.1 := a3
            have hq2 : fm_gq (R1.2.1, R1.2.2.1, R1.2.2.2.1, fm_up R1.2.2.2.2.1 S.1 R1.1, R1.2.2.2.2.2) (R1'.2.1, R1'.2.2.1, R1'.2.2.2.1, fm_up R1'.2.2.2.2.1 S'.1 R1'.1, R1'.2.2.2.2.2) := ⟨a2.1, fun j hj => a2.2 j hj⟩
            have g2 := ih (fm_if t (o f)) (f + 1) _ _ hq2
            generalize fm_meet o c d (fm_if t (o f)) (f + 1) (R1.2.1, R1.2.2.1, R1.2.2.2.1, fm_up R1.2.2.2.2.1 S.1 R1.1, R1.2.2.2.2.2) = R2 at g2 ⊢
            generalize fm_meet o c d (fm_if t (o f)) (f + 1) (R1'.2.1, R1'.2.2.1, R1'.2.2.2.1, fm_up R1'.2.2.2.2.1 S'.1 R1'.1, R1'.2.2.2.2.2) = R2' at g2 ⊢
            obtain ⟨b1, b2, b3, b4, b5⟩ := g2
            have b3 : R1.2.1 ≤ R2.2.1 := b3
            have b4 : ∀ j, j < R1.2.1 → R2.2.2.2.2.1 j = fm_up R1.2.2.2.2.1 S.1 R1.1 j ∧ R2'.2.2.2.2.1 j = fm_up R1'.2.2.2.2.1 S'.1 R1'.1 j ∧ R2.2.2.2.2.2 j = R1.2.2.2.2.2 j ∧ R2'.2.2.2.2.2 j = R1'.2.2.2.2.2 j := b4
            have b5 : ∀ j, R1.2.1 ≤ j → j < R2.2.1 → R2.2.2.2.2.1 j = R2'.2.2.2.2.1 j ∧ R2.2.2.2.2.2 j = R2'.2.2.2.2.2 j := b5
            have a4 : ∀ j, j < S.1 + 1 → R1.2.2.2.2.1 j = S.2.2.2.1 j ∧ R1'.2.2.2.2.1 j = S'.2.2.2.1 j ∧ R1.2.2.2.2.2 j = S.2.2.2.2 j ∧ R1'.2.2.2.2.2 j = S'.2.2.2.2 j := a4
            have a5 : ∀ j, S.1 + 1 ≤ j → j < R1.2.1 → R1.2.2.2.2.1 j = R1'.2.2.2.2.1 j ∧ R1.2.2.2.2.2 j = R1'.2.2.2.2.2 j := a5
            refine ⟨by show nI S.1 = nI S'.1; rw [h.1], ⟨b2.1, fun j hj => b2.2 j hj⟩, by show S.1 ≤ R2.2.1; omega, fun j hj => ?_, fun j h3 h4 => ?_⟩
            · have e1 : ¬ j = S.1 := by omega
              have e2 : ¬ j = S'.1 := by rw [← h.1]; exact e1
              obtain ⟨c1, c2, c3, c4⟩ := b4 j (by omega)
              obtain ⟨d1, d2, d3, d4⟩ := a4 j (by omega)
              show R2.2.2.2.2.1 j = _ ∧ R2'.2.2.2.2.1 j = _ ∧ fm_up R2.2.2.2.2.2 S.1 R2.1 j = _ ∧ fm_up R2'.2.2.2.2.2 S'.1 R2'.1 j = _
              rw [c1, c2, fm_up_at, fm_up_at, fm_up_at, fm_up_at, if_neg e1, if_neg e2, if_neg e1, if_neg e2, c3, c4]
              exact ⟨d1, d2, d3, d4⟩
            · have h4 : j < R2.2.1 := h4
              show R2.2.2.2.2.1 j = R2'.2.2.2.2.1 j ∧ fm_up R2.2.2.2.2.2 S.1 R2.1 j = fm_up R2'.2.2.2.2.2 S'.1 R2'.1 j
              rw [fm_up_at, fm_up_at, ← h.1, b1]
              by_cases hj : j < R1.2.1
              · obtain ⟨c1, c2, c3, c4⟩ := b4 j hj
                rw [c1, c2, fm_up_at, fm_up_at, ← h.1, a1]
                by_cases e1 : j = S.1
                · simp [e1]
                · obtain ⟨d1, d2⟩ := a5 j (by omega) hj
                  rw [if_neg e1, if_neg e1, if_neg e1, if_neg e1, c3, c4]
                  exact ⟨d1, d2⟩
              · obtain ⟨d1, d2⟩ := b5 j (by omega) h4
                have e1 : ¬ j = S.1 := by omega
                rw [if_neg e1, if_neg e1]
                exact ⟨d1, d2⟩
theorem fm_DG_n (P : fm_P) (T : Int64) (G : (Nat → Int64) × (Nat → Int32) × (Nat → Int32) × (Nat → Int32)) : (fm_DG P T G).2.1 = (fm_DG P T fm_G0).2.1 := (fm_meet_gr (P 2) (P 0 0) 6 T 0 (0, G) (0, fm_G0) ⟨rfl, fun j hj => absurd hj (Nat.not_lt_zero j)⟩).2.1.1
theorem fm_DG_nd (P : fm_P) (T : Int64) (G : (Nat → Int64) × (Nat → Int32) × (Nat → Int32) × (Nat → Int32)) (n w : Int32) : fm_nd (fm_DG P T G).2 n w = fm_nd (fm_DG P T fm_G0).2 n w := by
  have h := fm_meet_gr (P 2) (P 0 0) 6 T 0 (0, G) (0, fm_G0) ⟨rfl, fun j hj => absurd hj (Nat.not_lt_zero j)⟩
  have h64 := fm_DG_le P T G
  obtain ⟨-, h1, -, -, h2⟩ := h
  unfold fm_nd
  rw [← fm_DG_n P T G]
  cases hl : fm_lt n (fm_DG P T G).2.1 with
  | false => simp only [Bool.false_eq_true, if_false]
  | true =>
    obtain ⟨a, ha, rfl⟩ := fm_lt_of (by omega) hl
    rw [nI_clamp (by omega)]
    have e1 : (fm_DG P T G).2.2.2.1 a = (fm_DG P T fm_G0).2.2.2.1 a := (h1.2 a ha).2
    have e2 := h2 a (Nat.zero_le a) ha
    have e3 : (fm_DG P T G).2.2.2.2.1 a = (fm_DG P T fm_G0).2.2.2.2.1 a := e2.1
    have e4 : (fm_DG P T G).2.2.2.2.2 a = (fm_DG P T fm_G0).2.2.2.2.2 a := e2.2
    rw [e1, e3, e4]
def sp_node (P : fm_P) (n w : Int32) : Int32 := if P 3 0 = 0 then -3 else fm_nd (fm_DG P (fm_TT P) fm_G0).2 n w
theorem cc_node {E : fm_E} {n w : Int32} {Z : fm_Z} {M : fm_M} (hc : fm_CR Z M) (hw : fm_WZ Z) : fm_C shC E mX8_node 10 [.ref (E.2.1 0), .int n, .int w] M (fun r M' => r = some (.int (sp_node Z.1 n w)) ∧ fm_fr M M') := by
  refine (cc_node0 (n := n) (w := w) hc hw).mono ?_
  rintro r M' ⟨⟨G, h1⟩, h2⟩
  exact ⟨by rw [h1, fm_DG_nd, sp_node], h2⟩
theorem cc_told {E : fm_E} {n : Int32} {Z : fm_Z} {M : fm_M} (hc : fm_CR Z M) (hw : fm_WZ Z) : fm_C shC E mX8_told 11 [.ref (E.2.1 0), .int n] M (fun r M' => r = some (.int (sp_told Z.1 n fm_G0)) ∧ fm_fr M M') := by
  refine (cc_told0 (n := n) hc hw).mono ?_
  rintro r M' ⟨⟨G, h1⟩, h2⟩
  refine ⟨?_, h2⟩
  rw [h1]
  unfold sp_told
  rw [fm_DG_n]
