/-! ===== FaultGraph: the whole state; parts, gates, causes ===== -/
/-- now; the image; the text's signs and how many; the tapes' sorts (0: nothing, else one more), sizes, items -/
abbrev fm_Z : Type := fm_P × Option fm_P × (Nat → Nat) × Nat × (Nat → Nat) × (Nat → Nat) × (Nat → Nat → Int64)
def fm_IR (I : Option fm_P) (M : fm_M) : Prop := match I with
  | none => M.1 0 8 = nI 0
  | some Q => M.1 0 8 = nI 1 ∧ fm_SR 22 Q M
def fm_KR (so le : Nat → Nat) (it : Nat → Nat → Int64) (M : fm_M) : Prop := ∀ j, j < 6 → M.1 (69 + 2 * j) 0 = nI (so j) - 1 ∧ M.1 (69 + 2 * j) 1 = nI (le j) ∧ ∀ i, i < 60 → M.2 (69 + 2 * j + 1) i = it j i
def fm_CR (Z : fm_Z) (M : fm_M) : Prop := fm_SR 1 Z.1 M ∧ fm_IR Z.2.1 M ∧ fm_tx Z.2.2.1 Z.2.2.2.1 M ∧ fm_KR Z.2.2.2.2.1 Z.2.2.2.2.2.1 Z.2.2.2.2.2.2 M
def fm_WZ (Z : fm_Z) : Prop := fm_wF Z.1 ∧ (∀ Q, Z.2.1 = some Q → fm_wF Q) ∧ ∀ j, j < 6 → Z.2.2.2.2.1 j ≤ 5 ∧ Z.2.2.2.2.2.1 j ≤ 60 ∧ (Z.2.2.2.2.1 j = 0 → Z.2.2.2.2.2.1 j = 0)
/-- from M to M' nothing has changed but what is made anew at each question -/
def fm_fr (M M' : fm_M) : Prop := (∀ a, a < 43 → M'.1 a = M.1 a) ∧ M'.1 63 0 = M.1 63 0 ∧ (∀ a, 67 ≤ a → M'.1 a = M.1 a) ∧ ∀ a, 68 ≤ a → M'.2 a = M.2 a
theorem fm_fr.rf (M : fm_M) : fm_fr M M := ⟨fun _ _ => rfl, rfl, fun _ _ => rfl, fun _ _ => rfl⟩
theorem fm_fr.tr {M M1 M2 : fm_M} (h : fm_fr M M1) (h2 : fm_fr M1 M2) : fm_fr M M2 := ⟨fun a ha => (h2.1 a ha).trans (h.1 a ha), h2.2.1.trans h.2.1, fun a ha => (h2.2.2.1 a ha).trans (h.2.2.1 a ha), fun a ha => (h2.2.2.2 a ha).trans (h.2.2.2 a ha)⟩
theorem fm_CR.fr {Z : fm_Z} {M M' : fm_M} (h : fm_CR Z M) (e : fm_fr M M') : fm_CR Z M' := by
  obtain ⟨h1, h2, h3, h4⟩ := h
  obtain ⟨e1, e2, e3, e4⟩ := e
  refine ⟨h1.kept (fun a _ hb => e1 a (by omega)), ?_, ?_, fun j hj => ?_⟩
  · cases hI : Z.2.1 with
    | none => rw [hI] at h2; show M'.1 0 8 = nI 0; rw [e1 0 (by omega)]; exact h2
    | some Q =>
      rw [hI] at h2
      exact ⟨by rw [e1 0 (by omega)]; exact h2.1, h2.2.kept (fun a _ hb => e1 a (by omega))⟩
  · exact ⟨by rw [e2]; exact h3.1, h3.2.1, fun j hj => by rw [e3 67 (by omega)]; exact h3.2.2 j hj⟩
  · rw [e3 _ (by omega), e4 _ (by omega)]
    exact h4 j hj
theorem fm_CR.now {Z : fm_Z} {M M' : fm_M} (h : fm_CR Z M) {P' : fm_P} (hP : fm_SR 1 P' M') (e : ∀ a, a = 0 ∨ 22 ≤ a → M'.1 a = M.1 a) (e4 : ∀ a, 68 ≤ a → M'.2 a = M.2 a) : fm_CR (P', Z.2) M' := by
  obtain ⟨h1, h2, h3, h4⟩ := h
  refine ⟨hP, ?_, ?_, fun j hj => ?_⟩
  · show fm_IR Z.2.1 M'
    cases hI : Z.2.1 with
    | none => rw [hI] at h2; show M'.1 0 8 = nI 0; rw [e 0 (by omega)]; exact h2
    | some Q =>
      rw [hI] at h2
      exact ⟨by rw [e 0 (by omega)]; exact h2.1, h2.2.kept (fun a ha hb => e a (by omega))⟩
  · exact ⟨by rw [e 63 (by omega)]; exact h3.1, h3.2.1, fun j hj => by rw [e 67 (by omega)]; exact h3.2.2 j hj⟩
  · rw [e _ (by omega), e4 _ (by omega)]
    exact h4 j hj
theorem ct_X8_isOdds {sh : List fm_S} {E : fm_E} {n : Int32} {M : fm_M} : fm_C sh E mX8_isOdds 0 [.int n] M (fun r M' => r = some (.int (fm_ib (fm_lt n 101))) ∧ M' = M) := by
  refine fm_C.of (by decide +kernel) (Nat.le_of_ble_eq_true rfl) ?_
  intro X hE hR hB
  subst hE
  have hB : fm_B _ X cX8_isOdds 1 RX8 (some .boolean) := hB
  refine fr_lv [some (.int n)] ⟨rfl, trivial⟩ ?_
  refine fr_iload_n hB dX8_isOdds_0 rfl rfl ?_
  refine fr_if_lt (tgt := 14) hB dX8_isOdds_1 (by decide) (fun h => ?_) (fun h => ?_)
  · refine fr_iconst (v := nI 0) hB dX8_isOdds_14 (by decide) ?_
    exact fr_zreturn hB dX8_isOdds_15 (by first | exact fm_nar0 | exact fm_nar1 | exact fm_nar _) (⟨by rw [fm_lt_neg _ h]; rfl, rfl⟩)
  · obtain ⟨a, ha, rfl⟩ := nI_of h
    refine fr_iload_n hB dX8_isOdds_4 rfl rfl ?_
    refine fr_bipush (v := nI 100) hB dX8_isOdds_5 (by decide) ?_
    refine fr_icmp_gtN (tgt := 14) hB dX8_isOdds_7 (by decide) (by omega) (by omega) (fun h2 => ?_) (fun h2 => ?_)
    · refine fr_iconst (v := nI 0) hB dX8_isOdds_14 (by decide) ?_
      exact fr_zreturn hB dX8_isOdds_15 (by first | exact fm_nar0 | exact fm_nar1 | exact fm_nar _) (⟨by rw [fm_lt_nat ha (by omega), show decide (a < 101) = false by simp; omega]; rfl, rfl⟩)
    · refine fr_iconst (v := nI 1) hB dX8_isOdds_10 (by decide) ?_
      refine fr_goto (tgt := 15) hB dX8_isOdds_11 (by decide) ?_
      exact fr_zreturn hB dX8_isOdds_15 (by first | exact fm_nar0 | exact fm_nar1 | exact fm_nar _) (⟨by rw [fm_lt_nat ha (by omega), show decide (a < 101) = true by simp; omega]; rfl, rfl⟩)
theorem ct_X8_isKind {sh : List fm_S} {E : fm_E} {n : Int32} {M : fm_M} : fm_C sh E mX8_isKind 0 [.int n] M (fun r M' => r = some (.int (fm_ib (fm_lt n 3))) ∧ M' = M) := by
  refine fm_C.of (by decide +kernel) (Nat.le_of_ble_eq_true rfl) ?_
  intro X hE hR hB
  subst hE
  have hB : fm_B _ X cX8_isKind 1 RX8 (some .boolean) := hB
  refine fr_lv [some (.int n)] ⟨rfl, trivial⟩ ?_
  refine fr_iload_n hB dX8_isKind_0 rfl rfl ?_
  refine fr_if_lt (tgt := 13) hB dX8_isKind_1 (by decide) (fun h => ?_) (fun h => ?_)
  · refine fr_iconst (v := nI 0) hB dX8_isKind_13 (by decide) ?_
    exact fr_zreturn hB dX8_isKind_14 (by first | exact fm_nar0 | exact fm_nar1 | exact fm_nar _) (⟨by rw [fm_lt_neg _ h]; rfl, rfl⟩)
  · obtain ⟨a, ha, rfl⟩ := nI_of h
    refine fr_iload_n hB dX8_isKind_4 rfl rfl ?_
    refine fr_iconst (v := nI 2) hB dX8_isKind_5 (by decide) ?_
    refine fr_icmp_gtN (tgt := 13) hB dX8_isKind_6 (by decide) (by omega) (by omega) (fun h2 => ?_) (fun h2 => ?_)
    · refine fr_iconst (v := nI 0) hB dX8_isKind_13 (by decide) ?_
      exact fr_zreturn hB dX8_isKind_14 (by first | exact fm_nar0 | exact fm_nar1 | exact fm_nar _) (⟨by rw [fm_lt_nat ha (by omega), show decide (a < 3) = false by simp; omega]; rfl, rfl⟩)
    · refine fr_iconst (v := nI 1) hB dX8_isKind_9 (by decide) ?_
      refine fr_goto (tgt := 14) hB dX8_isKind_10 (by decide) ?_
      exact fr_zreturn hB dX8_isKind_14 (by first | exact fm_nar0 | exact fm_nar1 | exact fm_nar _) (⟨by rw [fm_lt_nat ha (by omega), show decide (a < 3) = true by simp; omega]; rfl, rfl⟩)
theorem ct_X8_isNeed {sh : List fm_S} {E : fm_E} {n : Int32} {M : fm_M} : fm_C sh E mX8_isNeed 0 [.int n] M (fun r M' => r = some (.int (fm_ib (fm_lt n 6))) ∧ M' = M) := by
  refine fm_C.of (by decide +kernel) (Nat.le_of_ble_eq_true rfl) ?_
  intro X hE hR hB
  subst hE
  have hB : fm_B _ X cX8_isNeed 1 RX8 (some .boolean) := hB
  refine fr_lv [some (.int n)] ⟨rfl, trivial⟩ ?_
  refine fr_iload_n hB dX8_isNeed_0 rfl rfl ?_
  refine fr_if_lt (tgt := 13) hB dX8_isNeed_1 (by decide) (fun h => ?_) (fun h => ?_)
  · refine fr_iconst (v := nI 0) hB dX8_isNeed_13 (by decide) ?_
    exact fr_zreturn hB dX8_isNeed_14 (by first | exact fm_nar0 | exact fm_nar1 | exact fm_nar _) (⟨by rw [fm_lt_neg _ h]; rfl, rfl⟩)
  · obtain ⟨a, ha, rfl⟩ := nI_of h
    refine fr_iload_n hB dX8_isNeed_4 rfl rfl ?_
    refine fr_iconst (v := nI 5) hB dX8_isNeed_5 (by decide) ?_
    refine fr_icmp_gtN (tgt := 13) hB dX8_isNeed_6 (by decide) (by omega) (by omega) (fun h2 => ?_) (fun h2 => ?_)
    · refine fr_iconst (v := nI 0) hB dX8_isNeed_13 (by decide) ?_
      exact fr_zreturn hB dX8_isNeed_14 (by first | exact fm_nar0 | exact fm_nar1 | exact fm_nar _) (⟨by rw [fm_lt_nat ha (by omega), show decide (a < 6) = false by simp; omega]; rfl, rfl⟩)
    · refine fr_iconst (v := nI 1) hB dX8_isNeed_9 (by decide) ?_
      refine fr_goto (tgt := 14) hB dX8_isNeed_10 (by decide) ?_
      exact fr_zreturn hB dX8_isNeed_14 (by first | exact fm_nar0 | exact fm_nar1 | exact fm_nar _) (⟨by rw [fm_lt_nat ha (by omega), show decide (a < 6) = true by simp; omega]; rfl, rfl⟩)
theorem ct_X8_isLine {sh : List fm_S} {E : fm_E} {n : Int32} {M : fm_M} : fm_C sh E mX8_isLine 0 [.int n] M (fun r M' => r = some (.int (fm_ib (fm_lt n 2))) ∧ M' = M) := by
  refine fm_C.of (by decide +kernel) (Nat.le_of_ble_eq_true rfl) ?_
  intro X hE hR hB
  subst hE
  have hB : fm_B _ X cX8_isLine 1 RX8 (some .boolean) := hB
  refine fr_lv [some (.int n)] ⟨rfl, trivial⟩ ?_
  refine fr_iload_n hB dX8_isLine_0 rfl rfl ?_
  refine fr_if_eq (tgt := 9) hB dX8_isLine_1 (by decide) (fun h => ?_) (fun h => ?_)
  · subst h
    refine fr_iconst (v := nI 1) hB dX8_isLine_9 (by decide) ?_
    refine fr_goto (tgt := 14) hB dX8_isLine_10 (by decide) ?_
    exact fr_zreturn hB dX8_isLine_14 (by first | exact fm_nar0 | exact fm_nar1 | exact fm_nar _) (⟨rfl, rfl⟩)
  · refine fr_iload_n hB dX8_isLine_4 rfl rfl ?_
    refine fr_iconst (v := nI 1) hB dX8_isLine_5 (by decide) ?_
    refine fr_icmp_ne (tgt := 13) hB dX8_isLine_6 (by decide) (fun h2 => ?_) (fun h2 => ?_)
    · have e : fm_lt n 2 = false := by
        cases hb : fm_lt n 2 with
        | false => rfl
        | true =>
          obtain ⟨a, ha, rfl⟩ := fm_lt_of (by omega) hb
          rcases (show a = 0 ∨ a = 1 by omega) with rfl | rfl
          · exact absurd (by decide) h
          · exact absurd rfl h2
      refine fr_iconst (v := nI 0) hB dX8_isLine_13 (by decide) ?_
      exact fr_zreturn hB dX8_isLine_14 (by first | exact fm_nar0 | exact fm_nar1 | exact fm_nar _) (⟨by rw [e]; rfl, rfl⟩)
    · have h3 : n = nI 1 := Decidable.not_not.mp h2
      subst h3
      refine fr_iconst (v := nI 1) hB dX8_isLine_9 (by decide) ?_
      refine fr_goto (tgt := 14) hB dX8_isLine_10 (by decide) ?_
      exact fr_zreturn hB dX8_isLine_14 (by first | exact fm_nar0 | exact fm_nar1 | exact fm_nar _) (⟨rfl, rfl⟩)
def sp_part (P : fm_P) (n : Int32) : Int32 × fm_P := if fm_lt n 101 then (if P 0 0 < 6 then (nI (P 0 0), fm_u (fm_u (fm_u P 1 (P 0 0) n.toNatClampNeg) 2 (P 0 0) (P 0 0)) 0 0 (P 0 0 + 1)) else (-4, P)) else (-2, P)
theorem cc_part {E : fm_E} {n : Int32} {Z : fm_Z} {M : fm_M} (hc : fm_CR Z M) (hw : fm_WZ Z) : fm_C shC E mX8_part 1 [.ref (E.2.1 0), .int n] M (fun r M' => r = some (.int (sp_part Z.1 n).1) ∧ fm_CR ((sp_part Z.1 n).2, Z.2) M') := by
  have h6 := hw.1.1.p6
  refine fm_C.of (by decide +kernel) (Nat.le_of_ble_eq_true rfl) ?_
  intro X hE hR hB
  subst hE
  have hB : fm_B _ X cX8_part 2 RX8 (some .int) := hB
  refine fr_lv [some (.ref (fm_rh X 0)), some (.int n)] ⟨rfl, rfl, trivial⟩ ?_
  refine fr_iload_n hB dX8_part_0 rfl rfl ?_
  refine fr_callS hB _ _ dX8_part_1 lm_X8_63 (ct_X8_isOdds) rfl rfl (Nat.le_of_ble_eq_true rfl) (fm_room hR (by decide) (by decide)) ?_
  rintro _ M9 ⟨rfl, hM9⟩
  rw [hM9]
  clear hM9 M9
  refine fr_ret1 ?_
  refine fr_if_neB (tgt := 10) hB dX8_part_4 (by decide) (fun h => ?_) (fun h => ?_)
  · obtain ⟨a, ha, rfl⟩ := fm_lt_of (by omega) h
    refine fr_aload_n hB dX8_part_10 rfl rfl ?_
    refine fr_getR hB dX8_part_11 lf_X8_14 rfl rfl ?_
    refine fr_getR hB dX8_part_14 lf_X8_67 rfl rfl ?_
    refine fr_iload_n hB dX8_part_17 rfl rfl ?_
    refine fr_callV hB _ _ dX8_part_18 lm_X8_70 rfl (ct_X3_addPart shC_Pl2 hc.1.pl.parts h6) rfl rfl (Nat.le_of_ble_eq_true rfl) (fm_room hR (by decide) (by decide)) ?_
    rintro _ M9 ⟨rfl, hM9⟩
    rw [hM9]
    clear hM9 M9
    refine fr_ret1 ?_
    unfold sp_part
    rw [if_pos h, nI_clamp (show a < 2 ^ 31 by omega)]
    by_cases hp : Z.1 0 0 < 6
    · rw [if_pos hp, if_pos hp, if_pos hp]
      exact fr_ireturn hB dX8_part_21 (⟨rfl, hc.now ((hc.1.u_odds.u_order).u_parts) (fun b hb => by simp [fm_u, show ¬ b = 2 by omega, show ¬ b = 3 by omega, show ¬ b = 4 by omega]) (fun _ _ => rfl)⟩)
    · rw [if_neg hp, if_neg hp, if_neg hp]
      exact fr_ireturn hB dX8_part_21 (⟨rfl, hc⟩)
  · refine fr_bipush (v := -2) hB dX8_part_7 (by decide) ?_
    exact fr_ireturn hB dX8_part_9 (⟨by rw [sp_part, h]; rfl, by rw [sp_part, h]; exact hc⟩)
def sp_gate (P : fm_P) (n m : Int32) : Int32 × fm_P := if (fm_lt n 3 && fm_lt m 6) then (if P 3 0 < 8 then (nI (P 3 0), fm_u (fm_u (fm_u (fm_u P 4 (P 3 0) n.toNatClampNeg) 5 (P 3 0) m.toNatClampNeg) 6 (P 3 0) 0) 3 0 (P 3 0 + 1)) else (-4, P)) else (-2, P)
theorem cc_gate {E : fm_E} {n m : Int32} {Z : fm_Z} {M : fm_M} (hc : fm_CR Z M) (hw : fm_WZ Z) : fm_C shC E mX8_gate 1 [.ref (E.2.1 0), .int n, .int m] M (fun r M' => r = some (.int (sp_gate Z.1 n m).1) ∧ fm_CR ((sp_gate Z.1 n m).2, Z.2) M') := by
  have h8 := hw.1.1.g8
  refine fm_C.of (by decide +kernel) (Nat.le_of_ble_eq_true rfl) ?_
  intro X hE hR hB
  subst hE
  have hB : fm_B _ X cX8_gate 3 RX8 (some .int) := hB
  refine fr_lv [some (.ref (fm_rh X 0)), some (.int n), some (.int m)] ⟨rfl, rfl, rfl, trivial⟩ ?_
  refine fr_iload_n hB dX8_gate_0 rfl rfl ?_
  refine fr_callS hB _ _ dX8_gate_1 lm_X8_74 (ct_X8_isKind) rfl rfl (Nat.le_of_ble_eq_true rfl) (fm_room hR (by decide) (by decide)) ?_
  rintro _ M9 ⟨rfl, hM9⟩
  rw [hM9]
  clear hM9 M9
  refine fr_ret1 ?_
  refine fr_if_eqB (tgt := 14) hB dX8_gate_4 (by decide) (fun h => ?_) (fun h => ?_)
  · refine fr_bipush (v := -2) hB dX8_gate_14 (by decide) ?_
    exact fr_ireturn hB dX8_gate_16 (⟨by rw [sp_gate, h]; rfl, by rw [sp_gate, h]; exact hc⟩)
  · refine fr_iload_n hB dX8_gate_7 rfl rfl ?_
    refine fr_callS hB _ _ dX8_gate_8 lm_X8_77 (ct_X8_isNeed) rfl rfl (Nat.le_of_ble_eq_true rfl) (fm_room hR (by decide) (by decide)) ?_
    rintro _ M9 ⟨rfl, hM9⟩
    rw [hM9]
    clear hM9 M9
    refine fr_ret1 ?_
    refine fr_if_neB (tgt := 17) hB dX8_gate_11 (by decide) (fun h2 => ?_) (fun h2 => ?_)
    · obtain ⟨a, ha, rfl⟩ := fm_lt_of (by omega) h
      obtain ⟨b, hb, rfl⟩ := fm_lt_of (by omega) h2
      refine fr_aload_n hB dX8_gate_17 rfl rfl ?_
      refine fr_getR hB dX8_gate_18 lf_X8_14 rfl rfl ?_
      refine fr_getR hB dX8_gate_21 lf_X8_67 rfl rfl ?_
      refine fr_iload_n hB dX8_gate_24 rfl rfl ?_
      refine fr_iload_n hB dX8_gate_25 rfl rfl ?_
      refine fr_callV hB _ _ dX8_gate_26 lm_X8_80 rfl (ct_X3_addGate shC_Pl2 hc.1.pl.gates h8) rfl rfl (Nat.le_of_ble_eq_true rfl) (fm_room hR (by decide) (by decide)) ?_
      rintro _ M9 ⟨rfl, hM9⟩
      rw [hM9]
      clear hM9 M9
      refine fr_ret1 ?_
      unfold sp_gate
      rw [h, h2, nI_clamp (show a < 2 ^ 31 by omega), nI_clamp (show b < 2 ^ 31 by omega)]
      simp only [Bool.and_self, if_true]
      by_cases hp : Z.1 3 0 < 8
      · rw [if_pos hp, if_pos hp, if_pos hp]
        exact fr_ireturn hB dX8_gate_29 (⟨rfl, hc.now (((hc.1.u_kind.u_need).u_cnt).u_gates) (fun b hb => by simp [fm_u, show ¬ b = 2 by omega, show ¬ b = 5 by omega, show ¬ b = 6 by omega, show ¬ b = 8 by omega]) (fun _ _ => rfl)⟩)
      · rw [if_neg hp, if_neg hp, if_neg hp]
        exact fr_ireturn hB dX8_gate_29 (⟨rfl, hc⟩)
    · refine fr_bipush (v := -2) hB dX8_gate_14 (by decide) ?_
      exact fr_ireturn hB dX8_gate_16 (⟨by rw [sp_gate, h, h2]; rfl, by rw [sp_gate, h, h2]; exact hc⟩)
def sp_turn (P : fm_P) (g n m : Int32) : Int32 × fm_P := if fm_lt g (P 3 0) then (if (fm_lt n 3 && fm_lt m 6) then (nI (10 * P 4 g.toNatClampNeg + P 5 g.toNatClampNeg), fm_u (fm_u P 4 g.toNatClampNeg n.toNatClampNeg) 5 g.toNatClampNeg m.toNatClampNeg) else (-2, P)) else (-1, P)
theorem cc_turn {E : fm_E} {g n m : Int32} {Z : fm_Z} {M : fm_M} (hc : fm_CR Z M) (hw : fm_WZ Z) : fm_C shC E mX8_turn 1 [.ref (E.2.1 0), .int g, .int n, .int m] M (fun r M' => r = some (.int (sp_turn Z.1 g n m).1) ∧ fm_CR ((sp_turn Z.1 g n m).2, Z.2) M') := by
  have h8 := hw.1.1.g8
  refine fm_C.of (by decide +kernel) (Nat.le_of_ble_eq_true rfl) ?_
  intro X hE hR hB
  subst hE
  have hB : fm_B _ X cX8_turn 6 RX8 (some .int) := hB
  refine fr_lv [some (.ref (fm_rh X 0)), some (.int g), some (.int n), some (.int m), none, none] ⟨rfl, rfl, rfl, rfl, trivial⟩ ?_
  refine fr_aload_n hB dX8_turn_0 rfl rfl ?_
  refine fr_getR hB dX8_turn_1 lf_X8_14 rfl rfl ?_
  refine fr_getR hB dX8_turn_4 lf_X8_67 rfl rfl ?_
  refine fr_astore hB dX8_turn_7 (by decide) rfl ?_
  refine fr_aload hB dX8_turn_9 rfl ?_
  refine fr_iload_n hB dX8_turn_11 rfl rfl ?_
  refine fr_callV hB _ _ dX8_turn_12 lm_X8_84 rfl (ct_X3_hasGate shC_Pl2 hc.1.pl.gates) rfl rfl (Nat.le_of_ble_eq_true rfl) (fm_room hR (by decide) (by decide)) ?_
  rintro _ M9 ⟨rfl, hM9⟩
  rw [hM9]
  clear hM9 M9
  refine fr_ret1 ?_
  refine fr_if_neB (tgt := 20) hB dX8_turn_15 (by decide) (fun h0 => ?_) (fun h0 => ?_)
  · obtain ⟨c, hcc, rfl⟩ := fm_lt_of (by omega) h0
    have ec : (nI c).toNatClampNeg = c := nI_clamp (by omega)
    refine fr_iload_n hB dX8_turn_20 rfl rfl ?_
    refine fr_callS hB _ _ dX8_turn_21 lm_X8_74 (ct_X8_isKind) rfl rfl (Nat.le_of_ble_eq_true rfl) (fm_room hR (by decide) (by decide)) ?_
    rintro _ M9 ⟨rfl, hM9⟩
    rw [hM9]
    clear hM9 M9
    refine fr_ret1 ?_
    refine fr_if_eqB (tgt := 34) hB dX8_turn_24 (by decide) (fun h => ?_) (fun h => ?_)
    · refine fr_bipush (v := -2) hB dX8_turn_34 (by decide) ?_
      exact fr_ireturn hB dX8_turn_36 (⟨by rw [sp_turn, if_pos h0, h]; rfl, by rw [sp_turn, if_pos h0, h]; exact hc⟩)
    · refine fr_iload_n hB dX8_turn_27 rfl rfl ?_
      refine fr_callS hB _ _ dX8_turn_28 lm_X8_77 (ct_X8_isNeed) rfl rfl (Nat.le_of_ble_eq_true rfl) (fm_room hR (by decide) (by decide)) ?_
      rintro _ M9 ⟨rfl, hM9⟩
      rw [hM9]
      clear hM9 M9
      refine fr_ret1 ?_
      refine fr_if_neB (tgt := 37) hB dX8_turn_31 (by decide) (fun h2 => ?_) (fun h2 => ?_)
      · obtain ⟨a, ha, rfl⟩ := fm_lt_of (by omega) h
        obtain ⟨b, hb, rfl⟩ := fm_lt_of (by omega) h2
        refine fr_bipush (v := nI 10) hB dX8_turn_37 (by decide) ?_
        refine fr_aload hB dX8_turn_39 rfl ?_
        refine fr_getR hB dX8_turn_41 lf_X8_87 rfl rfl ?_
        refine fr_iload_n hB dX8_turn_44 rfl rfl ?_
        refine fr_iald hB (_) dX8_turn_45 rfl (rfl) (by omega) (by decide) ?_
        refine fr_eqi _ (hc.1.pl.kind _ (by omega)) ?_
        refine fr_imulN hB dX8_turn_46 ?_
        refine fr_aload hB dX8_turn_47 rfl ?_
        refine fr_getR hB dX8_turn_49 lf_X8_91 rfl rfl ?_
        refine fr_iload_n hB dX8_turn_52 rfl rfl ?_
        refine fr_iald hB (_) dX8_turn_53 rfl (rfl) (by omega) (by decide) ?_
        refine fr_eqi _ (hc.1.pl.need _ (by omega)) ?_
        refine fr_iaddN hB dX8_turn_54 ?_
        refine fr_istore hB dX8_turn_55 (by decide) rfl ?_
        refine fr_aload hB dX8_turn_57 rfl ?_
        refine fr_getR hB dX8_turn_59 lf_X8_87 rfl rfl ?_
        refine fr_iload_n hB dX8_turn_62 rfl rfl ?_
        refine fr_iload_n hB dX8_turn_63 rfl rfl ?_
        refine fr_iast hB (_) dX8_turn_64 rfl (rfl) (by omega) (by decide) ?_
        refine fr_aload hB dX8_turn_65 rfl ?_
        refine fr_getR hB dX8_turn_67 lf_X8_91 rfl rfl ?_
        refine fr_iload_n hB dX8_turn_70 rfl rfl ?_
        refine fr_iload_n hB dX8_turn_71 rfl rfl ?_
        refine fr_iast hB (_) dX8_turn_72 rfl (rfl) (by omega) (by decide) ?_
        refine fr_iload hB dX8_turn_73 rfl ?_
        unfold sp_turn
        rw [if_pos h0, h, h2, nI_clamp (show a < 2 ^ 31 by omega), nI_clamp (show b < 2 ^ 31 by omega), ec]
        simp only [Bool.and_self, if_true]
        exact fr_ireturn hB dX8_turn_75 (⟨rfl, hc.now (hc.1.u_kind.u_need) (fun b hb => by simp [fm_u, show ¬ b = 5 by omega, show ¬ b = 6 by omega]) (fun _ _ => rfl)⟩)
      · refine fr_bipush (v := -2) hB dX8_turn_34 (by decide) ?_
        exact fr_ireturn hB dX8_turn_36 (⟨by rw [sp_turn, if_pos h0, h, h2]; rfl, by rw [sp_turn, if_pos h0, h, h2]; exact hc⟩)
  · refine fr_iconst (v := -1) hB dX8_turn_18 (by decide) ?_
    exact fr_ireturn hB dX8_turn_19 (⟨by rw [sp_turn, h0]; rfl, by rw [sp_turn, h0]; exact hc⟩)
/-- an input x comes to gate g -/
def sp_in (P : fm_P) (g x : Nat) : Int32 × fm_P := if P 6 g < 4 then (nI (P 6 g + 1), fm_u (fm_u P 7 (g * 4 + P 6 g) x) 6 g (P 6 g + 1)) else (-4, P)
def sp_join (P : fm_P) (g : Int32) (b : Bool) (n : Int32) : Int32 × fm_P := if fm_lt g (P 3 0) then (if b then (if fm_lt n (P 0 0) then sp_in P g.toNatClampNeg n.toNatClampNeg else (-1, P)) else (if fm_lt n (P 3 0) then (if n < g then sp_in P g.toNatClampNeg (10 + n.toNatClampNeg) else (-3, P)) else (-1, P))) else (-1, P)
theorem cc_join {E : fm_E} {g n : Int32} {b : Bool} {Z : fm_Z} {M : fm_M} (hc : fm_CR Z M) (hw : fm_WZ Z) : fm_C shC E mX8_join 1 [.ref (E.2.1 0), .int g, .int (fm_ib b), .int n] M (fun r M' => r = some (.int (sp_join Z.1 g b n).1) ∧ fm_CR ((sp_join Z.1 g b n).2, Z.2) M') := by
  have h8 := hw.1.1.g8
  have h6 := hw.1.1.p6
  refine fm_C.of (by decide +kernel) (Nat.le_of_ble_eq_true rfl) ?_
  intro X hE hR hB
  subst hE
  have hB : fm_B _ X cX8_join 5 RX8 (some .int) := hB
  refine fr_lv [some (.ref (fm_rh X 0)), some (.int g), some (.int (fm_ib b)), some (.int n), none] ⟨rfl, rfl, rfl, rfl, trivial⟩ ?_
  have fin : ∀ (c x : Nat) (M' : fm_M), c < Z.1 3 0 → (M' = if Z.1 6 c < 4 then fm_pi (fm_pi M (2 + 5) (c * 4 + Z.1 6 c) (nI x)) (2 + 6) c (nI (Z.1 6 c + 1)) else M) → fm_CR ((sp_in Z.1 c x).2, Z.2) M' := by
    intro c x M' hcc hM
    unfold sp_in
    by_cases hp : Z.1 6 c < 4
    · rw [if_pos hp] at hM ⊢
      rw [hM]
      exact hc.now (hc.1.u_inp.u_cnt) (fun b hb => by simp [fm_u, show ¬ b = 7 by omega, show ¬ b = 8 by omega]) (fun _ _ => rfl)
    · rw [if_neg hp] at hM ⊢
      rw [hM]
      exact hc
  have fin1 : ∀ (c x : Nat), (sp_in Z.1 c x).1 = if Z.1 6 c < 4 then nI (Z.1 6 c + 1) else -4 := by
    intro c x
    unfold sp_in
    split <;> rfl
  refine fr_aload_n hB dX8_join_0 rfl rfl ?_
  refine fr_getR hB dX8_join_1 lf_X8_14 rfl rfl ?_
  refine fr_getR hB dX8_join_4 lf_X8_67 rfl rfl ?_
  refine fr_astore hB dX8_join_7 (by decide) rfl ?_
  refine fr_aload hB dX8_join_9 rfl ?_
  refine fr_iload_n hB dX8_join_11 rfl rfl ?_
  refine fr_callV hB _ _ dX8_join_12 lm_X8_84 rfl (ct_X3_hasGate shC_Pl2 hc.1.pl.gates) rfl rfl (Nat.le_of_ble_eq_true rfl) (fm_room hR (by decide) (by decide)) ?_
  rintro _ M9 ⟨rfl, hM9⟩
  rw [hM9]
  clear hM9 M9
  refine fr_ret1 ?_
  refine fr_if_neB (tgt := 20) hB dX8_join_15 (by decide) (fun h0 => ?_) (fun h0 => ?_)
  · obtain ⟨c, hcc, rfl⟩ := fm_lt_of (by omega) h0
    have ec : (nI c).toNatClampNeg = c := nI_clamp (by omega)
    have hi4 := hw.1.1.i4 c
    refine fr_iload_n hB dX8_join_20 rfl rfl ?_
    refine fr_if_eqB (tgt := 45) hB dX8_join_21 (by decide) (fun hb => ?_) (fun hb => ?_)
    · refine fr_aload hB dX8_join_45 rfl ?_
      refine fr_iload_n hB dX8_join_47 rfl rfl ?_
      refine fr_callV hB _ _ dX8_join_48 lm_X8_84 rfl (ct_X3_hasGate shC_Pl2 hc.1.pl.gates) rfl rfl (Nat.le_of_ble_eq_true rfl) (fm_room hR (by decide) (by decide)) ?_
      rintro _ M9 ⟨rfl, hM9⟩
      rw [hM9]
      clear hM9 M9
      refine fr_ret1 ?_
      refine fr_if_neB (tgt := 56) hB dX8_join_51 (by decide) (fun h1 => ?_) (fun h1 => ?_)
      · obtain ⟨d, hd, rfl⟩ := fm_lt_of (by omega) h1
        have ed : (nI d).toNatClampNeg = d := nI_clamp (by omega)
        refine fr_iload_n hB dX8_join_56 rfl rfl ?_
        refine fr_iload_n hB dX8_join_57 rfl rfl ?_
        refine fr_icmp_ltN (tgt := 64) hB dX8_join_58 (by decide) (by omega) (by omega) (fun h2 => ?_) (fun h2 => ?_)
        · have e : sp_join Z.1 (nI c) b (nI d) = sp_in Z.1 c (10 + d) := by rw [sp_join, if_pos h0, hb, if_neg (by decide), if_pos h1, if_pos (nI_lt h2 (by omega)), ec, ed]
          refine fr_aload hB dX8_join_64 rfl ?_
          refine fr_iload_n hB dX8_join_66 rfl rfl ?_
          refine fr_bipush (v := nI 10) hB dX8_join_67 (by decide) ?_
          refine fr_iload_n hB dX8_join_69 rfl rfl ?_
          refine fr_iaddN hB dX8_join_70 ?_
          refine fr_callV hB _ _ dX8_join_71 lm_X8_97 rfl (ct_X3_addInput shC_Pl2 (by omega) (hc.1.pl.cnt c (by omega)) hi4) rfl rfl (Nat.le_of_ble_eq_true rfl) (fm_room hR (by decide) (by decide)) ?_
          rintro _ M9 ⟨rfl, hM9⟩
          rw [hM9]
          clear hM9 M9
          refine fr_ret1 ?_
          exact fr_ireturn hB dX8_join_74 (⟨by rw [e, fin1], by rw [e]; exact fin c (10 + d) _ hcc rfl⟩)
        · have e : sp_join Z.1 (nI c) b (nI d) = (-3, Z.1) := by rw [sp_join, if_pos h0, hb, if_neg (by decide), if_pos h1, if_neg (nI_nlt h2 (by omega))]
          refine fr_bipush (v := -3) hB dX8_join_61 (by decide) ?_
          exact fr_ireturn hB dX8_join_63 (⟨by rw [e], by rw [e]; exact hc⟩)
      · have e : sp_join Z.1 (nI c) b n = (-1, Z.1) := by rw [sp_join, if_pos h0, hb, if_neg (by decide), h1]; rfl
        refine fr_iconst (v := -1) hB dX8_join_54 (by decide) ?_
        exact fr_ireturn hB dX8_join_55 (⟨by rw [e], by rw [e]; exact hc⟩)
    · refine fr_aload hB dX8_join_24 rfl ?_
      refine fr_iload_n hB dX8_join_26 rfl rfl ?_
      refine fr_callV hB _ _ dX8_join_27 lm_X8_94 rfl (ct_X3_hasPart shC_Pl2 hc.1.pl.parts) rfl rfl (Nat.le_of_ble_eq_true rfl) (fm_room hR (by decide) (by decide)) ?_
      rintro _ M9 ⟨rfl, hM9⟩
      rw [hM9]
      clear hM9 M9
      refine fr_ret1 ?_
      refine fr_if_eqB (tgt := 43) hB dX8_join_30 (by decide) (fun h1 => ?_) (fun h1 => ?_)
      · have e : sp_join Z.1 (nI c) b n = (-1, Z.1) := by rw [sp_join, if_pos h0, hb, if_pos rfl, h1]; rfl
        refine fr_iconst (v := -1) hB dX8_join_43 (by decide) ?_
        exact fr_ireturn hB dX8_join_44 (⟨by rw [e], by rw [e]; exact hc⟩)
      · obtain ⟨d, hd, rfl⟩ := fm_lt_of (by omega) h1
        have ed : (nI d).toNatClampNeg = d := nI_clamp (by omega)
        have e : sp_join Z.1 (nI c) b (nI d) = sp_in Z.1 c d := by rw [sp_join, if_pos h0, hb, if_pos rfl, if_pos h1, ec, ed]
        refine fr_aload hB dX8_join_33 rfl ?_
        refine fr_iload_n hB dX8_join_35 rfl rfl ?_
        refine fr_iload_n hB dX8_join_36 rfl rfl ?_
        refine fr_callV hB _ _ dX8_join_37 lm_X8_97 rfl (ct_X3_addInput shC_Pl2 (by omega) (hc.1.pl.cnt c (by omega)) hi4) rfl rfl (Nat.le_of_ble_eq_true rfl) (fm_room hR (by decide) (by decide)) ?_
        rintro _ M9 ⟨rfl, hM9⟩
        rw [hM9]
        clear hM9 M9
        refine fr_ret1 ?_
        refine fr_goto (tgt := 44) hB dX8_join_40 (by decide) ?_
        exact fr_ireturn hB dX8_join_44 (⟨by rw [e, fin1], by rw [e]; exact fin c d _ hcc rfl⟩)
  · have e : sp_join Z.1 g b n = (-1, Z.1) := by rw [sp_join, h0]; rfl
    refine fr_iconst (v := -1) hB dX8_join_18 (by decide) ?_
    exact fr_ireturn hB dX8_join_19 (⟨by rw [e], by rw [e]; exact hc⟩)
