/-! ===== FaultGraph: read; parts, gates, inputs, causes leave the text's rows as they are ===== -/
def fm_CK (Z : fm_Z) (M M' : fm_M) : Prop := fm_CR Z M' ∧ ∀ a, 22 ≤ a → M'.1 a = M.1 a
theorem fm_CR.K {Z : fm_Z} {M : fm_M} (h : fm_CR Z M) : fm_CK Z M M := ⟨h, fun _ _ => rfl⟩
theorem fm_CR.nowK {Z : fm_Z} {M M' : fm_M} (h : fm_CR Z M) {P' : fm_P} (hP : fm_SR 1 P' M') (e : ∀ a, a = 0 ∨ 22 ≤ a → M'.1 a = M.1 a) (e4 : ∀ a, 68 ≤ a → M'.2 a = M.2 a) : fm_CK (P', Z.2) M M' := ⟨h.now hP e e4, fun a ha => e a (Or.inr ha)⟩
theorem ck_part {E : fm_E} {n : Int32} {Z : fm_Z} {M : fm_M} (hc : fm_CR Z M) (hw : fm_WZ Z) : fm_C shC E mX8_part 1 [.ref (E.2.1 0), .int n] M (fun r M' => r = some (.int (sp_part Z.1 n).1) ∧ fm_CK ((sp_part Z.1 n).2, Z.2) M M') := by
  have h6 := hw.1.1.p6
  refine fm_C.of (by decide +kernel) (Nat.le_of_ble_eq_true rfl) ?_
  intro X hE hR hB
  subst hE
  have hB : fm_B _ X cX8_part 2 RX8 (some .int) := hB
  refine fr_lv [some (.ref (fm_rh X 0)), some (.int n)] ⟨rfl, rfl, trivial⟩ ?_
  refine fr_iload_n hB dX8_part_0 rfl rfl ?_
  refine fr_callS hB _ _ dX8_part_1 lm_X8_63 (ct_X8_isOdds) rfl rfl (Nat.le_of_ble_eq_true rfl) (fm_room hR (by decide) (by decide)) ?_
  rintro _ M9 ⟨rfl, hM9⟩
  rw [hM9]
  clear hM9 M9
  refine fr_ret1 ?_
  refine fr_if_neB (tgt := 10) hB dX8_part_4 (by decide) (fun h => ?_) (fun h => ?_)
  · obtain ⟨a, ha, rfl⟩ := fm_lt_of (by omega) h
    refine fr_aload_n hB dX8_part_10 rfl rfl ?_
    refine fr_getR hB dX8_part_11 lf_X8_14 rfl rfl ?_
    refine fr_getR hB dX8_part_14 lf_X8_67 rfl rfl ?_
    refine fr_iload_n hB dX8_part_17 rfl rfl ?_
    refine fr_callV hB _ _ dX8_part_18 lm_X8_70 rfl (ct_X3_addPart shC_Pl2 hc.1.pl.parts h6) rfl rfl (Nat.le_of_ble_eq_true rfl) (fm_room hR (by decide) (by decide)) ?_
    rintro _ M9 ⟨rfl, hM9⟩
    rw [hM9]
    clear hM9 M9
    refine fr_ret1 ?_
    unfold sp_part
    rw [if_pos h, nI_clamp (show a < 2 ^ 31 by omega)]
    by_cases hp : Z.1 0 0 < 6
    · rw [if_pos hp, if_pos hp, if_pos hp]
      exact fr_ireturn hB dX8_part_21 (⟨rfl, hc.nowK ((hc.1.u_odds.u_order).u_parts) (fun b hb => by simp [fm_u, show ¬ b = 2 by omega, show ¬ b = 3 by omega, show ¬ b = 4 by omega]) (fun _ _ => rfl)⟩)
    · rw [if_neg hp, if_neg hp, if_neg hp]
      exact fr_ireturn hB dX8_part_21 (⟨rfl, hc.K⟩)
  · refine fr_bipush (v := -2) hB dX8_part_7 (by decide) ?_
    exact fr_ireturn hB dX8_part_9 (⟨by rw [sp_part, h]; rfl, by rw [sp_part, h]; exact hc.K⟩)
theorem ck_gate {E : fm_E} {n m : Int32} {Z : fm_Z} {M : fm_M} (hc : fm_CR Z M) (hw : fm_WZ Z) : fm_C shC E mX8_gate 1 [.ref (E.2.1 0), .int n, .int m] M (fun r M' => r = some (.int (sp_gate Z.1 n m).1) ∧ fm_CK ((sp_gate Z.1 n m).2, Z.2) M M') := by
  have h8 := hw.1.1.g8
  refine fm_C.of (by decide +kernel) (Nat.le_of_ble_eq_true rfl) ?_
  intro X hE hR hB
  subst hE
  have hB : fm_B _ X cX8_gate 3 RX8 (some .int) := hB
  refine fr_lv [some (.ref (fm_rh X 0)), some (.int n), some (.int m)] ⟨rfl, rfl, rfl, trivial⟩ ?_
  refine fr_iload_n hB dX8_gate_0 rfl rfl ?_
  refine fr_callS hB _ _ dX8_gate_1 lm_X8_74 (ct_X8_isKind) rfl rfl (Nat.le_of_ble_eq_true rfl) (fm_room hR (by decide) (by decide)) ?_
  rintro _ M9 ⟨rfl, hM9⟩
  rw [hM9]
  clear hM9 M9
  refine fr_ret1 ?_
  refine fr_if_eqB (tgt := 14) hB dX8_gate_4 (by decide) (fun h => ?_) (fun h => ?_)
  · refine fr_bipush (v := -2) hB dX8_gate_14 (by decide) ?_
    exact fr_ireturn hB dX8_gate_16 (⟨by rw [sp_gate, h]; rfl, by rw [sp_gate, h]; exact hc.K⟩)
  · refine fr_iload_n hB dX8_gate_7 rfl rfl ?_
    refine fr_callS hB _ _ dX8_gate_8 lm_X8_77 (ct_X8_isNeed) rfl rfl (Nat.le_of_ble_eq_true rfl) (fm_room hR (by decide) (by decide)) ?_
    rintro _ M9 ⟨rfl, hM9⟩
    rw [hM9]
    clear hM9 M9
    refine fr_ret1 ?_
    refine fr_if_neB (tgt := 17) hB dX8_gate_11 (by decide) (fun h2 => ?_) (fun h2 => ?_)
    · obtain ⟨a, ha, rfl⟩ := fm_lt_of (by omega) h
      obtain ⟨b, hb, rfl⟩ := fm_lt_of (by omega) h2
      refine fr_aload_n hB dX8_gate_17 rfl rfl ?_
      refine fr_getR hB dX8_gate_18 lf_X8_14 rfl rfl ?_
      refine fr_getR hB dX8_gate_21 lf_X8_67 rfl rfl ?_
      refine fr_iload_n hB dX8_gate_24 rfl rfl ?_
      refine fr_iload_n hB dX8_gate_25 rfl rfl ?_
      refine fr_callV hB _ _ dX8_gate_26 lm_X8_80 rfl (ct_X3_addGate shC_Pl2 hc.1.pl.gates h8) rfl rfl (Nat.le_of_ble_eq_true rfl) (fm_room hR (by decide) (by decide)) ?_
      rintro _ M9 ⟨rfl, hM9⟩
      rw [hM9]
      clear hM9 M9
      refine fr_ret1 ?_
      unfold sp_gate
      rw [h, h2, nI_clamp (show a < 2 ^ 31 by omega), nI_clamp (show b < 2 ^ 31 by omega)]
      simp only [Bool.and_self, if_true]
      by_cases hp : Z.1 3 0 < 8
      · rw [if_pos hp, if_pos hp, if_pos hp]
        exact fr_ireturn hB dX8_gate_29 (⟨rfl, hc.nowK (((hc.1.u_kind.u_need).u_cnt).u_gates) (fun b hb => by simp [fm_u, show ¬ b = 2 by omega, show ¬ b = 5 by omega, show ¬ b = 6 by omega, show ¬ b = 8 by omega]) (fun _ _ => rfl)⟩)
      · rw [if_neg hp, if_neg hp, if_neg hp]
        exact fr_ireturn hB dX8_gate_29 (⟨rfl, hc.K⟩)
    · refine fr_bipush (v := -2) hB dX8_gate_14 (by decide) ?_
      exact fr_ireturn hB dX8_gate_16 (⟨by rw [sp_gate, h, h2]; rfl, by rw [sp_gate, h, h2]; exact hc.K⟩)
theorem ck_join {E : fm_E} {g n : Int32} {b : Bool} {Z : fm_Z} {M : fm_M} (hc : fm_CR Z M) (hw : fm_WZ Z) : fm_C shC E mX8_join 1 [.ref (E.2.1 0), .int g, .int (fm_ib b), .int n] M (fun r M' => r = some (.int (sp_join Z.1 g b n).1) ∧ fm_CK ((sp_join Z.1 g b n).2, Z.2) M M') := by
  have h8 := hw.1.1.g8
  have h6 := hw.1.1.p6
  refine fm_C.of (by decide +kernel) (Nat.le_of_ble_eq_true rfl) ?_
  intro X hE hR hB
  subst hE
  have hB : fm_B _ X cX8_join 5 RX8 (some .int) := hB
  refine fr_lv [some (.ref (fm_rh X 0)), some (.int g), some (.int (fm_ib b)), some (.int n), none] ⟨rfl, rfl, rfl, rfl, trivial⟩ ?_
  have fin : ∀ (c x : Nat) (M' : fm_M), c < Z.1 3 0 → (M' = if Z.1 6 c < 4 then fm_pi (fm_pi M (2 + 5) (c * 4 + Z.1 6 c) (nI x)) (2 + 6) c (nI (Z.1 6 c + 1)) else M) → fm_CK ((sp_in Z.1 c x).2, Z.2) M M' := by
    intro c x M' hcc hM
    unfold sp_in
    by_cases hp : Z.1 6 c < 4
    · rw [if_pos hp] at hM ⊢
      rw [hM]
      exact hc.nowK (hc.1.u_inp.u_cnt) (fun b hb => by simp [fm_u, show ¬ b = 7 by omega, show ¬ b = 8 by omega]) (fun _ _ => rfl)
    · rw [if_neg hp] at hM ⊢
      rw [hM]
      exact hc.K
  have fin1 : ∀ (c x : Nat), (sp_in Z.1 c x).1 = if Z.1 6 c < 4 then nI (Z.1 6 c + 1) else -4 := by
    intro c x
    unfold sp_in
    split <;> rfl
  refine fr_aload_n hB dX8_join_0 rfl rfl ?_
  refine fr_getR hB dX8_join_1 lf_X8_14 rfl rfl ?_
  refine fr_getR hB dX8_join_4 lf_X8_67 rfl rfl ?_
  refine fr_astore hB dX8_join_7 (by decide) rfl ?_
  refine fr_aload hB dX8_join_9 rfl ?_
  refine fr_iload_n hB dX8_join_11 rfl rfl ?_
  refine fr_callV hB _ _ dX8_join_12 lm_X8_84 rfl (ct_X3_hasGate shC_Pl2 hc.1.pl.gates) rfl rfl (Nat.le_of_ble_eq_true rfl) (fm_room hR (by decide) (by decide)) ?_
  rintro _ M9 ⟨rfl, hM9⟩
  rw [hM9]
  clear hM9 M9
  refine fr_ret1 ?_
  refine fr_if_neB (tgt := 20) hB dX8_join_15 (by decide) (fun h0 => ?_) (fun h0 => ?_)
  · obtain ⟨c, hcc, rfl⟩ := fm_lt_of (by omega) h0
    have ec : (nI c).toNatClampNeg = c := nI_clamp (by omega)
    have hi4 := hw.1.1.i4 c
    refine fr_iload_n hB dX8_join_20 rfl rfl ?_
    refine fr_if_eqB (tgt := 45) hB dX8_join_21 (by decide) (fun hb => ?_) (fun hb => ?_)
    · refine fr_aload hB dX8_join_45 rfl ?_
      refine fr_iload_n hB dX8_join_47 rfl rfl ?_
      refine fr_callV hB _ _ dX8_join_48 lm_X8_84 rfl (ct_X3_hasGate shC_Pl2 hc.1.pl.gates) rfl rfl (Nat.le_of_ble_eq_true rfl) (fm_room hR (by decide) (by decide)) ?_
      rintro _ M9 ⟨rfl, hM9⟩
      rw [hM9]
      clear hM9 M9
      refine fr_ret1 ?_
      refine fr_if_neB (tgt := 56) hB dX8_join_51 (by decide) (fun h1 => ?_) (fun h1 => ?_)
      · obtain ⟨d, hd, rfl⟩ := fm_lt_of (by omega) h1
        have ed : (nI d).toNatClampNeg = d := nI_clamp (by omega)
        refine fr_iload_n hB dX8_join_56 rfl rfl ?_
        refine fr_iload_n hB dX8_join_57 rfl rfl ?_
        refine fr_icmp_ltN (tgt := 64) hB dX8_join_58 (by decide) (by omega) (by omega) (fun h2 => ?_) (fun h2 => ?_)
        · have e : sp_join Z.1 (nI c) b (nI d) = sp_in Z.1 c (10 + d) := by rw [sp_join, if_pos h0, hb, if_neg (by decide), if_pos h1, if_pos (nI_lt h2 (by omega)), ec, ed]
          refine fr_aload hB dX8_join_64 rfl ?_
          refine fr_iload_n hB dX8_join_66 rfl rfl ?_
          refine fr_bipush (v := nI 10) hB dX8_join_67 (by decide) ?_
          refine fr_iload_n hB dX8_join_69 rfl rfl ?_
          refine fr_iaddN hB dX8_join_70 ?_
          refine fr_callV hB _ _ dX8_join_71 lm_X8_97 rfl (ct_X3_addInput shC_Pl2 (by omega) (hc.1.pl.cnt c (by omega)) hi4) rfl rfl (Nat.le_of_ble_eq_true rfl) (fm_room hR (by decide) (by decide)) ?_
          rintro _ M9 ⟨rfl, hM9⟩
          rw [hM9]
          clear hM9 M9
          refine fr_ret1 ?_
          exact fr_ireturn hB dX8_join_74 (⟨by rw [e, fin1], by rw [e]; exact fin c (10 + d) _ hcc rfl⟩)
        · have e : sp_join Z.1 (nI c) b (nI d) = (-3, Z.1) := by rw [sp_join, if_pos h0, hb, if_neg (by decide), if_pos h1, if_neg (nI_nlt h2 (by omega))]
          refine fr_bipush (v := -3) hB dX8_join_61 (by decide) ?_
          exact fr_ireturn hB dX8_join_63 (⟨by rw [e], by rw [e]; exact hc.K⟩)
      · have e : sp_join Z.1 (nI c) b n = (-1, Z.1) := by rw [sp_join, if_pos h0, hb, if_neg (by decide), h1]; rfl
        refine fr_iconst (v := -1) hB dX8_join_54 (by decide) ?_
        exact fr_ireturn hB dX8_join_55 (⟨by rw [e], by rw [e]; exact hc.K⟩)
    · refine fr_aload hB dX8_join_24 rfl ?_
      refine fr_iload_n hB dX8_join_26 rfl rfl ?_
      refine fr_callV hB _ _ dX8_join_27 lm_X8_94 rfl (ct_X3_hasPart shC_Pl2 hc.1.pl.parts) rfl rfl (Nat.le_of_ble_eq_true rfl) (fm_room hR (by decide) (by decide)) ?_
      rintro _ M9 ⟨rfl, hM9⟩
      rw [hM9]
      clear hM9 M9
      refine fr_ret1 ?_
      refine fr_if_eqB (tgt := 43) hB dX8_join_30 (by decide) (fun h1 => ?_) (fun h1 => ?_)
      · have e : sp_join Z.1 (nI c) b n = (-1, Z.1) := by rw [sp_join, if_pos h0, hb, if_pos rfl, h1]; rfl
        refine fr_iconst (v := -1) hB dX8_join_43 (by decide) ?_
        exact fr_ireturn hB dX8_join_44 (⟨by rw [e], by rw [e]; exact hc.K⟩)
      · obtain ⟨d, hd, rfl⟩ := fm_lt_of (by omega) h1
        have ed : (nI d).toNatClampNeg = d := nI_clamp (by omega)
        have e : sp_join Z.1 (nI c) b (nI d) = sp_in Z.1 c d := by rw [sp_join, if_pos h0, hb, if_pos rfl, if_pos h1, ec, ed]
        refine fr_aload hB dX8_join_33 rfl ?_
        refine fr_iload_n hB dX8_join_35 rfl rfl ?_
        refine fr_iload_n hB dX8_join_36 rfl rfl ?_
        refine fr_callV hB _ _ dX8_join_37 lm_X8_97 rfl (ct_X3_addInput shC_Pl2 (by omega) (hc.1.pl.cnt c (by omega)) hi4) rfl rfl (Nat.le_of_ble_eq_true rfl) (fm_room hR (by decide) (by decide)) ?_
        rintro _ M9 ⟨rfl, hM9⟩
        rw [hM9]
        clear hM9 M9
        refine fr_ret1 ?_
        refine fr_goto (tgt := 44) hB dX8_join_40 (by decide) ?_
        exact fr_ireturn hB dX8_join_44 (⟨by rw [e, fin1], by rw [e]; exact fin c d _ hcc rfl⟩)
  · have e : sp_join Z.1 g b n = (-1, Z.1) := by rw [sp_join, h0]; rfl
    refine fr_iconst (v := -1) hB dX8_join_18 (by decide) ?_
    exact fr_ireturn hB dX8_join_19 (⟨by rw [e], by rw [e]; exact hc.K⟩)
/-! ===== FaultGraph: drop, top, cause, odds, of, feed, count, at, move, see, event, book ===== -/
theorem ck_cause {E : fm_E} {n b : Int32} {Z : fm_Z} {M : fm_M} (hc : fm_CR Z M) (hw : fm_WZ Z) : fm_C shC E mX8_cause 1 [.ref (E.2.1 0), .int n, .int b] M (fun r M' => r = some (.int (sp_cause Z.1 n b).1) ∧ fm_CK ((sp_cause Z.1 n b).2, Z.2) M M') := by
  have h6 := hw.1.1.p6
  have h3 := hw.1.1.c3
  have h2c := fm_2c h6
  refine fm_C.of (by decide +kernel) (Nat.le_of_ble_eq_true rfl) ?_
  intro X hE hR hB
  subst hE
  have hB : fm_B _ X cX8_cause 3 RX8 (some .int) := hB
  refine fr_lv [some (.ref (fm_rh X 0)), some (.int n), some (.int b)] ⟨rfl, rfl, rfl, trivial⟩ ?_
  refine fr_iload_n hB dX8_cause_0 rfl rfl ?_
  refine fr_callS hB _ _ dX8_cause_1 lm_X8_63 (ct_X8_isOdds) rfl rfl (Nat.le_of_ble_eq_true rfl) (fm_room hR (by decide) (by decide)) ?_
  rintro _ M9 ⟨rfl, hM9⟩
  rw [hM9]
  clear hM9 M9
  refine fr_ret1 ?_
  refine fr_if_eqB (tgt := 21) hB dX8_cause_4 (by decide) (fun h => ?_) (fun h => ?_)
  · refine fr_bipush (v := -2) hB dX8_cause_21 (by decide) ?_
    exact fr_ireturn hB dX8_cause_23 (⟨by rw [sp_cause, h]; rfl, by rw [sp_cause, h]; exact hc.K⟩)
  · refine fr_aload_n hB dX8_cause_7 rfl rfl ?_
    refine fr_getR hB dX8_cause_8 lf_X8_14 rfl rfl ?_
    refine fr_getR hB dX8_cause_11 lf_X8_67 rfl rfl ?_
    refine fr_iload_n hB dX8_cause_14 rfl rfl ?_
    refine fr_callV hB _ _ dX8_cause_15 lm_X8_111 rfl (ct_X3_hasBits shC_Pl2 hc.1.pl.parts h6) rfl rfl (Nat.le_of_ble_eq_true rfl) (fm_room hR (by decide) (by decide)) ?_
    rintro _ M9 ⟨rfl, hM9⟩
    rw [hM9]
    clear hM9 M9
    refine fr_ret1 ?_
    refine fr_if_neB (tgt := 24) hB dX8_cause_18 (by decide) (fun h2 => ?_) (fun h2 => ?_)
    · obtain ⟨a, ha, rfl⟩ := fm_lt_of (by omega) h
      obtain ⟨d, hd, rfl⟩ := fm_lt_of (by omega) h2
      refine fr_aload_n hB dX8_cause_24 rfl rfl ?_
      refine fr_getR hB dX8_cause_25 lf_X8_14 rfl rfl ?_
      refine fr_getR hB dX8_cause_28 lf_X8_67 rfl rfl ?_
      refine fr_iload_n hB dX8_cause_31 rfl rfl ?_
      refine fr_iload_n hB dX8_cause_32 rfl rfl ?_
      refine fr_callV hB _ _ dX8_cause_33 lm_X8_114 rfl (ct_X3_addCause shC_Pl2 hc.1.pl.causes h3) rfl rfl (Nat.le_of_ble_eq_true rfl) (fm_room hR (by decide) (by decide)) ?_
      rintro _ M9 ⟨rfl, hM9⟩
      rw [hM9]
      clear hM9 M9
      refine fr_ret1 ?_
      unfold sp_cause
      rw [h, h2, nI_clamp (show a < 2 ^ 31 by omega), nI_clamp (show d < 2 ^ 31 by omega)]
      simp only [Bool.and_self, if_true]
      by_cases hp : Z.1 9 0 < 3
      · rw [if_pos hp, if_pos hp, if_pos hp]
        exact fr_ireturn hB dX8_cause_36 (⟨rfl, hc.nowK ((hc.1.u_codds.u_cbits).u_causes) (fun b hb => by simp [fm_u, show ¬ b = 2 by omega, show ¬ b = 9 by omega, show ¬ b = 10 by omega]) (fun _ _ => rfl)⟩)
      · rw [if_neg hp, if_neg hp, if_neg hp]
        exact fr_ireturn hB dX8_cause_36 (⟨rfl, hc.K⟩)
    · refine fr_bipush (v := -2) hB dX8_cause_21 (by decide) ?_
      exact fr_ireturn hB dX8_cause_23 (⟨by rw [sp_cause, h, h2]; rfl, by rw [sp_cause, h, h2]; exact hc.K⟩)
/-- one clause, obeyed -/
def sp_ob (P : fm_P) (so x y : Int32) : Int32 × fm_P := if so = nI 0 then sp_part P x else if so = nI 1 then sp_gate P x y else if so = nI 2 then sp_join P x true y else if so = nI 3 then sp_join P x false y else if so = nI 4 then sp_cause P x y else (-1, P)
theorem kp_ob {P : fm_P} (h : fm_wF P) (so x y : Int32) : fm_wF (sp_ob P so x y).2 := by
  unfold sp_ob
  split
  · exact kp_part h _
  · split
    · exact kp_gate h _ _
    · split
      · exact kp_join h _ _ _
      · split
        · exact kp_join h _ _ _
        · split
          · exact kp_cause h _ _
          · exact h
theorem ck_obey {E : fm_E} {i : Nat} {Z : fm_Z} {M : fm_M} (hc : fm_CR Z M) (hw : fm_WZ Z) (hi : i < 16) : fm_C shC E mX8_obey 2 [.ref (E.2.1 0), .int (nI i)] M (fun r M' => r = some (.int (sp_ob Z.1 (M.1 64 i) (M.1 65 i) (M.1 66 i)).1) ∧ fm_CK ((sp_ob Z.1 (M.1 64 i) (M.1 65 i) (M.1 66 i)).2, Z.2) M M') := by
  refine fm_C.of (by decide +kernel) (Nat.le_of_ble_eq_true rfl) ?_
  intro X hE hR hB
  subst hE
  have hB : fm_B _ X cX8_obey 4 RX8 (some .int) := hB
  refine fr_lv [some (.ref (fm_rh X 0)), some (.int (nI i)), none, none] ⟨rfl, rfl, trivial⟩ ?_
  refine fr_aload_n hB dX8_obey_0 rfl rfl ?_
  refine fr_getR hB dX8_obey_1 lf_X8_52 rfl rfl ?_
  refine fr_getR hB dX8_obey_4 lf_X8_154 rfl rfl ?_
  refine fr_iload_n hB dX8_obey_7 rfl rfl ?_
  refine fr_iald hB (_) dX8_obey_8 rfl (rfl) (by omega) (by decide) ?_
  refine fr_istore_n hB dX8_obey_9 rfl (by decide) rfl ?_
  refine fr_aload_n hB dX8_obey_10 rfl rfl ?_
  refine fr_getR hB dX8_obey_11 lf_X8_52 rfl rfl ?_
  refine fr_getR hB dX8_obey_14 lf_X8_157 rfl rfl ?_
  refine fr_iload_n hB dX8_obey_17 rfl rfl ?_
  refine fr_iald hB (_) dX8_obey_18 rfl (rfl) (by omega) (by decide) ?_
  refine fr_istore_n hB dX8_obey_19 rfl (by decide) rfl ?_
  refine fr_aload_n hB dX8_obey_20 rfl rfl ?_
  refine fr_getR hB dX8_obey_21 lf_X8_52 rfl rfl ?_
  refine fr_getR hB dX8_obey_24 lf_X8_160 rfl rfl ?_
  refine fr_iload_n hB dX8_obey_27 rfl rfl ?_
  refine fr_iald hB (_) dX8_obey_28 rfl (rfl) (by omega) (by decide) ?_
  generalize M.1 64 i = so
  generalize M.1 65 i = x
  generalize M.1 66 i = y
  rcases fm_cases so 5 (by decide) with ⟨q, hq, rfl⟩ | hout
  · rcases (show q = 0 ∨ q = 1 ∨ q = 2 ∨ q = 3 ∨ q = 4 by omega) with rfl | rfl | rfl | rfl | rfl
    · have e : sp_ob Z.1 (nI 0) x y = sp_part Z.1 x := by rw [sp_ob, if_pos rfl]
      rw [e]
      refine fr_tableIn (tgt := 64) hB dX8_obey_29 (by decide) (by decide) (by rfl) (by decide) ?_
      refine fr_aload_n hB dX8_obey_64 rfl rfl ?_
      refine fr_iload_n hB dX8_obey_65 rfl rfl ?_
      refine fr_callV hB _ _ dX8_obey_66 lm_X8_163 rfl (ck_part hc hw) rfl rfl (Nat.le_of_ble_eq_true rfl) (fm_room hR (by decide) (by decide)) ?_
      rintro _ _ ⟨rfl, hk⟩
      refine fr_ret1 ?_
      exact fr_ireturn hB dX8_obey_69 (⟨rfl, hk⟩)
    · have e : sp_ob Z.1 (nI 1) x y = sp_gate Z.1 x y := by rw [sp_ob, if_neg (by decide), if_pos rfl]
      rw [e]
      refine fr_tableIn (tgt := 70) hB dX8_obey_29 (by decide) (by decide) (by rfl) (by decide) ?_
      refine fr_aload_n hB dX8_obey_70 rfl rfl ?_
      refine fr_iload_n hB dX8_obey_71 rfl rfl ?_
      refine fr_iload_n hB dX8_obey_72 rfl rfl ?_
      refine fr_callV hB _ _ dX8_obey_73 lm_X8_166 rfl (ck_gate hc hw) rfl rfl (Nat.le_of_ble_eq_true rfl) (fm_room hR (by decide) (by decide)) ?_
      rintro _ _ ⟨rfl, hk⟩
      refine fr_ret1 ?_
      exact fr_ireturn hB dX8_obey_76 (⟨rfl, hk⟩)
    · have e : sp_ob Z.1 (nI 2) x y = sp_join Z.1 x true y := by rw [sp_ob, if_neg (by decide), if_neg (by decide), if_pos rfl]
      rw [e]
      refine fr_tableIn (tgt := 77) hB dX8_obey_29 (by decide) (by decide) (by rfl) (by decide) ?_
      refine fr_aload_n hB dX8_obey_77 rfl rfl ?_
      refine fr_iload_n hB dX8_obey_78 rfl rfl ?_
      refine fr_iconst (v := nI 1) hB dX8_obey_79 (by decide) ?_
      refine fr_iload_n hB dX8_obey_80 rfl rfl ?_
      refine fr_callV hB _ _ dX8_obey_81 lm_X8_169 rfl (ck_join (b := true) hc hw) rfl rfl (Nat.le_of_ble_eq_true rfl) (fm_room hR (by decide) (by decide)) ?_
      rintro _ _ ⟨rfl, hk⟩
      refine fr_ret1 ?_
      exact fr_ireturn hB dX8_obey_84 (⟨rfl, hk⟩)
    · have e : sp_ob Z.1 (nI 3) x y = sp_join Z.1 x false y := by rw [sp_ob, if_neg (by decide), if_neg (by decide), if_neg (by decide), if_pos rfl]
      rw [e]
      refine fr_tableIn (tgt := 85) hB dX8_obey_29 (by decide) (by decide) (by rfl) (by decide) ?_
      refine fr_aload_n hB dX8_obey_85 rfl rfl ?_
      refine fr_iload_n hB dX8_obey_86 rfl rfl ?_
      refine fr_iconst (v := nI 0) hB dX8_obey_87 (by decide) ?_
      refine fr_iload_n hB dX8_obey_88 rfl rfl ?_
      refine fr_callV hB _ _ dX8_obey_89 lm_X8_169 rfl (ck_join (b := false) hc hw) rfl rfl (Nat.le_of_ble_eq_true rfl) (fm_room hR (by decide) (by decide)) ?_
      rintro _ _ ⟨rfl, hk⟩
      refine fr_ret1 ?_
      exact fr_ireturn hB dX8_obey_92 (⟨rfl, hk⟩)
    · have e : sp_ob Z.1 (nI 4) x y = sp_cause Z.1 x y := by rw [sp_ob, if_neg (by decide), if_neg (by decide), if_neg (by decide), if_neg (by decide), if_pos rfl]
      rw [e]
      refine fr_tableIn (tgt := 93) hB dX8_obey_29 (by decide) (by decide) (by rfl) (by decide) ?_
      refine fr_aload_n hB dX8_obey_93 rfl rfl ?_
      refine fr_iload_n hB dX8_obey_94 rfl rfl ?_
      refine fr_iload_n hB dX8_obey_95 rfl rfl ?_
      refine fr_callV hB _ _ dX8_obey_96 lm_X8_173 rfl (ck_cause hc hw) rfl rfl (Nat.le_of_ble_eq_true rfl) (fm_room hR (by decide) (by decide)) ?_
      rintro _ _ ⟨rfl, hk⟩
      refine fr_ret1 ?_
      exact fr_ireturn hB dX8_obey_99 (⟨rfl, hk⟩)
  · have e : ∀ i : Nat, i < 5 → ¬ so = nI i := fun i hi q => by
      rw [q, nI_toInt (by omega)] at hout
      omega
    have e2 : sp_ob Z.1 so x y = (-1, Z.1) := by rw [sp_ob, if_neg (e 0 (by decide)), if_neg (e 1 (by decide)), if_neg (e 2 (by decide)), if_neg (e 3 (by decide)), if_neg (e 4 (by decide))]
    rw [e2]
    refine fr_tableOut (tgt := 100) hB dX8_obey_29 (by omega) (by decide) ?_
    refine fr_iconst (v := -1) hB dX8_obey_100 (by decide) ?_
    exact fr_ireturn hB dX8_obey_101 (⟨rfl, hc.K⟩)
/-- the clauses from i on, d of them, obeyed; how many were done -/
def fm_rdl (S : fm_TS) : Nat → Nat → fm_P → Nat → Nat × fm_P
  | 0, _, P, n => (n, P)
  | d + 1, i, P, n => fm_rdl S d (i + 1) (sp_ob P (S.2.2.1 i) (S.2.2.2.1 i) (S.2.2.2.2 i)).2 (if (sp_ob P (S.2.2.1 i) (S.2.2.2.1 i) (S.2.2.2.2 i)).1 < 0 then n else n + 1)
theorem kp_rdl (S : fm_TS) : ∀ d i P n, fm_wF P → fm_wF (fm_rdl S d i P n).2 := by
  intro d
  induction d with
  | zero => intro i P n h; exact h
  | succ d ih =>
    intro i P n h
    unfold fm_rdl
    exact ih _ _ _ (kp_ob h _ _ _)
def fm_re (Z : fm_Z) (P : fm_P) : fm_Z := (P, Z.2.1, Z.2.2.1, 0, Z.2.2.2.2)
def sp_rd (Z : fm_Z) (S : Bool × fm_TS) : Int32 × fm_Z := if S.1 then (nI (fm_rdl S.2 S.2.2.1 0 Z.1 0).1, fm_re Z (fm_rdl S.2 S.2.2.1 0 Z.1 0).2) else (-10 - nI S.2.1, fm_re Z Z.1)
def sp_read (Z : fm_Z) (R : (Nat → Int32) × (Nat → Int32) × (Nat → Int32)) : Int32 × fm_Z := sp_rd Z (fm_par Z.2.2.1 Z.2.2.2.1 16 (0, 0, R))
theorem cc_read {E : fm_E} {Z : fm_Z} {M : fm_M} (hc : fm_CR Z M) (hw : fm_WZ Z) : fm_C shC E mX8_read 5 [.ref (E.2.1 0)] M (fun r M' => ∃ R, r = some (.int (sp_read Z R).1) ∧ fm_CR (sp_read Z R).2 M') := by
  have htx := hc.2.2.1
  have hpo := fm_par_ok (f := Z.2.2.1) htx.2.1 16 (0, 0, M.1 64, M.1 65, M.1 66) ⟨by show 0 ≤ 100; omega, by show 0 ≤ 16; omega⟩
  refine fm_C.of (by decide +kernel) (Nat.le_of_ble_eq_true rfl) ?_
  intro X hE hR hB
  subst hE
  have hB : fm_B _ X cX8_read 4 RX8 (some .int) := hB
  refine fr_lv [some (.ref (fm_rh X 0)), none, none, none] ⟨rfl, trivial⟩ ?_
  refine fr_aload_n hB dX8_read_0 rfl rfl ?_
  refine fr_getR hB dX8_read_1 lf_X8_52 rfl rfl ?_
  refine fr_callV hB _ _ dX8_read_4 lm_X8_138 rfl (ct_X5_parse htx) rfl rfl (Nat.le_of_ble_eq_true rfl) (fm_room hR (by decide) (by decide)) ?_
  rintro _ M9 ⟨rfl, hM9⟩
  rw [hM9]
  clear hM9 M9
  refine fr_ret1 ?_
  generalize hS : fm_par Z.2.2.1 Z.2.2.2.1 16 (0, 0, M.1 64, M.1 65, M.1 66) = S at hpo ⊢
  obtain ⟨ok, S⟩ := S
  have hpo : fm_tok S := hpo
  have hrow : ∀ P' : fm_P, fm_SR 1 P' (fm_tm M S) → fm_CR (fm_re Z P') (fm_pi (fm_tm M S) 63 0 (nI 0)) := by
    intro P' hP'
    refine ⟨hP'.kept (fun b h1 h2 => fm_u_ne _ _ _ (by omega)), ?_, ⟨by simp [fm_u, fm_re], by show 0 ≤ 100; omega, fun j hj => absurd (show j < 0 from hj) (by omega)⟩, fun j hj => ?_⟩
    · show fm_IR Z.2.1 _
      have h2 := hc.2.1
      cases hI : Z.2.1 with
      | none =>
        rw [hI] at h2
        show fm_u (fm_tm M S).1 63 0 (nI 0) 0 8 = nI 0
        rw [fm_u_ne _ _ _ (by omega)]
        exact h2
      | some Q =>
        rw [hI] at h2
        refine ⟨?_, h2.2.kept (fun b h1 h2 => ?_)⟩
        · show fm_u (fm_tm M S).1 63 0 (nI 0) 0 8 = nI 1
          rw [fm_u_ne _ _ _ (by omega)]
          exact h2.1
        · show fm_u (fm_tm M S).1 63 0 (nI 0) b = _
          rw [fm_u_ne _ _ _ (by omega)]
          exact tm_1 _ _ (by omega)
    · have h4 := hc.2.2.2 j hj
      show fm_u (fm_tm M S).1 63 0 (nI 0) (69 + 2 * j) 0 = _ ∧ fm_u (fm_tm M S).1 63 0 (nI 0) (69 + 2 * j) 1 = _ ∧ _
      rw [fm_u_ne _ _ _ (show 69 + 2 * j ≠ 63 by omega), tm_1 M S (show 69 + 2 * j < 63 ∨ 66 < 69 + 2 * j by omega)]
      exact h4
  have hsr : fm_SR 1 Z.1 (fm_tm M S) := hc.1.kept (fun b h1 h2 => tm_1 _ _ (by omega))
  have hc1 := hrow Z.1 hsr
  refine fr_istore_n hB dX8_read_7 rfl (by decide) rfl ?_
  refine fr_aload_n hB dX8_read_8 rfl rfl ?_
  refine fr_getR hB dX8_read_9 lf_X8_52 rfl rfl ?_
  refine fr_iconst (v := nI 0) hB dX8_read_12 (by decide) ?_
  refine fr_putI hB dX8_read_13 lp_X8_142 rfl rfl ?_
  refine fr_iload_n hB dX8_read_16 rfl rfl ?_
  refine fr_if_neB (tgt := 31) hB dX8_read_17 (by decide) (fun h => ?_) (fun h => ?_)
  · have hn : S.2.1 ≤ 16 := hpo.2
    have e : sp_read Z (M.1 64, M.1 65, M.1 66) = (nI (fm_rdl S S.2.1 0 Z.1 0).1, fm_re Z (fm_rdl S S.2.1 0 Z.1 0).2) := by
      rw [sp_read, hS, sp_rd, if_pos h]
    generalize hW : fm_rdl S S.2.1 0 Z.1 0 = W at e
    have l1 : ∀ (d i n : Nat) (P' : fm_P) (M1 : fm_M), i + d = S.2.1 → n ≤ i → fm_rdl S d i P' n = W → fm_wF P' → fm_CR (fm_re Z P') M1 → (∀ a, 22 ≤ a → M1.1 a = fm_u (fm_tm M S).1 63 0 (nI 0) a) → fm_W shC X 4 35 [some (.ref (fm_rh X 0)), none, some (.int (nI n)), some (.int (nI i))] [] M1 (fm_Q shC X (fun r M' => ∃ R, r = some (.int (sp_read Z R).1) ∧ fm_CR (sp_read Z R).2 M')) := by
      intro d
      induction d with
      | zero =>
        intro i n P' M1 hi hni hZ hwp hcr hkk
        refine fr_iload_n hB dX8_read_35 rfl rfl ?_
        refine fr_aload_n hB dX8_read_36 rfl rfl ?_
        refine fr_getR hB dX8_read_37 lf_X8_52 rfl rfl ?_
        refine fr_getI hB dX8_read_40 lf_X8_148 rfl rfl ?_
        refine fr_eqi (nI (S.2.1)) ((congrFun (hkk 63 (by omega)) 2).trans (by simp [fm_u, fm_tm])) ?_
        refine fr_icmp_geN (tgt := 63) hB dX8_read_43 (by decide) (by omega) (by omega) (fun h2 => ?_) (fun h2 => ?_)
        · refine fr_iload_n hB dX8_read_63 rfl rfl ?_
          exact fr_ireturn hB dX8_read_64 (⟨_, by rw [e, ← hZ]; rfl, by rw [e, ← hZ]; exact hcr⟩)
        · exact absurd h2 (by omega)
      | succ d ih =>
        intro i n P' M1 hi hni hZ hwp hcr hkk
        have e64 : M1.1 64 i = S.2.2.1 i := (congrFun (hkk 64 (by omega)) i).trans (by simp [fm_u, fm_tm])
        have e65 : M1.1 65 i = S.2.2.2.1 i := (congrFun (hkk 65 (by omega)) i).trans (by simp [fm_u, fm_tm])
        have e66 : M1.1 66 i = S.2.2.2.2 i := (congrFun (hkk 66 (by omega)) i).trans (by simp [fm_u, fm_tm])
        have hwz : fm_WZ (fm_re Z P') := ⟨hwp, hw.2.1, hw.2.2⟩
        have e0 : fm_rdl S (d + 1) i P' n = fm_rdl S d (i + 1) (sp_ob P' (S.2.2.1 i) (S.2.2.2.1 i) (S.2.2.2.2 i)).2 (if (sp_ob P' (S.2.2.1 i) (S.2.2.2.1 i) (S.2.2.2.2 i)).1 < 0 then n else n + 1) := by rw [fm_rdl]
        rw [e0] at hZ
        clear e0
        refine fr_iload_n hB dX8_read_35 rfl rfl ?_
        refine fr_aload_n hB dX8_read_36 rfl rfl ?_
        refine fr_getR hB dX8_read_37 lf_X8_52 rfl rfl ?_
        refine fr_getI hB dX8_read_40 lf_X8_148 rfl rfl ?_
        refine fr_eqi (nI (S.2.1)) ((congrFun (hkk 63 (by omega)) 2).trans (by simp [fm_u, fm_tm])) ?_
        refine fr_icmp_geN (tgt := 63) hB dX8_read_43 (by decide) (by omega) (by omega) (fun h2 => ?_) (fun h2 => ?_)
        · exact absurd h2 (by omega)
        · have hkp := kp_ob hwp (S.2.2.1 i) (S.2.2.2.1 i) (S.2.2.2.2 i)
          have hob := ck_obey (E := fm_EX X) (i := i) hcr hwz (by omega)
          rw [e64, e65, e66] at hob
          have hob : fm_C shC (fm_EX X) mX8_obey 2 [.ref (fm_rh X 0), .int (nI i)] M1 (fun r M' => r = some (.int (sp_ob P' (S.2.2.1 i) (S.2.2.2.1 i) (S.2.2.2.2 i)).1) ∧ fm_CK ((sp_ob P' (S.2.2.1 i) (S.2.2.2.1 i) (S.2.2.2.2 i)).2, (fm_re Z P').2) M1 M') := hob
          generalize sp_ob P' (S.2.2.1 i) (S.2.2.2.1 i) (S.2.2.2.2 i) = OB at hkp hob hZ
          refine fr_aload_n hB dX8_read_46 rfl rfl ?_
          refine fr_iload_n hB dX8_read_47 rfl rfl ?_
          refine fr_callV hB _ _ dX8_read_48 lm_X8_151 rfl (hob) rfl rfl (Nat.le_of_ble_eq_true rfl) (fm_room hR (by decide) (by decide)) ?_
          rintro _ _ ⟨rfl, hk9⟩
          refine fr_ret1 ?_
          refine fr_if_lt (tgt := 57) hB dX8_read_51 (by decide) (fun h3 => ?_) (fun h3 => ?_)
          · rw [if_pos h3] at hZ
            refine fr_iincN (b := 1) hB dX8_read_57 rfl (by decide) (by decide) rfl ?_
            refine fr_goto (tgt := 35) hB dX8_read_60 (by decide) ?_
            exact ih (i + 1) n _ _ (by omega) (by omega) hZ hkp hk9.1 (fun a ha => (hk9.2 a ha).trans (hkk a ha))
          · rw [if_neg h3] at hZ
            refine fr_iincN (b := 1) hB dX8_read_54 rfl (by decide) (by decide) rfl ?_
            refine fr_iincN (b := 1) hB dX8_read_57 rfl (by decide) (by decide) rfl ?_
            refine fr_goto (tgt := 35) hB dX8_read_60 (by decide) ?_
            exact ih (i + 1) (n + 1) _ _ (by omega) (by omega) hZ hkp hk9.1 (fun a ha => (hk9.2 a ha).trans (hkk a ha))
    refine fr_iconst (v := nI 0) hB dX8_read_31 (by decide) ?_
    refine fr_istore_n hB dX8_read_32 rfl (by decide) rfl ?_
    refine fr_iconst (v := nI 0) hB dX8_read_33 (by decide) ?_
    refine fr_istore_n hB dX8_read_34 rfl (by decide) rfl ?_
    refine fr_lv [some (.ref (fm_rh X 0)), none, some (.int (nI 0)), some (.int (nI 0))] ⟨rfl, rfl, rfl, trivial⟩ ?_
    exact l1 S.2.1 0 0 Z.1 _ (by omega) (by omega) hW hw.1 hc1 (fun a ha => rfl)
  · have e : sp_read Z (M.1 64, M.1 65, M.1 66) = (-10 - nI S.1, fm_re Z Z.1) := by
      rw [sp_read, hS, sp_rd, if_neg (fun q => by rw [show ok = false from h] at q; cases q)]
    refine fr_bipush (v := -10) hB dX8_read_20 (by decide) ?_
    refine fr_aload_n hB dX8_read_22 rfl rfl ?_
    refine fr_getR hB dX8_read_23 lf_X8_52 rfl rfl ?_
    refine fr_getI hB dX8_read_26 lf_X8_145 rfl rfl ?_
    refine fr_eqi (nI (S.1)) (by simp [fm_u, fm_tm]) ?_
    refine fr_isub hB dX8_read_29 ?_
    exact fr_ireturn hB dX8_read_30 (⟨(M.1 64, M.1 65, M.1 66), by rw [e], by rw [e]; exact hc1⟩)
