/-! ===== the reference: what is within, parts, gates ===== -/
def fm_wn (v lo hi : Int32) : Bool := !decide (v < lo) && !decide (hi < v)
theorem fm_wn_lt {v : Int32} {c : Nat} (hc : c < 2 ^ 31) : fm_wn v (nI 0) (nI c - nI 1) = fm_lt v c := by
  have key : (nI c - nI 1 < v) ↔ ¬ v < nI c := by
    rw [Int32.lt_iff_toInt_lt, Int32.lt_iff_toInt_lt, nI_toInt hc]
    cases c with
    | zero =>
      have e : (nI 0 - nI 1).toInt = -1 := by decide
      rw [e]
      omega
    | succ n =>
      rw [nI_sub (by omega), Nat.add_sub_cancel, nI_toInt (by omega)]
      omega
  unfold fm_wn fm_lt
  rw [show nI 0 = (0 : Int32) from nI_0]
  by_cases h2 : v < nI c
  · rw [decide_eq_false (fun q => key.mp q h2), decide_eq_true h2]
    by_cases h1 : v < 0
    · rw [decide_eq_true h1, decide_eq_false (fun q => q h1)]; rfl
    · rw [decide_eq_false h1, decide_eq_true h1]; rfl
  · rw [decide_eq_true (key.mpr h2), decide_eq_false h2, Bool.not_true, Bool.and_false, Bool.and_false]
theorem fm_wn_le {v : Int32} {c : Nat} (hc : c + 1 < 2 ^ 31) : fm_wn v (nI 0) (nI c) = fm_lt v (c + 1) := by
  rw [← fm_wn_lt hc, nI_sub (by omega), Nat.add_sub_cancel]
theorem ct_X9_within {sh : List fm_S} {E : fm_E} {v lo hi : Int32} {M : fm_M} : fm_C sh E mX9_within 0 [.int v, .int lo, .int hi] M (fun r M' => r = some (.int (fm_ib (fm_wn v lo hi))) ∧ M' = M) := by
  refine fm_C.of (by decide +kernel) (Nat.le_of_ble_eq_true rfl) ?_
  intro X hE hR hB
  subst hE
  have hB : fm_B _ X cX9_within 3 RX9 (some .boolean) := hB
  refine fr_lv [some (.int v), some (.int lo), some (.int hi)] ⟨rfl, rfl, rfl, trivial⟩ ?_
  refine fr_iload_n hB dX9_within_0 rfl rfl ?_
  refine fr_iload_n hB dX9_within_1 rfl rfl ?_
  refine fr_icmp_lt (tgt := 14) hB dX9_within_2 (by decide) (fun h => ?_) (fun h => ?_)
  · refine fr_iconst (v := nI 0) hB dX9_within_14 (by decide) ?_
    exact fr_zreturn hB dX9_within_15 (by first | exact fm_nar0 | exact fm_nar1 | exact fm_nar _) (⟨by simp only [fm_wn, h, decide_true, Bool.not_true, Bool.false_and]; rfl, rfl⟩)
  · refine fr_iload_n hB dX9_within_5 rfl rfl ?_
    refine fr_iload_n hB dX9_within_6 rfl rfl ?_
    refine fr_icmp_gt (tgt := 14) hB dX9_within_7 (by decide) (fun h2 => ?_) (fun h2 => ?_)
    · refine fr_iconst (v := nI 0) hB dX9_within_14 (by decide) ?_
      exact fr_zreturn hB dX9_within_15 (by first | exact fm_nar0 | exact fm_nar1 | exact fm_nar _) (⟨by simp only [fm_wn, show hi < v from h2, decide_true, Bool.not_true, Bool.and_false]; rfl, rfl⟩)
    · refine fr_iconst (v := nI 1) hB dX9_within_10 (by decide) ?_
      refine fr_goto (tgt := 15) hB dX9_within_11 (by decide) ?_
      exact fr_zreturn hB dX9_within_15 (by first | exact fm_nar0 | exact fm_nar1 | exact fm_nar _) (⟨by simp only [fm_wn, h, show ¬ hi < v from h2, decide_false, Bool.not_false, Bool.and_true]; rfl, rfl⟩)
theorem ct_X9_win {sh : List fm_S} {E : fm_E} {v : Int32} {c : Nat} {M : fm_M} (hc : c < 2 ^ 31) : fm_C sh E mX9_within 0 [.int v, .int (nI 0), .int (nI c - nI 1)] M (fun r M' => r = some (.int (fm_ib (fm_lt v c))) ∧ M' = M) := by
  rw [← fm_wn_lt hc]
  exact ct_X9_within
theorem ct_X9_wto {sh : List fm_S} {E : fm_E} {v : Int32} {c : Nat} {M : fm_M} (hc : c + 1 < 2 ^ 31) : fm_C sh E mX9_within 0 [.int v, .int (nI 0), .int (nI c)] M (fun r M' => r = some (.int (fm_ib (fm_lt v (c + 1)))) ∧ M' = M) := by
  rw [← fm_wn_le hc]
  exact ct_X9_within
theorem ct_X9_isPart {E : fm_E} {n : Int32} {P : fm_P} {M : fm_M} (hm : fm_NP P M) (hw : fm_wf P) : fm_C shM E mX9_isPart 1 [.ref (E.2.1 0), .int n] M (fun r M' => r = some (.int (fm_ib (fm_lt n (P 0 0)))) ∧ M' = M) := by
  have h6 := hw.p6
  refine fm_C.of (by decide +kernel) (Nat.le_of_ble_eq_true rfl) ?_
  intro X hE hR hB
  subst hE
  have hB : fm_B _ X cX9_isPart 2 RX9 (some .boolean) := hB
  refine fr_lv [some (.ref (fm_rh X 0)), some (.int n)] ⟨rfl, rfl, trivial⟩ ?_
  refine fr_iload_n hB dX9_isPart_0 rfl rfl ?_
  refine fr_iconst (v := nI 0) hB dX9_isPart_1 (by decide) ?_
  refine fr_aload_n hB dX9_isPart_2 rfl rfl ?_
  refine fr_getI hB dX9_isPart_3 lf_X9_90 rfl rfl ?_
  refine fr_eqi _ (hm.parts) ?_
  refine fr_iconst (v := nI 1) hB dX9_isPart_6 (by decide) ?_
  refine fr_isub hB dX9_isPart_7 ?_
  refine fr_callS hB _ _ dX9_isPart_8 lm_X9_93 (ct_X9_win (show P 0 0 < 2 ^ 31 by omega)) rfl rfl (Nat.le_of_ble_eq_true rfl) (fm_room hR (by decide) (by decide)) ?_
  rintro _ M9 ⟨rfl, hM9⟩
  rw [hM9]
  clear hM9 M9
  refine fr_ret1 ?_
  exact fr_zreturn hB dX9_isPart_11 (by first | exact fm_nar0 | exact fm_nar1 | exact fm_nar _) (⟨rfl, rfl⟩)
theorem ct_X9_isGate {E : fm_E} {n : Int32} {P : fm_P} {M : fm_M} (hm : fm_NP P M) (hw : fm_wf P) : fm_C shM E mX9_isGate 1 [.ref (E.2.1 0), .int n] M (fun r M' => r = some (.int (fm_ib (fm_lt n (P 3 0)))) ∧ M' = M) := by
  have h8 := hw.g8
  refine fm_C.of (by decide +kernel) (Nat.le_of_ble_eq_true rfl) ?_
  intro X hE hR hB
  subst hE
  have hB : fm_B _ X cX9_isGate 2 RX9 (some .boolean) := hB
  refine fr_lv [some (.ref (fm_rh X 0)), some (.int n)] ⟨rfl, rfl, trivial⟩ ?_
  refine fr_iload_n hB dX9_isGate_0 rfl rfl ?_
  refine fr_iconst (v := nI 0) hB dX9_isGate_1 (by decide) ?_
  refine fr_aload_n hB dX9_isGate_2 rfl rfl ?_
  refine fr_getI hB dX9_isGate_3 lf_X9_97 rfl rfl ?_
  refine fr_eqi _ (hm.gates) ?_
  refine fr_iconst (v := nI 1) hB dX9_isGate_6 (by decide) ?_
  refine fr_isub hB dX9_isGate_7 ?_
  refine fr_callS hB _ _ dX9_isGate_8 lm_X9_93 (ct_X9_win (show P 3 0 < 2 ^ 31 by omega)) rfl rfl (Nat.le_of_ble_eq_true rfl) (fm_room hR (by decide) (by decide)) ?_
  rintro _ M9 ⟨rfl, hM9⟩
  rw [hM9]
  clear hM9 M9
  refine fr_ret1 ?_
  exact fr_zreturn hB dX9_isGate_11 (by first | exact fm_nar0 | exact fm_nar1 | exact fm_nar _) (⟨rfl, rfl⟩)
theorem ct_X9_isSet {E : fm_E} {n : Int32} {P : fm_P} {M : fm_M} (hm : fm_NP P M) (hw : fm_wf P) : fm_C shM E mX9_isSet 1 [.ref (E.2.1 0), .int n] M (fun r M' => r = some (.int (fm_ib (fm_lt n (2 ^ P 0 0)))) ∧ M' = M) := by
  have h6 := hw.p6
  have h2c := fm_2c h6
  refine fm_C.of (by decide +kernel) (Nat.le_of_ble_eq_true rfl) ?_
  intro X hE hR hB
  subst hE
  have hB : fm_B _ X cX9_isSet 2 RX9 (some .boolean) := hB
  refine fr_lv [some (.ref (fm_rh X 0)), some (.int n)] ⟨rfl, rfl, trivial⟩ ?_
  refine fr_iload_n hB dX9_isSet_0 rfl rfl ?_
  refine fr_iconst (v := nI 0) hB dX9_isSet_1 (by decide) ?_
  refine fr_iconst (v := nI 1) hB dX9_isSet_2 (by decide) ?_
  refine fr_aload_n hB dX9_isSet_3 rfl rfl ?_
  refine fr_getI hB dX9_isSet_4 lf_X9_90 rfl rfl ?_
  refine fr_eqi _ (hm.parts) ?_
  refine fr_ishl hB dX9_isSet_7 ?_
  refine fr_eqi (nI (2 ^ P 0 0)) (fm_shl1 h6) ?_
  refine fr_iconst (v := nI 1) hB dX9_isSet_8 (by decide) ?_
  refine fr_isub hB dX9_isSet_9 ?_
  refine fr_callS hB _ _ dX9_isSet_10 lm_X9_93 (ct_X9_win (show 2 ^ P 0 0 < 2 ^ 31 by omega)) rfl rfl (Nat.le_of_ble_eq_true rfl) (fm_room hR (by decide) (by decide)) ?_
  rintro _ M9 ⟨rfl, hM9⟩
  rw [hM9]
  clear hM9 M9
  refine fr_ret1 ?_
  exact fr_zreturn hB dX9_isSet_13 (by first | exact fm_nar0 | exact fm_nar1 | exact fm_nar _) (⟨rfl, rfl⟩)
theorem ct_X9_isOdds {sh : List fm_S} {E : fm_E} {n : Int32} {M : fm_M} : fm_C sh E mX9_isOdds 1 [.int n] M (fun r M' => r = some (.int (fm_ib (fm_lt n 101))) ∧ M' = M) := by
  refine fm_C.of (by decide +kernel) (Nat.le_of_ble_eq_true rfl) ?_
  intro X hE hR hB
  subst hE
  have hB : fm_B _ X cX9_isOdds 1 RX9 (some .boolean) := hB
  refine fr_lv [some (.int n)] ⟨rfl, trivial⟩ ?_
  refine fr_iload_n hB dX9_isOdds_0 rfl rfl ?_
  refine fr_iconst (v := nI 0) hB dX9_isOdds_1 (by decide) ?_
  refine fr_bipush (v := nI 100) hB dX9_isOdds_2 (by decide) ?_
  refine fr_callS hB _ _ dX9_isOdds_4 lm_X9_93 (ct_X9_wto (c := 100) (by omega)) rfl rfl (Nat.le_of_ble_eq_true rfl) (fm_room hR (by decide) (by decide)) ?_
  rintro _ M9 ⟨rfl, hM9⟩
  rw [hM9]
  clear hM9 M9
  refine fr_ret1 ?_
  exact fr_zreturn hB dX9_isOdds_7 (by first | exact fm_nar0 | exact fm_nar1 | exact fm_nar _) (⟨rfl, rfl⟩)
theorem ct_X9_isTape {sh : List fm_S} {E : fm_E} {n : Int32} {M : fm_M} : fm_C sh E mX9_isTape 1 [.int n] M (fun r M' => r = some (.int (fm_ib (fm_lt n 6))) ∧ M' = M) := by
  refine fm_C.of (by decide +kernel) (Nat.le_of_ble_eq_true rfl) ?_
  intro X hE hR hB
  subst hE
  have hB : fm_B _ X cX9_isTape 1 RX9 (some .boolean) := hB
  refine fr_lv [some (.int n)] ⟨rfl, trivial⟩ ?_
  refine fr_iload_n hB dX9_isTape_0 rfl rfl ?_
  refine fr_iconst (v := nI 0) hB dX9_isTape_1 (by decide) ?_
  refine fr_iconst (v := nI 5) hB dX9_isTape_2 (by decide) ?_
  refine fr_callS hB _ _ dX9_isTape_3 lm_X9_93 (ct_X9_wto (c := 5) (by omega)) rfl rfl (Nat.le_of_ble_eq_true rfl) (fm_room hR (by decide) (by decide)) ?_
  rintro _ M9 ⟨rfl, hM9⟩
  rw [hM9]
  clear hM9 M9
  refine fr_ret1 ?_
  exact fr_zreturn hB dX9_isTape_6 (by first | exact fm_nar0 | exact fm_nar1 | exact fm_nar _) (⟨rfl, rfl⟩)
theorem ct_X9_isKind {sh : List fm_S} {E : fm_E} {n m : Int32} {M : fm_M} : fm_C sh E mX9_isKind 1 [.int n, .int m] M (fun r M' => r = some (.int (fm_ib (fm_lt n 3 && fm_lt m 6))) ∧ M' = M) := by
  refine fm_C.of (by decide +kernel) (Nat.le_of_ble_eq_true rfl) ?_
  intro X hE hR hB
  subst hE
  have hB : fm_B _ X cX9_isKind 2 RX9 (some .boolean) := hB
  refine fr_lv [some (.int n), some (.int m)] ⟨rfl, rfl, trivial⟩ ?_
  refine fr_iload_n hB dX9_isKind_0 rfl rfl ?_
  refine fr_iconst (v := nI 0) hB dX9_isKind_1 (by decide) ?_
  refine fr_iconst (v := nI 2) hB dX9_isKind_2 (by decide) ?_
  refine fr_callS hB _ _ dX9_isKind_3 lm_X9_93 (ct_X9_wto (c := 2) (by omega)) rfl rfl (Nat.le_of_ble_eq_true rfl) (fm_room hR (by decide) (by decide)) ?_
  rintro _ M9 ⟨rfl, hM9⟩
  rw [hM9]
  clear hM9 M9
  refine fr_ret1 ?_
  refine fr_if_eqB (tgt := 22) hB dX9_isKind_6 (by decide) (fun h => ?_) (fun h => ?_)
  · refine fr_iconst (v := nI 0) hB dX9_isKind_22 (by decide) ?_
    exact fr_zreturn hB dX9_isKind_23 (by first | exact fm_nar0 | exact fm_nar1 | exact fm_nar _) (⟨by rw [h]; rfl, rfl⟩)
  · refine fr_iload_n hB dX9_isKind_9 rfl rfl ?_
    refine fr_iconst (v := nI 0) hB dX9_isKind_10 (by decide) ?_
    refine fr_iconst (v := nI 5) hB dX9_isKind_11 (by decide) ?_
    refine fr_callS hB _ _ dX9_isKind_12 lm_X9_93 (ct_X9_wto (c := 5) (by omega)) rfl rfl (Nat.le_of_ble_eq_true rfl) (fm_room hR (by decide) (by decide)) ?_
    rintro _ M9 ⟨rfl, hM9⟩
    rw [hM9]
    clear hM9 M9
    refine fr_ret1 ?_
    refine fr_if_eqB (tgt := 22) hB dX9_isKind_15 (by decide) (fun h2 => ?_) (fun h2 => ?_)
    · refine fr_iconst (v := nI 0) hB dX9_isKind_22 (by decide) ?_
      exact fr_zreturn hB dX9_isKind_23 (by first | exact fm_nar0 | exact fm_nar1 | exact fm_nar _) (⟨by rw [h, h2]; rfl, rfl⟩)
    · refine fr_iconst (v := nI 1) hB dX9_isKind_18 (by decide) ?_
      refine fr_goto (tgt := 23) hB dX9_isKind_19 (by decide) ?_
      exact fr_zreturn hB dX9_isKind_23 (by first | exact fm_nar0 | exact fm_nar1 | exact fm_nar _) (⟨by rw [h, h2]; rfl, rfl⟩)
theorem mm_part {E : fm_E} {n : Int32} {Z : fm_Z} {M : fm_M} (hm : fm_MR Z M) (hw : fm_WZ Z) : fm_C shM E mX9_part 2 [.ref (E.2.1 0), .int n] M (fun r M' => r = some (.int (sp_part Z.1 n).1) ∧ fm_MR ((sp_part Z.1 n).2, Z.2) M') := by
  have h6 := hw.1.1.p6
  refine fm_C.of (by decide +kernel) (Nat.le_of_ble_eq_true rfl) ?_
  intro X hE hR hB
  subst hE
  have hB : fm_B _ X cX9_part 2 RX9 (some .int) := hB
  refine fr_lv [some (.ref (fm_rh X 0)), some (.int n)] ⟨rfl, rfl, trivial⟩ ?_
  refine fr_iload_n hB dX9_part_0 rfl rfl ?_
  refine fr_callS hB _ _ dX9_part_1 lm_X9_100 (ct_X9_isOdds) rfl rfl (Nat.le_of_ble_eq_true rfl) (fm_room hR (by decide) (by decide)) ?_
  rintro _ M9 ⟨rfl, hM9⟩
  rw [hM9]
  clear hM9 M9
  refine fr_ret1 ?_
  refine fr_if_neB (tgt := 10) hB dX9_part_4 (by decide) (fun h => ?_) (fun h => ?_)
  · obtain ⟨a, ha, rfl⟩ := fm_lt_of (by omega) h
    have ea : (nI a).toNatClampNeg = a := nI_clamp (by omega)
    refine fr_aload_n hB dX9_part_10 rfl rfl ?_
    refine fr_getI hB dX9_part_11 lf_X9_90 rfl rfl ?_
    refine fr_eqi _ (hm.1.pl.parts) ?_
    refine fr_bipush (v := nI 6) hB dX9_part_14 (by decide) ?_
    refine fr_icmp_neN (tgt := 22) hB dX9_part_16 (by decide) (by omega) (by omega) (fun h2 => ?_) (fun h2 => ?_)
    · have e : sp_part Z.1 (nI a) = (nI (Z.1 0 0), fm_u (fm_u (fm_u Z.1 1 (Z.1 0 0) a) 2 (Z.1 0 0) (Z.1 0 0)) 0 0 (Z.1 0 0 + 1)) := by rw [sp_part, if_pos h, if_pos (by omega), ea]
      refine fr_aload_n hB dX9_part_22 rfl rfl ?_
      refine fr_getR hB dX9_part_23 lf_X9_9 rfl rfl ?_
      refine fr_aload_n hB dX9_part_26 rfl rfl ?_
      refine fr_getI hB dX9_part_27 lf_X9_90 rfl rfl ?_
      refine fr_eqi _ (hm.1.pl.parts) ?_
      refine fr_iload_n hB dX9_part_30 rfl rfl ?_
      refine fr_iast hB (_) dX9_part_31 rfl (rfl) (by omega) (by decide) ?_
      refine fr_aload_n hB dX9_part_32 rfl rfl ?_
      refine fr_getR hB dX9_part_33 lf_X9_15 rfl rfl ?_
      refine fr_aload_n hB dX9_part_36 rfl rfl ?_
      refine fr_getI hB dX9_part_37 lf_X9_90 rfl rfl ?_
      refine fr_eqi _ (hm.1.pl.parts) ?_
      refine fr_aload_n hB dX9_part_40 rfl rfl ?_
      refine fr_getI hB dX9_part_41 lf_X9_90 rfl rfl ?_
      refine fr_eqi _ (hm.1.pl.parts) ?_
      refine fr_iast hB (_) dX9_part_44 rfl (rfl) (by omega) (by decide) ?_
      refine fr_aload_n hB dX9_part_45 rfl rfl ?_
      refine fr_dup hB dX9_part_46 rfl ?_
      refine fr_getI hB dX9_part_47 lf_X9_90 rfl rfl ?_
      refine fr_eqi _ (hm.1.pl.parts) ?_
      refine fr_iconst (v := nI 1) hB dX9_part_50 (by decide) ?_
      refine fr_iaddN hB dX9_part_51 ?_
      refine fr_putI hB dX9_part_52 lp_X9_90 rfl rfl ?_
      refine fr_aload_n hB dX9_part_55 rfl rfl ?_
      refine fr_getI hB dX9_part_56 lf_X9_90 rfl rfl ?_
      refine fr_eqi (nI (Z.1 0 0 + 1)) (by simp [fm_u]) ?_
      refine fr_iconst (v := nI 1) hB dX9_part_59 (by decide) ?_
      refine fr_isubN hB dX9_part_60 (by omega) ?_
      exact fr_ireturn hB dX9_part_61 (⟨by rw [e]; rfl, by rw [e]; exact hm.now ((hm.1.u_odds.u_order).u_parts) (fun j hj => by simp [fm_u_at]; omega) (fun b hb => by simp [fm_u, show ¬ b = 0 by omega, show ¬ b = 1 by omega, show ¬ b = 2 by omega]) rfl⟩)
    · refine fr_bipush (v := -4) hB dX9_part_19 (by decide) ?_
      exact fr_ireturn hB dX9_part_21 (⟨by rw [sp_part, if_pos h, if_neg (by omega)], by rw [sp_part, if_pos h, if_neg (by omega)]; exact hm⟩)
  · refine fr_bipush (v := -2) hB dX9_part_7 (by decide) ?_
    exact fr_ireturn hB dX9_part_9 (⟨by rw [sp_part, h]; rfl, by rw [sp_part, h]; exact hm⟩)
theorem mm_gate {E : fm_E} {n m : Int32} {Z : fm_Z} {M : fm_M} (hm : fm_MR Z M) (hw : fm_WZ Z) : fm_C shM E mX9_gate 2 [.ref (E.2.1 0), .int n, .int m] M (fun r M' => r = some (.int (sp_gate Z.1 n m).1) ∧ fm_MR ((sp_gate Z.1 n m).2, Z.2) M') := by
  have h8 := hw.1.1.g8
  refine fm_C.of (by decide +kernel) (Nat.le_of_ble_eq_true rfl) ?_
  intro X hE hR hB
  subst hE
  have hB : fm_B _ X cX9_gate 3 RX9 (some .int) := hB
  refine fr_lv [some (.ref (fm_rh X 0)), some (.int n), some (.int m)] ⟨rfl, rfl, rfl, trivial⟩ ?_
  refine fr_iload_n hB dX9_gate_0 rfl rfl ?_
  refine fr_iload_n hB dX9_gate_1 rfl rfl ?_
  refine fr_callS hB _ _ dX9_gate_2 lm_X9_104 (ct_X9_isKind) rfl rfl (Nat.le_of_ble_eq_true rfl) (fm_room hR (by decide) (by decide)) ?_
  rintro _ M9 ⟨rfl, hM9⟩
  rw [hM9]
  clear hM9 M9
  refine fr_ret1 ?_
  refine fr_if_neB (tgt := 11) hB dX9_gate_5 (by decide) (fun h => ?_) (fun h => ?_)
  · have h0 := h
    rw [Bool.and_eq_true] at h0
    obtain ⟨a, ha, rfl⟩ := fm_lt_of (by omega) h0.1
    obtain ⟨b, hb, rfl⟩ := fm_lt_of (by omega) h0.2
    have ea : (nI a).toNatClampNeg = a := nI_clamp (by omega)
    have eb : (nI b).toNatClampNeg = b := nI_clamp (by omega)
    refine fr_aload_n hB dX9_gate_11 rfl rfl ?_
    refine fr_getI hB dX9_gate_12 lf_X9_97 rfl rfl ?_
    refine fr_eqi _ (hm.1.pl.gates) ?_
    refine fr_bipush (v := nI 8) hB dX9_gate_15 (by decide) ?_
    refine fr_icmp_neN (tgt := 23) hB dX9_gate_17 (by decide) (by omega) (by omega) (fun h2 => ?_) (fun h2 => ?_)
    · have e : sp_gate Z.1 (nI a) (nI b) = (nI (Z.1 3 0), fm_u (fm_u (fm_u (fm_u Z.1 4 (Z.1 3 0) a) 5 (Z.1 3 0) b) 6 (Z.1 3 0) 0) 3 0 (Z.1 3 0 + 1)) := by rw [sp_gate, if_pos h, if_pos (by omega), ea, eb]
      refine fr_aload_n hB dX9_gate_23 rfl rfl ?_
      refine fr_getR hB dX9_gate_24 lf_X9_18 rfl rfl ?_
      refine fr_aload_n hB dX9_gate_27 rfl rfl ?_
      refine fr_getI hB dX9_gate_28 lf_X9_97 rfl rfl ?_
      refine fr_eqi _ (hm.1.pl.gates) ?_
      refine fr_iload_n hB dX9_gate_31 rfl rfl ?_
      refine fr_iast hB (_) dX9_gate_32 rfl (rfl) (by omega) (by decide) ?_
      refine fr_aload_n hB dX9_gate_33 rfl rfl ?_
      refine fr_getR hB dX9_gate_34 lf_X9_21 rfl rfl ?_
      refine fr_aload_n hB dX9_gate_37 rfl rfl ?_
      refine fr_getI hB dX9_gate_38 lf_X9_97 rfl rfl ?_
      refine fr_eqi _ (hm.1.pl.gates) ?_
      refine fr_iload_n hB dX9_gate_41 rfl rfl ?_
      refine fr_iast hB (_) dX9_gate_42 rfl (rfl) (by omega) (by decide) ?_
      refine fr_aload_n hB dX9_gate_43 rfl rfl ?_
      refine fr_getR hB dX9_gate_44 lf_X9_24 rfl rfl ?_
      refine fr_aload_n hB dX9_gate_47 rfl rfl ?_
      refine fr_getI hB dX9_gate_48 lf_X9_97 rfl rfl ?_
      refine fr_eqi _ (hm.1.pl.gates) ?_
      refine fr_iconst (v := nI 0) hB dX9_gate_51 (by decide) ?_
      refine fr_iast hB (_) dX9_gate_52 rfl (rfl) (by omega) (by decide) ?_
      refine fr_aload_n hB dX9_gate_53 rfl rfl ?_
      refine fr_dup hB dX9_gate_54 rfl ?_
      refine fr_getI hB dX9_gate_55 lf_X9_97 rfl rfl ?_
      refine fr_eqi _ (hm.1.pl.gates) ?_
      refine fr_iconst (v := nI 1) hB dX9_gate_58 (by decide) ?_
      refine fr_iaddN hB dX9_gate_59 ?_
      refine fr_putI hB dX9_gate_60 lp_X9_97 rfl rfl ?_
      refine fr_aload_n hB dX9_gate_63 rfl rfl ?_
      refine fr_getI hB dX9_gate_64 lf_X9_97 rfl rfl ?_
      refine fr_eqi (nI (Z.1 3 0 + 1)) (by simp [fm_u]) ?_
      refine fr_iconst (v := nI 1) hB dX9_gate_67 (by decide) ?_
      refine fr_isubN hB dX9_gate_68 (by omega) ?_
      exact fr_ireturn hB dX9_gate_69 (⟨by rw [e]; rfl, by rw [e]; exact hm.now (((hm.1.u_kind.u_need).u_cnt).u_gates) (fun j hj => by simp [fm_u_at]; omega) (fun b hb => by simp [fm_u, show ¬ b = 0 by omega, show ¬ b = 3 by omega, show ¬ b = 4 by omega, show ¬ b = 5 by omega]) rfl⟩)
    · refine fr_bipush (v := -4) hB dX9_gate_20 (by decide) ?_
      exact fr_ireturn hB dX9_gate_22 (⟨by rw [sp_gate, if_pos h, if_neg (by omega)], by rw [sp_gate, if_pos h, if_neg (by omega)]; exact hm⟩)
  · refine fr_bipush (v := -2) hB dX9_gate_8 (by decide) ?_
    exact fr_ireturn hB dX9_gate_10 (⟨by rw [sp_gate, h]; rfl, by rw [sp_gate, h]; exact hm⟩)
theorem mm_turn {E : fm_E} {g n m : Int32} {Z : fm_Z} {M : fm_M} (hm : fm_MR Z M) (hw : fm_WZ Z) : fm_C shM E mX9_turn 2 [.ref (E.2.1 0), .int g, .int n, .int m] M (fun r M' => r = some (.int (sp_turn Z.1 g n m).1) ∧ fm_MR ((sp_turn Z.1 g n m).2, Z.2) M') := by
  have h8 := hw.1.1.g8
  refine fm_C.of (by decide +kernel) (Nat.le_of_ble_eq_true rfl) ?_
  intro X hE hR hB
  subst hE
  have hB : fm_B _ X cX9_turn 5 RX9 (some .int) := hB
  refine fr_lv [some (.ref (fm_rh X 0)), some (.int g), some (.int n), some (.int m), none] ⟨rfl, rfl, rfl, rfl, trivial⟩ ?_
  refine fr_aload_n hB dX9_turn_0 rfl rfl ?_
  refine fr_iload_n hB dX9_turn_1 rfl rfl ?_
  refine fr_callV hB _ _ dX9_turn_2 lm_X9_108 rfl (ct_X9_isGate hm.1.pl hw.1.1) rfl rfl (Nat.le_of_ble_eq_true rfl) (fm_room hR (by decide) (by decide)) ?_
  rintro _ M9 ⟨rfl, hM9⟩
  rw [hM9]
  clear hM9 M9
  refine fr_ret1 ?_
  refine fr_if_neB (tgt := 10) hB dX9_turn_5 (by decide) (fun h0 => ?_) (fun h0 => ?_)
  · obtain ⟨c, hcc, rfl⟩ := fm_lt_of (by omega) h0
    have ec : (nI c).toNatClampNeg = c := nI_clamp (by omega)
    refine fr_iload_n hB dX9_turn_10 rfl rfl ?_
    refine fr_iload_n hB dX9_turn_11 rfl rfl ?_
    refine fr_callS hB _ _ dX9_turn_12 lm_X9_104 (ct_X9_isKind) rfl rfl (Nat.le_of_ble_eq_true rfl) (fm_room hR (by decide) (by decide)) ?_
    rintro _ M9 ⟨rfl, hM9⟩
    rw [hM9]
    clear hM9 M9
    refine fr_ret1 ?_
    refine fr_if_neB (tgt := 21) hB dX9_turn_15 (by decide) (fun h => ?_) (fun h => ?_)
    · have h1 := h
      rw [Bool.and_eq_true] at h1
      obtain ⟨a, ha, rfl⟩ := fm_lt_of (by omega) h1.1
      obtain ⟨b, hb, rfl⟩ := fm_lt_of (by omega) h1.2
      have ea : (nI a).toNatClampNeg = a := nI_clamp (by omega)
      have eb : (nI b).toNatClampNeg = b := nI_clamp (by omega)
      have e : sp_turn Z.1 (nI c) (nI a) (nI b) = (nI (10 * Z.1 4 c + Z.1 5 c), fm_u (fm_u Z.1 4 c a) 5 c b) := by rw [sp_turn, if_pos h0, if_pos h, ea, eb, ec]
      refine fr_bipush (v := nI 10) hB dX9_turn_21 (by decide) ?_
      refine fr_aload_n hB dX9_turn_23 rfl rfl ?_
      refine fr_getR hB dX9_turn_24 lf_X9_18 rfl rfl ?_
      refine fr_iload_n hB dX9_turn_27 rfl rfl ?_
      refine fr_iald hB (_) dX9_turn_28 rfl (rfl) (by omega) (by decide) ?_
      refine fr_eqi _ (hm.1.pl.kind _ (by omega)) ?_
      refine fr_imulN hB dX9_turn_29 ?_
      refine fr_aload_n hB dX9_turn_30 rfl rfl ?_
      refine fr_getR hB dX9_turn_31 lf_X9_21 rfl rfl ?_
      refine fr_iload_n hB dX9_turn_34 rfl rfl ?_
      refine fr_iald hB (_) dX9_turn_35 rfl (rfl) (by omega) (by decide) ?_
      refine fr_eqi _ (hm.1.pl.need _ (by omega)) ?_
      refine fr_iaddN hB dX9_turn_36 ?_
      refine fr_istore hB dX9_turn_37 (by decide) rfl ?_
      refine fr_aload_n hB dX9_turn_39 rfl rfl ?_
      refine fr_getR hB dX9_turn_40 lf_X9_18 rfl rfl ?_
      refine fr_iload_n hB dX9_turn_43 rfl rfl ?_
      refine fr_iload_n hB dX9_turn_44 rfl rfl ?_
      refine fr_iast hB (_) dX9_turn_45 rfl (rfl) (by omega) (by decide) ?_
      refine fr_aload_n hB dX9_turn_46 rfl rfl ?_
      refine fr_getR hB dX9_turn_47 lf_X9_21 rfl rfl ?_
      refine fr_iload_n hB dX9_turn_50 rfl rfl ?_
      refine fr_iload_n hB dX9_turn_51 rfl rfl ?_
      refine fr_iast hB (_) dX9_turn_52 rfl (rfl) (by omega) (by decide) ?_
      refine fr_iload hB dX9_turn_53 rfl ?_
      exact fr_ireturn hB dX9_turn_55 (⟨by rw [e], by rw [e]; exact hm.now (hm.1.u_kind.u_need) (fun j hj => rfl) (fun b hb => by simp [fm_u, show ¬ b = 3 by omega, show ¬ b = 4 by omega]) rfl⟩)
    · refine fr_bipush (v := -2) hB dX9_turn_18 (by decide) ?_
      exact fr_ireturn hB dX9_turn_20 (⟨by rw [sp_turn, if_pos h0, h]; rfl, by rw [sp_turn, if_pos h0, h]; exact hm⟩)
  · refine fr_iconst (v := -1) hB dX9_turn_8 (by decide) ?_
    exact fr_ireturn hB dX9_turn_9 (⟨by rw [sp_turn, h0]; rfl, by rw [sp_turn, h0]; exact hm⟩)
theorem mm_join {E : fm_E} {g n : Int32} {b : Bool} {Z : fm_Z} {M : fm_M} (hm : fm_MR Z M) (hw : fm_WZ Z) : fm_C shM E mX9_join 2 [.ref (E.2.1 0), .int g, .int (fm_ib b), .int n] M (fun r M' => r = some (.int (sp_join Z.1 g b n).1) ∧ fm_MR ((sp_join Z.1 g b n).2, Z.2) M') := by
  have h8 := hw.1.1.g8
  have h6 := hw.1.1.p6
  refine fm_C.of (by decide +kernel) (Nat.le_of_ble_eq_true rfl) ?_
  intro X hE hR hB
  subst hE
  have hB : fm_B _ X cX9_join 4 RX9 (some .int) := hB
  refine fr_lv [some (.ref (fm_rh X 0)), some (.int g), some (.int (fm_ib b)), some (.int n)] ⟨rfl, rfl, rfl, rfl, trivial⟩ ?_
  have go : ∀ c d x : Nat, c < Z.1 3 0 → d < 2 ^ 31 → g = nI c → n = nI d → (b = true → x = d) → (b = false → x = 10 + d) → sp_join Z.1 g b n = sp_in Z.1 c x → fm_W shM X 4 45 [some (.ref (fm_rh X 0)), some (.int (nI c)), some (.int (fm_ib b)), some (.int (nI d))] [] M (fm_Q shM X (fun r M' => r = some (.int (sp_join Z.1 g b n).1) ∧ fm_MR ((sp_join Z.1 g b n).2, Z.2) M')) := by
    intro c d x hcc hd eg en ex1 ex2 e
    have hi4 := hw.1.1.i4 c
    rw [e]
    refine fr_aload_n hB dX9_join_45 rfl rfl ?_
    refine fr_getR hB dX9_join_46 lf_X9_24 rfl rfl ?_
    refine fr_iload_n hB dX9_join_49 rfl rfl ?_
    refine fr_iald hB (_) dX9_join_50 rfl (rfl) (by omega) (by decide) ?_
    refine fr_eqi _ (hm.1.pl.cnt _ (by omega)) ?_
    refine fr_iconst (v := nI 4) hB dX9_join_51 (by decide) ?_
    refine fr_icmp_neN (tgt := 58) hB dX9_join_52 (by decide) (by omega) (by omega) (fun h => ?_) (fun h => ?_)
    · have e2 : sp_in Z.1 c x = (nI (Z.1 6 c + 1), fm_u (fm_u Z.1 7 (c * 4 + Z.1 6 c) x) 6 c (Z.1 6 c + 1)) := by rw [sp_in, if_pos (by omega)]
      rw [e2]
      have fin : fm_W shM X 4 84 [some (.ref (fm_rh X 0)), some (.int (nI c)), some (.int (fm_ib b)), some (.int (nI d))] [.int (nI x), .int (nI (4 * c + Z.1 6 c)), .ref (fm_rh X 6)] M (fm_Q shM X (fun r M' => r = some (.int (nI (Z.1 6 c + 1))) ∧ fm_MR (fm_u (fm_u Z.1 7 (c * 4 + Z.1 6 c) x) 6 c (Z.1 6 c + 1), Z.2) M')) := by
        refine fr_iast hB (_) dX9_join_84 rfl (rfl) (by omega) (by decide) ?_
        refine fr_aload_n hB dX9_join_85 rfl rfl ?_
        refine fr_getR hB dX9_join_86 lf_X9_24 rfl rfl ?_
        refine fr_iload_n hB dX9_join_89 rfl rfl ?_
        refine fr_dup2_11 hB dX9_join_90 rfl rfl ?_
        refine fr_iald hB (_) dX9_join_91 rfl (rfl) (by omega) (by decide) ?_
        refine fr_eqi _ (hm.1.pl.cnt _ (by omega)) ?_
        refine fr_iconst (v := nI 1) hB dX9_join_92 (by decide) ?_
        refine fr_iaddN hB dX9_join_93 ?_
        refine fr_iast hB (_) dX9_join_94 rfl (rfl) (by omega) (by decide) ?_
        refine fr_aload_n hB dX9_join_95 rfl rfl ?_
        refine fr_getR hB dX9_join_96 lf_X9_24 rfl rfl ?_
        refine fr_iload_n hB dX9_join_99 rfl rfl ?_
        refine fr_iald hB (_) dX9_join_100 rfl (rfl) (by omega) (by decide) ?_
        refine fr_eqi (nI (Z.1 6 c + 1)) (by simp [fm_u]) ?_
        exact fr_ireturn hB dX9_join_101 (⟨rfl, by rw [Nat.mul_comm c 4]; exact hm.now (hm.1.u_inp.u_cnt) (fun j hj => rfl) (fun b hb => by simp [fm_u, show ¬ b = 5 by omega, show ¬ b = 6 by omega]) rfl⟩)
      refine fr_aload_n hB dX9_join_58 rfl rfl ?_
      refine fr_getR hB dX9_join_59 lf_X9_27 rfl rfl ?_
      refine fr_iconst (v := nI 4) hB dX9_join_62 (by decide) ?_
      refine fr_iload_n hB dX9_join_63 rfl rfl ?_
      refine fr_imulN hB dX9_join_64 ?_
      refine fr_aload_n hB dX9_join_65 rfl rfl ?_
      refine fr_getR hB dX9_join_66 lf_X9_24 rfl rfl ?_
      refine fr_iload_n hB dX9_join_69 rfl rfl ?_
      refine fr_iald hB (_) dX9_join_70 rfl (rfl) (by omega) (by decide) ?_
      refine fr_eqi _ (hm.1.pl.cnt _ (by omega)) ?_
      refine fr_iaddN hB dX9_join_71 ?_
      refine fr_iload_n hB dX9_join_72 rfl rfl ?_
      refine fr_if_eqB (tgt := 80) hB dX9_join_73 (by decide) (fun hb => ?_) (fun hb => ?_)
      · refine fr_bipush (v := nI 10) hB dX9_join_80 (by decide) ?_
        refine fr_iload_n hB dX9_join_82 rfl rfl ?_
        refine fr_iaddN hB dX9_join_83 ?_
        rw [← ex2 hb]
        exact fin
      · refine fr_iload_n hB dX9_join_76 rfl rfl ?_
        refine fr_goto (tgt := 84) hB dX9_join_77 (by decide) ?_
        have fin2 := fin
        rw [ex1 hb] at fin2 ⊢
        exact fin2
    · have e2 : sp_in Z.1 c x = (-4, Z.1) := by rw [sp_in, if_neg (by omega)]
      rw [e2]
      refine fr_bipush (v := -4) hB dX9_join_55 (by decide) ?_
      exact fr_ireturn hB dX9_join_57 (⟨rfl, hm⟩)
  refine fr_aload_n hB dX9_join_0 rfl rfl ?_
  refine fr_iload_n hB dX9_join_1 rfl rfl ?_
  refine fr_callV hB _ _ dX9_join_2 lm_X9_108 rfl (ct_X9_isGate hm.1.pl hw.1.1) rfl rfl (Nat.le_of_ble_eq_true rfl) (fm_room hR (by decide) (by decide)) ?_
  rintro _ M9 ⟨rfl, hM9⟩
  rw [hM9]
  clear hM9 M9
  refine fr_ret1 ?_
  refine fr_if_eqB (tgt := 31) hB dX9_join_5 (by decide) (fun h0 => ?_) (fun h0 => ?_)
  · have e : sp_join Z.1 g b n = (-1, Z.1) := by rw [sp_join, h0]; rfl
    refine fr_iconst (v := -1) hB dX9_join_31 (by decide) ?_
    exact fr_ireturn hB dX9_join_32 (⟨by rw [e], by rw [e]; exact hm⟩)
  · obtain ⟨c, hcc, eg⟩ := fm_lt_of (by omega) h0
    have ec : g.toNatClampNeg = c := by rw [eg]; exact nI_clamp (by omega)
    refine fr_iload_n hB dX9_join_8 rfl rfl ?_
    refine fr_if_eqB (tgt := 23) hB dX9_join_9 (by decide) (fun hb => ?_) (fun hb => ?_)
    · refine fr_aload_n hB dX9_join_23 rfl rfl ?_
      refine fr_iload_n hB dX9_join_24 rfl rfl ?_
      refine fr_callV hB _ _ dX9_join_25 lm_X9_108 rfl (ct_X9_isGate hm.1.pl hw.1.1) rfl rfl (Nat.le_of_ble_eq_true rfl) (fm_room hR (by decide) (by decide)) ?_
      rintro _ M9 ⟨rfl, hM9⟩
      rw [hM9]
      clear hM9 M9
      refine fr_ret1 ?_
      refine fr_if_neB (tgt := 33) hB dX9_join_28 (by decide) (fun h1 => ?_) (fun h1 => ?_)
      · obtain ⟨d, hd, en⟩ := fm_lt_of (by omega) h1
        have ed : n.toNatClampNeg = d := by rw [en]; exact nI_clamp (by omega)
        have go2 := go c d (10 + d) hcc (by omega) eg en (fun q => by rw [hb] at q; cases q) (fun _ => rfl)
        subst eg en
        refine fr_iload_n hB dX9_join_33 rfl rfl ?_
        refine fr_if_neB (tgt := 45) hB dX9_join_34 (by decide) (fun hb2 => ?_) (fun hb2 => ?_)
        · rw [hb] at hb2; cases hb2
        · refine fr_iload_n hB dX9_join_37 rfl rfl ?_
          refine fr_iload_n hB dX9_join_38 rfl rfl ?_
          refine fr_icmp_ltN (tgt := 45) hB dX9_join_39 (by decide) (by omega) (by omega) (fun h2 => ?_) (fun h2 => ?_)
          · exact go2 (by rw [sp_join, if_pos h0, hb, if_neg (by decide), if_pos h1, if_pos (nI_lt h2 (by omega)), ec, ed])
          · have e : sp_join Z.1 (nI c) b (nI d) = (-3, Z.1) := by rw [sp_join, if_pos h0, hb, if_neg (by decide), if_pos h1, if_neg (nI_nlt h2 (by omega))]
            refine fr_bipush (v := -3) hB dX9_join_42 (by decide) ?_
            exact fr_ireturn hB dX9_join_44 (⟨by rw [e], by rw [e]; exact hm⟩)
      · have e : sp_join Z.1 g b n = (-1, Z.1) := by rw [sp_join, if_pos h0, hb, if_neg (by decide), h1]; rfl
        refine fr_iconst (v := -1) hB dX9_join_31 (by decide) ?_
        exact fr_ireturn hB dX9_join_32 (⟨by rw [e], by rw [e]; exact hm⟩)
    · refine fr_aload_n hB dX9_join_12 rfl rfl ?_
      refine fr_iload_n hB dX9_join_13 rfl rfl ?_
      refine fr_callV hB _ _ dX9_join_14 lm_X9_111 rfl (ct_X9_isPart hm.1.pl hw.1.1) rfl rfl (Nat.le_of_ble_eq_true rfl) (fm_room hR (by decide) (by decide)) ?_
      rintro _ M9 ⟨rfl, hM9⟩
      rw [hM9]
      clear hM9 M9
      refine fr_ret1 ?_
      refine fr_if_neB (tgt := 33) hB dX9_join_17 (by decide) (fun h1 => ?_) (fun h1 => ?_)
      · obtain ⟨d, hd, en⟩ := fm_lt_of (by omega) h1
        have ed : n.toNatClampNeg = d := by rw [en]; exact nI_clamp (by omega)
        have go2 := go c d d hcc (by omega) eg en (fun _ => rfl) (fun q => by rw [hb] at q; cases q) (by rw [sp_join, if_pos h0, hb, if_pos rfl, if_pos h1, ec, ed])
        subst eg en
        refine fr_iload_n hB dX9_join_33 rfl rfl ?_
        refine fr_if_neB (tgt := 45) hB dX9_join_34 (by decide) (fun hb2 => ?_) (fun hb2 => ?_)
        · exact go2
        · rw [hb] at hb2; cases hb2
      · have e : sp_join Z.1 g b n = (-1, Z.1) := by rw [sp_join, if_pos h0, hb, if_pos rfl, h1]; rfl
        refine fr_goto (tgt := 31) hB dX9_join_20 (by decide) ?_
        refine fr_iconst (v := -1) hB dX9_join_31 (by decide) ?_
        exact fr_ireturn hB dX9_join_32 (⟨by rw [e], by rw [e]; exact hm⟩)
theorem mm_drop {E : fm_E} {g : Int32} {Z : fm_Z} {M : fm_M} (hm : fm_MR Z M) (hw : fm_WZ Z) : fm_C shM E mX9_drop 2 [.ref (E.2.1 0), .int g] M (fun r M' => r = some (.int (sp_drop Z.1 g).1) ∧ fm_MR ((sp_drop Z.1 g).2, Z.2) M') := by
  have h8 := hw.1.1.g8
  refine fm_C.of (by decide +kernel) (Nat.le_of_ble_eq_true rfl) ?_
  intro X hE hR hB
  subst hE
  have hB : fm_B _ X cX9_drop 2 RX9 (some .int) := hB
  refine fr_lv [some (.ref (fm_rh X 0)), some (.int g)] ⟨rfl, rfl, trivial⟩ ?_
  refine fr_aload_n hB dX9_drop_0 rfl rfl ?_
  refine fr_iload_n hB dX9_drop_1 rfl rfl ?_
  refine fr_callV hB _ _ dX9_drop_2 lm_X9_108 rfl (ct_X9_isGate hm.1.pl hw.1.1) rfl rfl (Nat.le_of_ble_eq_true rfl) (fm_room hR (by decide) (by decide)) ?_
  rintro _ M9 ⟨rfl, hM9⟩
  rw [hM9]
  clear hM9 M9
  refine fr_ret1 ?_
  refine fr_if_neB (tgt := 10) hB dX9_drop_5 (by decide) (fun h0 => ?_) (fun h0 => ?_)
  · obtain ⟨c, hcc, rfl⟩ := fm_lt_of (by omega) h0
    have ec : (nI c).toNatClampNeg = c := nI_clamp (by omega)
    have hi4 := hw.1.1.i4 c
    refine fr_aload_n hB dX9_drop_10 rfl rfl ?_
    refine fr_getR hB dX9_drop_11 lf_X9_24 rfl rfl ?_
    refine fr_iload_n hB dX9_drop_14 rfl rfl ?_
    refine fr_iald hB (_) dX9_drop_15 rfl (rfl) (by omega) (by decide) ?_
    refine fr_eqi _ (hm.1.pl.cnt _ (by omega)) ?_
    refine fr_if_neN (tgt := 22) hB dX9_drop_16 (by decide) (by omega) (fun h => ?_) (fun h => ?_)
    · have e : sp_drop Z.1 (nI c) = (nI (Z.1 6 c - 1), fm_u Z.1 6 c (Z.1 6 c - 1)) := by rw [sp_drop, if_pos h0, ec, if_neg (by omega)]
      refine fr_aload_n hB dX9_drop_22 rfl rfl ?_
      refine fr_getR hB dX9_drop_23 lf_X9_24 rfl rfl ?_
      refine fr_iload_n hB dX9_drop_26 rfl rfl ?_
      refine fr_dup2_11 hB dX9_drop_27 rfl rfl ?_
      refine fr_iald hB (_) dX9_drop_28 rfl (rfl) (by omega) (by decide) ?_
      refine fr_eqi _ (hm.1.pl.cnt _ (by omega)) ?_
      refine fr_iconst (v := nI 1) hB dX9_drop_29 (by decide) ?_
      refine fr_isubN hB dX9_drop_30 (by omega) ?_
      refine fr_iast hB (_) dX9_drop_31 rfl (rfl) (by omega) (by decide) ?_
      refine fr_aload_n hB dX9_drop_32 rfl rfl ?_
      refine fr_getR hB dX9_drop_33 lf_X9_24 rfl rfl ?_
      refine fr_iload_n hB dX9_drop_36 rfl rfl ?_
      refine fr_iald hB (_) dX9_drop_37 rfl (rfl) (by omega) (by decide) ?_
      refine fr_eqi (nI (Z.1 6 c - 1)) (by simp [fm_u]) ?_
      exact fr_ireturn hB dX9_drop_38 (⟨by rw [e], by rw [e]; exact hm.now hm.1.u_cnt (fun j hj => rfl) (fun b hb => by simp [fm_u, show ¬ b = 5 by omega]) rfl⟩)
    · have e : sp_drop Z.1 (nI c) = (-3, Z.1) := by rw [sp_drop, if_pos h0, ec, if_pos h]
      refine fr_bipush (v := -3) hB dX9_drop_19 (by decide) ?_
      exact fr_ireturn hB dX9_drop_21 (⟨by rw [e], by rw [e]; exact hm⟩)
  · have e : sp_drop Z.1 g = (-1, Z.1) := by rw [sp_drop, h0]; rfl
    refine fr_iconst (v := -1) hB dX9_drop_8 (by decide) ?_
    exact fr_ireturn hB dX9_drop_9 (⟨by rw [e], by rw [e]; exact hm⟩)
