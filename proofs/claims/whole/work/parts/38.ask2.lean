/-! ===== FaultGraph: told, chance, given, weight, mean, looked ===== -/
def fm_G0 : (Nat → Int64) × (Nat → Int32) × (Nat → Int32) × (Nat → Int32) := (fun _ => 0, fun _ => 0, fun _ => 0, fun _ => 0)
/-- told, the graph's rows having held G -/
def sp_told (P : fm_P) (n : Int32) (G : (Nat → Int64) × (Nat → Int32) × (Nat → Int32) × (Nat → Int32)) : Int32 :=
  if n = nI 0 then nI (P 0 0) else if n = nI 1 then nI (P 3 0) else if n = nI 2 then nI (P 9 0) else if n = nI 3 then fm_top (P 3 0) (P 8 0)
  else if fm_lt n 9 then (if P 3 0 = 0 then -3 else if n = nI 4 then nI (fm_DG P (fm_TT P) G).2.1 else if n = nI 5 then nI (fm_LS (fm_TT P) (P 0 0)).1 else if n = nI 6 then nI (fm_LS (fm_ku (fm_TT P)) (P 0 0)).1 else if n = nI 7 then fm_most P (fm_TT P) else sp_same (fm_TT P))
  else -1
theorem cc_toldOfTop {E : fm_E} {n : Nat} {Z : fm_Z} {M : fm_M} (hc : fm_CR Z M) (hw : fm_WZ Z) (hg : 0 < Z.1 3 0) (h4 : 4 ≤ n) (h8 : n < 9) : fm_C shC E mX8_toldOfTop 10 [.ref (E.2.1 0), .int (nI n)] M (fun r M' => (∃ G, r = some (.int (sp_told Z.1 (nI n) G))) ∧ fm_fr M M') := by
  have h6 := hw.1.1.p6
  have e : ∀ G, sp_told Z.1 (nI n) G = (if nI n = nI 4 then nI (fm_DG Z.1 (fm_TT Z.1) G).2.1 else if nI n = nI 5 then nI (fm_LS (fm_TT Z.1) (Z.1 0 0)).1 else if nI n = nI 6 then nI (fm_LS (fm_ku (fm_TT Z.1)) (Z.1 0 0)).1 else if nI n = nI 7 then fm_most Z.1 (fm_TT Z.1) else sp_same (fm_TT Z.1)) := by
    intro G
    have ne : ∀ i : Nat, i < 4 → ¬ nI n = nI i := fun i hi q => by have := (nI_eq (by omega) (by omega)).mp q; omega
    rw [sp_told, if_neg (ne 0 (by omega)), if_neg (ne 1 (by omega)), if_neg (ne 2 (by omega)), if_neg (ne 3 (by omega)), fm_lt_nat (by omega) (by omega), show decide (n < 9) = true by simp [h8], if_pos rfl, if_neg (by omega)]
  refine fm_C.of (by decide +kernel) (Nat.le_of_ble_eq_true rfl) ?_
  intro X hE hR hB
  subst hE
  have hB : fm_B _ X cX8_toldOfTop 5 RX8 (some .int) := hB
  refine fr_lv [some (.ref (fm_rh X 0)), some (.int (nI n)), none, none, none] ⟨rfl, rfl, trivial⟩ ?_
  refine fr_aload_n hB dX8_toldOfTop_0 rfl rfl ?_
  refine fr_getR hB dX8_toldOfTop_1 lf_X8_14 rfl rfl ?_
  refine fr_getR hB dX8_toldOfTop_4 lf_X8_67 rfl rfl ?_
  refine fr_astore_n hB dX8_toldOfTop_7 rfl (by decide) rfl ?_
  refine fr_aload_n hB dX8_toldOfTop_8 rfl rfl ?_
  refine fr_callV hB _ _ dX8_toldOfTop_9 lm_X8_200 rfl (ct_X3_topTable shC_Pl2 hc.1.pl hw.1.1 hg) rfl rfl (Nat.le_of_ble_eq_true rfl) (fm_room hR (by decide) (by decide)) ?_
  rintro _ _ ⟨rfl, L, rfl, hL⟩
  refine fr_ret1 ?_
  refine fr_lstore_n hB dX8_toldOfTop_12 rfl (by decide) rfl ?_
  refine fr_iload_n hB dX8_toldOfTop_13 rfl rfl ?_
  have hfr : fm_fr M (M.1, L) := fm_fr.L (fun a ha => hL a (by omega) (by omega))
  rcases (show n = 4 ∨ n = 5 ∨ n = 6 ∨ n = 7 ∨ n = 8 by omega) with rfl | rfl | rfl | rfl | rfl
  · refine fr_tableIn (tgt := 44) hB dX8_toldOfTop_14 (by decide) (by decide) (by rfl) (by decide) ?_
    refine fr_aload_n hB dX8_toldOfTop_44 rfl rfl ?_
    refine fr_getR hB dX8_toldOfTop_45 lf_X8_31 rfl rfl ?_
    refine fr_aload_n hB dX8_toldOfTop_48 rfl rfl ?_
    refine fr_lload_n hB dX8_toldOfTop_49 rfl rfl ?_
    refine fr_callV hB _ _ dX8_toldOfTop_50 lm_X8_207 rfl (ct_X1_draw (by omega) shC_Pl2 (hc.1.pl.l L) hw.1.1) rfl rfl (Nat.le_of_ble_eq_true rfl) (fm_room hR (by decide) (by decide)) ?_
    rintro _ M9 ⟨rfl, hM9⟩
    rw [hM9]
    clear hM9 M9
    refine fr_ret1 ?_
    exact fr_ireturn hB dX8_toldOfTop_53 (⟨⟨_, by rw [e, if_pos rfl]; rfl⟩, hfr.tr (fm_fr.gm _ _)⟩)
  · refine fr_tableIn (tgt := 54) hB dX8_toldOfTop_14 (by decide) (by decide) (by rfl) (by decide) ?_
    refine fr_aload_n hB dX8_toldOfTop_54 rfl rfl ?_
    refine fr_getR hB dX8_toldOfTop_55 lf_X8_38 rfl rfl ?_
    refine fr_lload_n hB dX8_toldOfTop_58 rfl rfl ?_
    refine fr_aload_n hB dX8_toldOfTop_59 rfl rfl ?_
    refine fr_getI hB dX8_toldOfTop_60 lf_X8_204 rfl rfl ?_
    refine fr_eqi _ (hc.1.pl.parts) ?_
    refine fr_callV hB _ _ dX8_toldOfTop_63 lm_X8_223 rfl (ct_X2_listCuts h6) rfl rfl (Nat.le_of_ble_eq_true rfl) (fm_room hR (by decide) (by decide)) ?_
    rintro _ M9 ⟨rfl, hM9⟩
    rw [hM9]
    clear hM9 M9
    refine fr_ret1 ?_
    exact fr_ireturn hB dX8_toldOfTop_66 (⟨⟨fm_G0, by rw [e, if_neg (by decide), if_pos rfl, ← (fm_lst_sq (fm_TT Z.1) (Z.1 0 0) (M.1 60)).1]; rfl⟩, hfr.tr (fm_fr.sm _ _)⟩)
  · refine fr_tableIn (tgt := 67) hB dX8_toldOfTop_14 (by decide) (by decide) (by rfl) (by decide) ?_
    refine fr_aload_n hB dX8_toldOfTop_67 rfl rfl ?_
    refine fr_getR hB dX8_toldOfTop_68 lf_X8_38 rfl rfl ?_
    refine fr_lload_n hB dX8_toldOfTop_71 rfl rfl ?_
    refine fr_aload_n hB dX8_toldOfTop_72 rfl rfl ?_
    refine fr_getI hB dX8_toldOfTop_73 lf_X8_204 rfl rfl ?_
    refine fr_eqi _ (hc.1.pl.parts) ?_
    refine fr_callV hB _ _ dX8_toldOfTop_76 lm_X8_227 rfl (ct_X2_listPaths h6) rfl rfl (Nat.le_of_ble_eq_true rfl) (fm_room hR (by decide) (by decide)) ?_
    rintro _ M9 ⟨rfl, hM9⟩
    rw [hM9]
    clear hM9 M9
    refine fr_ret1 ?_
    exact fr_ireturn hB dX8_toldOfTop_79 (⟨⟨fm_G0, by rw [e, if_neg (by decide), if_neg (by decide), if_pos rfl, ← (fm_lst_sq (fm_ku (fm_TT Z.1)) (Z.1 0 0) (M.1 60)).1]; rfl⟩, hfr.tr (fm_fr.sm _ _)⟩)
  · refine fr_tableIn (tgt := 80) hB dX8_toldOfTop_14 (by decide) (by decide) (by rfl) (by decide) ?_
    refine fr_aload_n hB dX8_toldOfTop_80 rfl rfl ?_
    refine fr_getR hB dX8_toldOfTop_81 lf_X8_45 rfl rfl ?_
    refine fr_aload_n hB dX8_toldOfTop_84 rfl rfl ?_
    refine fr_lload_n hB dX8_toldOfTop_85 rfl rfl ?_
    refine fr_callV hB _ _ dX8_toldOfTop_86 lm_X8_230 rfl (ct_X0_mostOf shC_Pl2 (hc.1.pl.l L) hw.1.1) rfl rfl (Nat.le_of_ble_eq_true rfl) (fm_room hR (by decide) (by decide)) ?_
    rintro _ _ ⟨rfl, L2, rfl⟩
    refine fr_ret1 ?_
    exact fr_ireturn hB dX8_toldOfTop_89 (⟨⟨fm_G0, by rw [e, if_neg (by decide), if_neg (by decide), if_neg (by decide), if_pos rfl]; rfl⟩, hfr.tr (fm_fr.ch _ _)⟩)
  · refine fr_tableOut (tgt := 90) hB dX8_toldOfTop_14 (by decide) (by decide) ?_
    refine fr_lload_n hB dX8_toldOfTop_90 rfl rfl ?_
    refine fr_callS hB _ _ dX8_toldOfTop_91 lm_X8_233 (ct_X8_sameness) rfl rfl (Nat.le_of_ble_eq_true rfl) (fm_room hR (by decide) (by decide)) ?_
    rintro _ M9 ⟨rfl, hM9⟩
    rw [hM9]
    clear hM9 M9
    refine fr_ret1 ?_
    exact fr_ireturn hB dX8_toldOfTop_94 (⟨⟨fm_G0, by rw [e, if_neg (by decide), if_neg (by decide), if_neg (by decide), if_neg (by decide)]; rfl⟩, hfr⟩)
theorem cc_told0 {E : fm_E} {n : Int32} {Z : fm_Z} {M : fm_M} (hc : fm_CR Z M) (hw : fm_WZ Z) : fm_C shC E mX8_told 11 [.ref (E.2.1 0), .int n] M (fun r M' => (∃ G, r = some (.int (sp_told Z.1 n G))) ∧ fm_fr M M') := by
  have h8 := hw.1.1.g8
  have ht := hw.1.1.t8
  have none_ : fm_lt n 9 = false → ∀ G, sp_told Z.1 n G = -1 := by
    intro h G
    have ne : ∀ i : Nat, i < 9 → ¬ n = nI i := fun i hi q => by rw [q, fm_lt_nat (by omega) (by omega)] at h; simp at h; omega
    rw [sp_told, if_neg (ne 0 (by omega)), if_neg (ne 1 (by omega)), if_neg (ne 2 (by omega)), if_neg (ne 3 (by omega)), h]
    rfl
  refine fm_C.of (by decide +kernel) (Nat.le_of_ble_eq_true rfl) ?_
  intro X hE hR hB
  subst hE
  have hB : fm_B _ X cX8_told 3 RX8 (some .int) := hB
  refine fr_lv [some (.ref (fm_rh X 0)), some (.int n), none] ⟨rfl, rfl, trivial⟩ ?_
  refine fr_aload_n hB dX8_told_0 rfl rfl ?_
  refine fr_getR hB dX8_told_1 lf_X8_14 rfl rfl ?_
  refine fr_getR hB dX8_told_4 lf_X8_67 rfl rfl ?_
  refine fr_astore_n hB dX8_told_7 rfl (by decide) rfl ?_
  refine fr_iload_n hB dX8_told_8 rfl rfl ?_
  refine fr_if_lt (tgt := 18) hB dX8_told_9 (by decide) (fun h => ?_) (fun h => ?_)
  · refine fr_iconst (v := -1) hB dX8_told_18 (by decide) ?_
    exact fr_ireturn hB dX8_told_19 (⟨⟨fm_G0, by rw [none_ (fm_lt_neg _ h)]⟩, fm_fr.rf M⟩)
  · obtain ⟨a, ha, rfl⟩ := nI_of h
    refine fr_iload_n hB dX8_told_12 rfl rfl ?_
    refine fr_bipush (v := nI 8) hB dX8_told_13 (by decide) ?_
    refine fr_icmp_leN (tgt := 20) hB dX8_told_15 (by decide) (by omega) (by omega) (fun h2 => ?_) (fun h2 => ?_)
    · refine fr_iload_n hB dX8_told_20 rfl rfl ?_
      rcases (show a = 0 ∨ a = 1 ∨ a = 2 ∨ a = 3 ∨ 4 ≤ a by omega) with rfl | rfl | rfl | rfl | h4
      · refine fr_tableIn (tgt := 52) hB dX8_told_21 (by decide) (by decide) (by rfl) (by decide) ?_
        refine fr_aload_n hB dX8_told_52 rfl rfl ?_
        refine fr_getI hB dX8_told_53 lf_X8_204 rfl rfl ?_
        refine fr_eqi _ (hc.1.pl.parts) ?_
        exact fr_ireturn hB dX8_told_56 (⟨⟨fm_G0, by rw [sp_told, if_pos rfl]⟩, fm_fr.rf M⟩)
      · refine fr_tableIn (tgt := 57) hB dX8_told_21 (by decide) (by decide) (by rfl) (by decide) ?_
        refine fr_aload_n hB dX8_told_57 rfl rfl ?_
        refine fr_getI hB dX8_told_58 lf_X8_190 rfl rfl ?_
        refine fr_eqi _ (hc.1.pl.gates) ?_
        exact fr_ireturn hB dX8_told_61 (⟨⟨fm_G0, by rw [sp_told, if_neg (by decide), if_pos rfl]⟩, fm_fr.rf M⟩)
      · refine fr_tableIn (tgt := 62) hB dX8_told_21 (by decide) (by decide) (by rfl) (by decide) ?_
        refine fr_aload_n hB dX8_told_62 rfl rfl ?_
        refine fr_getI hB dX8_told_63 lf_X8_217 rfl rfl ?_
        refine fr_eqi _ (hc.1.pl.causes) ?_
        exact fr_ireturn hB dX8_told_66 (⟨⟨fm_G0, by rw [sp_told, if_neg (by decide), if_neg (by decide), if_pos rfl]⟩, fm_fr.rf M⟩)
      · refine fr_tableIn (tgt := 67) hB dX8_told_21 (by decide) (by decide) (by rfl) (by decide) ?_
        refine fr_aload_n hB dX8_told_67 rfl rfl ?_
        refine fr_callV hB _ _ dX8_told_68 lm_X8_103 rfl (ct_X3_topGate shC_Pl2 hc.1.pl.gates h8 hc.1.pl.top (by omega)) rfl rfl (Nat.le_of_ble_eq_true rfl) (fm_room hR (by decide) (by decide)) ?_
        rintro _ M9 ⟨rfl, hM9⟩
        rw [hM9]
        clear hM9 M9
        refine fr_ret1 ?_
        exact fr_ireturn hB dX8_told_71 (⟨⟨fm_G0, by rw [sp_told, if_neg (by decide), if_neg (by decide), if_neg (by decide), if_pos rfl]⟩, fm_fr.rf M⟩)
      · have hb7 : (nI a).toInt = (a : Int) := nI_toInt ha
        refine fr_tableOut (tgt := 72) hB dX8_told_21 (Or.inr (by rw [hb7]; omega)) (by decide) ?_
        refine fr_aload_n hB dX8_told_72 rfl rfl ?_
        refine fr_getI hB dX8_told_73 lf_X8_190 rfl rfl ?_
        refine fr_eqi _ (hc.1.pl.gates) ?_
        refine fr_if_neN (tgt := 84) hB dX8_told_76 (by decide) (by omega) (fun h3 => ?_) (fun h3 => ?_)
        · refine fr_aload_n hB dX8_told_84 rfl rfl ?_
          refine fr_iload_n hB dX8_told_85 rfl rfl ?_
          refine fr_callV hB _ _ dX8_told_86 lm_X8_220 rfl (cc_toldOfTop hc hw h3 h4 (by omega)) rfl rfl (Nat.le_of_ble_eq_true rfl) (fm_room hR (by decide) (by decide)) ?_
          rintro _ _ ⟨⟨G, rfl⟩, hfr⟩
          refine fr_ret1 ?_
          exact fr_ireturn hB dX8_told_89 (⟨⟨G, rfl⟩, hfr⟩)
        · have ne : ∀ i : Nat, i < 4 → ¬ nI a = nI i := fun i hi q => by have := (nI_eq (by omega) (by omega)).mp q; omega
          refine fr_bipush (v := -3) hB dX8_told_79 (by decide) ?_
          refine fr_goto (tgt := 89) hB dX8_told_81 (by decide) ?_
          exact fr_ireturn hB dX8_told_89 (⟨⟨fm_G0, by rw [sp_told, if_neg (ne 0 (by omega)), if_neg (ne 1 (by omega)), if_neg (ne 2 (by omega)), if_neg (ne 3 (by omega)), fm_lt_nat (by omega) (by omega), show decide (a < 9) = true by simp; omega, if_pos rfl, if_pos h3]⟩, fm_fr.rf M⟩)
    · refine fr_iconst (v := -1) hB dX8_told_18 (by decide) ?_
      exact fr_ireturn hB dX8_told_19 (⟨⟨fm_G0, by rw [none_ (by rw [fm_lt_nat ha (by omega)]; simp; omega)]⟩, fm_fr.rf M⟩)
def fm_NO : Int64 := -9223372036854775808
def sp_chance (P : fm_P) (l : Int32) : Int64 := if fm_lt l 2 = true ∧ 0 < P 3 0 then fm_low (fm_ab P (fm_TT P) (-1) 0) (fm_h (P 0 0 + P 9 0)) l.toNatClampNeg else fm_NO
theorem cc_chance {E : fm_E} {l : Int32} {Z : fm_Z} {M : fm_M} (hc : fm_CR Z M) (hw : fm_WZ Z) : fm_C shC E mX8_chance 5 [.ref (E.2.1 0), .int l] M (fun r M' => r = some (.long (sp_chance Z.1 l)) ∧ fm_fr M M') := by
  have h8 := hw.1.1.g8
  refine fm_C.of (by decide +kernel) (Nat.le_of_ble_eq_true rfl) ?_
  intro X hE hR hB
  subst hE
  have hB : fm_B _ X cX8_chance 5 RX8 (some .long) := hB
  refine fr_lv [some (.ref (fm_rh X 0)), some (.int l), none, none, none] ⟨rfl, rfl, trivial⟩ ?_
  refine fr_aload_n hB dX8_chance_0 rfl rfl ?_
  refine fr_getR hB dX8_chance_1 lf_X8_14 rfl rfl ?_
  refine fr_getR hB dX8_chance_4 lf_X8_67 rfl rfl ?_
  refine fr_astore_n hB dX8_chance_7 rfl (by decide) rfl ?_
  refine fr_iload_n hB dX8_chance_8 rfl rfl ?_
  refine fr_callS hB _ _ dX8_chance_9 lm_X8_245 (ct_X8_isLine) rfl rfl (Nat.le_of_ble_eq_true rfl) (fm_room hR (by decide) (by decide)) ?_
  rintro _ M9 ⟨rfl, hM9⟩
  rw [hM9]
  clear hM9 M9
  refine fr_ret1 ?_
  refine fr_if_eqB (tgt := 22) hB dX8_chance_12 (by decide) (fun h => ?_) (fun h => ?_)
  · refine fr_ldc2 (v := -9223372036854775808) hB dX8_chance_22 lc_X8_248 ?_
    exact fr_lreturn hB dX8_chance_25 (⟨by rw [sp_chance, if_neg (fun q => by rw [h] at q; cases q.1)]; rfl, fm_fr.rf M⟩)
  · obtain ⟨a, ha, rfl⟩ := fm_lt_of (by omega) h
    refine fr_aload_n hB dX8_chance_15 rfl rfl ?_
    refine fr_getI hB dX8_chance_16 lf_X8_190 rfl rfl ?_
    refine fr_eqi _ (hc.1.pl.gates) ?_
    refine fr_if_neN (tgt := 26) hB dX8_chance_19 (by decide) (by omega) (fun h2 => ?_) (fun h2 => ?_)
    · refine fr_aload_n hB dX8_chance_26 rfl rfl ?_
      refine fr_getR hB dX8_chance_27 lf_X8_45 rfl rfl ?_
      refine fr_aload_n hB dX8_chance_30 rfl rfl ?_
      refine fr_aload_n hB dX8_chance_31 rfl rfl ?_
      refine fr_callV hB _ _ dX8_chance_32 lm_X8_200 rfl (ct_X3_topTable shC_Pl2 hc.1.pl hw.1.1 h2) rfl rfl (Nat.le_of_ble_eq_true rfl) (fm_room hR (by decide) (by decide)) ?_
      rintro _ _ ⟨rfl, L, rfl, hL⟩
      refine fr_ret1 ?_
      refine fr_iconst (v := -1) hB dX8_chance_35 (by decide) ?_
      refine fr_iconst (v := nI 0) hB dX8_chance_36 (by decide) ?_
      refine fr_callV hB _ _ dX8_chance_37 lm_X8_250 rfl (ct_X0_ab shC_Pl2 (hc.1.pl.l L) hw.1.1 (by omega)) rfl rfl (Nat.le_of_ble_eq_true rfl) (fm_room hR (by decide) (by decide)) ?_
      rintro _ _ ⟨rfl, L2, rfl⟩
      refine fr_ret1 ?_
      refine fr_lstore_n hB dX8_chance_40 rfl (by decide) rfl ?_
      refine fr_lload_n hB dX8_chance_41 rfl rfl ?_
      refine fr_aload_n hB dX8_chance_42 rfl rfl ?_
      refine fr_getR hB dX8_chance_43 lf_X8_45 rfl rfl ?_
      refine fr_aload_n hB dX8_chance_46 rfl rfl ?_
      refine fr_callV hB _ _ dX8_chance_47 lm_X8_254 rfl (ct_X0_below shC_Pl2 (hc.1.pl.l _) hw.1.1) rfl rfl (Nat.le_of_ble_eq_true rfl) (fm_room hR (by decide) (by decide)) ?_
      rintro _ M9 ⟨rfl, hM9⟩
      rw [hM9]
      clear hM9 M9
      refine fr_ret1 ?_
      refine fr_iload_n hB dX8_chance_50 rfl rfl ?_
      refine fr_callS hB _ _ dX8_chance_51 lm_X8_258 (ct_X8_lowest (by omega)) rfl rfl (Nat.le_of_ble_eq_true rfl) (fm_room hR (by decide) (by decide)) ?_
      rintro _ M9 ⟨rfl, hM9⟩
      rw [hM9]
      clear hM9 M9
      refine fr_ret1 ?_
      exact fr_lreturn hB dX8_chance_54 (⟨by rw [sp_chance, if_pos ⟨h, h2⟩, nI_clamp (show a < 2 ^ 31 by omega)]; rfl, (fm_fr.L (fun a ha => hL a (by omega) (by omega))).tr (fm_fr.ch _ _)⟩)
    · refine fr_ldc2 (v := -9223372036854775808) hB dX8_chance_22 lc_X8_248 ?_
      exact fr_lreturn hB dX8_chance_25 (⟨by rw [sp_chance, if_neg (fun q => by omega)]; rfl, fm_fr.rf M⟩)
def sp_given (P : fm_P) (c : Int32) (b : Bool) (l : Int32) : Int64 := if (fm_lt c (P 9 0) = true ∧ fm_lt l 2 = true) ∧ 0 < P 3 0 then fm_low (fm_ab P (fm_TT P) (nI (6 + c.toNatClampNeg)) (if b then 100 else 0)) (fm_h (P 0 0 + P 9 0)) l.toNatClampNeg else fm_NO
theorem cc_given {E : fm_E} {c l : Int32} {b : Bool} {Z : fm_Z} {M : fm_M} (hc : fm_CR Z M) (hw : fm_WZ Z) : fm_C shC E mX8_given 5 [.ref (E.2.1 0), .int c, .int (fm_ib b), .int l] M (fun r M' => r = some (.long (sp_given Z.1 c b l)) ∧ fm_fr M M') := by
  have h8 := hw.1.1.g8
  have h3 := hw.1.1.c3
  refine fm_C.of (by decide +kernel) (Nat.le_of_ble_eq_true rfl) ?_
  intro X hE hR hB
  subst hE
  have hB : fm_B _ X cX8_given 8 RX8 (some .long) := hB
  refine fr_lv [some (.ref (fm_rh X 0)), some (.int c), some (.int (fm_ib b)), some (.int l), none, none, none, none] ⟨rfl, rfl, rfl, rfl, trivial⟩ ?_
  refine fr_aload_n hB dX8_given_0 rfl rfl ?_
  refine fr_getR hB dX8_given_1 lf_X8_14 rfl rfl ?_
  refine fr_getR hB dX8_given_4 lf_X8_67 rfl rfl ?_
  refine fr_astore hB dX8_given_7 (by decide) rfl ?_
  refine fr_aload hB dX8_given_9 rfl ?_
  refine fr_iload_n hB dX8_given_11 rfl rfl ?_
  refine fr_callV hB _ _ dX8_given_12 lm_X8_117 rfl (ct_X3_hasCause shC_Pl2 hc.1.pl.causes) rfl rfl (Nat.le_of_ble_eq_true rfl) (fm_room hR (by decide) (by decide)) ?_
  rintro _ M9 ⟨rfl, hM9⟩
  rw [hM9]
  clear hM9 M9
  refine fr_ret1 ?_
  refine fr_if_eqB (tgt := 33) hB dX8_given_15 (by decide) (fun h0 => ?_) (fun h0 => ?_)
  · refine fr_ldc2 (v := -9223372036854775808) hB dX8_given_33 lc_X8_248 ?_
    exact fr_lreturn hB dX8_given_36 (⟨by rw [sp_given, if_neg (fun q => by rw [h0] at q; cases q.1.1)]; rfl, fm_fr.rf M⟩)
  · obtain ⟨d, hd, rfl⟩ := fm_lt_of (by omega) h0
    refine fr_iload_n hB dX8_given_18 rfl rfl ?_
    refine fr_callS hB _ _ dX8_given_19 lm_X8_245 (ct_X8_isLine) rfl rfl (Nat.le_of_ble_eq_true rfl) (fm_room hR (by decide) (by decide)) ?_
    rintro _ M9 ⟨rfl, hM9⟩
    rw [hM9]
    clear hM9 M9
    refine fr_ret1 ?_
    refine fr_if_eqB (tgt := 33) hB dX8_given_22 (by decide) (fun h => ?_) (fun h => ?_)
    · refine fr_ldc2 (v := -9223372036854775808) hB dX8_given_33 lc_X8_248 ?_
      exact fr_lreturn hB dX8_given_36 (⟨by rw [sp_given, if_neg (fun q => by rw [h] at q; cases q.1.2)]; rfl, fm_fr.rf M⟩)
    · obtain ⟨a, ha, rfl⟩ := fm_lt_of (by omega) h
      refine fr_aload hB dX8_given_25 rfl ?_
      refine fr_getI hB dX8_given_27 lf_X8_190 rfl rfl ?_
      refine fr_eqi _ (hc.1.pl.gates) ?_
      refine fr_if_neN (tgt := 37) hB dX8_given_30 (by decide) (by omega) (fun h2 => ?_) (fun h2 => ?_)
      · have cut : ∀ oo : Nat, oo ≤ 100 → oo = (if b then 100 else 0) → fm_W shC X 8 47 [some (.ref (fm_rh X 0)), some (.int (nI d)), none, some (.int (nI a)), some (.ref (fm_rh X 2)), none, none, none] [.int (nI oo)] M (fm_Q shC X (fun r M' => r = some (.long (sp_given Z.1 (nI d) b (nI a))) ∧ fm_fr M M')) := by
          intro oo hoo eoo
          refine fr_istore hB dX8_given_47 (by decide) rfl ?_
          refine fr_aload_n hB dX8_given_49 rfl rfl ?_
          refine fr_getR hB dX8_given_50 lf_X8_45 rfl rfl ?_
          refine fr_aload hB dX8_given_53 rfl ?_
          refine fr_aload hB dX8_given_55 rfl ?_
          refine fr_callV hB _ _ dX8_given_57 lm_X8_200 rfl (ct_X3_topTable shC_Pl2 hc.1.pl hw.1.1 h2) rfl rfl (Nat.le_of_ble_eq_true rfl) (fm_room hR (by decide) (by decide)) ?_
          rintro _ _ ⟨rfl, L, rfl, hL⟩
          refine fr_ret1 ?_
          refine fr_bipush (v := nI 6) hB dX8_given_60 (by decide) ?_
          refine fr_iload_n hB dX8_given_62 rfl rfl ?_
          refine fr_iaddN hB dX8_given_63 ?_
          refine fr_iload hB dX8_given_64 rfl ?_
          refine fr_callV hB _ _ dX8_given_66 lm_X8_250 rfl (ct_X0_ab shC_Pl2 (hc.1.pl.l L) hw.1.1 hoo) rfl rfl (Nat.le_of_ble_eq_true rfl) (fm_room hR (by decide) (by decide)) ?_
          rintro _ _ ⟨rfl, L2, rfl⟩
          refine fr_ret1 ?_
          refine fr_lstore hB dX8_given_69 (by decide) rfl ?_
          refine fr_lload hB dX8_given_71 rfl ?_
          refine fr_aload_n hB dX8_given_73 rfl rfl ?_
          refine fr_getR hB dX8_given_74 lf_X8_45 rfl rfl ?_
          refine fr_aload hB dX8_given_77 rfl ?_
          refine fr_callV hB _ _ dX8_given_79 lm_X8_254 rfl (ct_X0_below shC_Pl2 (hc.1.pl.l _) hw.1.1) rfl rfl (Nat.le_of_ble_eq_true rfl) (fm_room hR (by decide) (by decide)) ?_
          rintro _ M9 ⟨rfl, hM9⟩
          rw [hM9]
          clear hM9 M9
          refine fr_ret1 ?_
          refine fr_iload_n hB dX8_given_82 rfl rfl ?_
          refine fr_callS hB _ _ dX8_given_83 lm_X8_258 (ct_X8_lowest (by omega)) rfl rfl (Nat.le_of_ble_eq_true rfl) (fm_room hR (by decide) (by decide)) ?_
          rintro _ M9 ⟨rfl, hM9⟩
          rw [hM9]
          clear hM9 M9
          refine fr_ret1 ?_
          exact fr_lreturn hB dX8_given_86 (⟨by rw [sp_given, if_pos ⟨⟨h0, h⟩, h2⟩, nI_clamp (show a < 2 ^ 31 by omega), nI_clamp (show d < 2 ^ 31 by omega), ← eoo]; rfl, (fm_fr.L (fun a ha => hL a (by omega) (by omega))).tr (fm_fr.ch _ _)⟩)
        refine fr_iload_n hB dX8_given_37 rfl rfl ?_
        refine fr_if_eqB (tgt := 46) hB dX8_given_38 (by decide) (fun hb => ?_) (fun hb => ?_)
        · refine fr_iconst (v := nI 0) hB dX8_given_46 (by decide) ?_
          refine fr_lv [some (.ref (fm_rh X 0)), some (.int (nI d)), none, some (.int (nI a)), some (.ref (fm_rh X 2)), none, none, none] ⟨rfl, rfl, rfl, rfl, trivial⟩ ?_
          exact cut 0 (by omega) (by rw [hb]; rfl)
        · refine fr_bipush (v := nI 100) hB dX8_given_41 (by decide) ?_
          refine fr_goto (tgt := 47) hB dX8_given_43 (by decide) ?_
          refine fr_lv [some (.ref (fm_rh X 0)), some (.int (nI d)), none, some (.int (nI a)), some (.ref (fm_rh X 2)), none, none, none] ⟨rfl, rfl, rfl, rfl, trivial⟩ ?_
          exact cut 100 (by omega) (by rw [hb]; rfl)
      · refine fr_ldc2 (v := -9223372036854775808) hB dX8_given_33 lc_X8_248 ?_
        exact fr_lreturn hB dX8_given_36 (⟨by rw [sp_given, if_neg (fun q => by omega)]; rfl, fm_fr.rf M⟩)
def sp_weight (P : fm_P) (p l : Int32) : Int64 := if (fm_lt p (P 0 0) = true ∧ fm_lt l 2 = true) ∧ 0 < P 3 0 then fm_low (fm_wt P (fm_TT P) p.toNatClampNeg) (fm_h (P 0 0 + P 9 0)) l.toNatClampNeg else fm_NO
theorem cc_weight {E : fm_E} {p l : Int32} {Z : fm_Z} {M : fm_M} (hc : fm_CR Z M) (hw : fm_WZ Z) : fm_C shC E mX8_weight 5 [.ref (E.2.1 0), .int p, .int l] M (fun r M' => r = some (.long (sp_weight Z.1 p l)) ∧ fm_fr M M') := by
  have h8 := hw.1.1.g8
  have h6 := hw.1.1.p6
  refine fm_C.of (by decide +kernel) (Nat.le_of_ble_eq_true rfl) ?_
  intro X hE hR hB
  subst hE
  have hB : fm_B _ X cX8_weight 6 RX8 (some .long) := hB
  refine fr_lv [some (.ref (fm_rh X 0)), some (.int p), some (.int l), none, none, none] ⟨rfl, rfl, rfl, trivial⟩ ?_
  refine fr_aload_n hB dX8_weight_0 rfl rfl ?_
  refine fr_getR hB dX8_weight_1 lf_X8_14 rfl rfl ?_
  refine fr_getR hB dX8_weight_4 lf_X8_67 rfl rfl ?_
  refine fr_astore_n hB dX8_weight_7 rfl (by decide) rfl ?_
  refine fr_aload_n hB dX8_weight_8 rfl rfl ?_
  refine fr_iload_n hB dX8_weight_9 rfl rfl ?_
  refine fr_callV hB _ _ dX8_weight_10 lm_X8_94 rfl (ct_X3_hasPart shC_Pl2 hc.1.pl.parts) rfl rfl (Nat.le_of_ble_eq_true rfl) (fm_room hR (by decide) (by decide)) ?_
  rintro _ M9 ⟨rfl, hM9⟩
  rw [hM9]
  clear hM9 M9
  refine fr_ret1 ?_
  refine fr_if_eqB (tgt := 30) hB dX8_weight_13 (by decide) (fun h0 => ?_) (fun h0 => ?_)
  · refine fr_ldc2 (v := -9223372036854775808) hB dX8_weight_30 lc_X8_248 ?_
    exact fr_lreturn hB dX8_weight_33 (⟨by rw [sp_weight, if_neg (fun q => by rw [h0] at q; cases q.1.1)]; rfl, fm_fr.rf M⟩)
  · obtain ⟨d, hd, rfl⟩ := fm_lt_of (by omega) h0
    refine fr_iload_n hB dX8_weight_16 rfl rfl ?_
    refine fr_callS hB _ _ dX8_weight_17 lm_X8_245 (ct_X8_isLine) rfl rfl (Nat.le_of_ble_eq_true rfl) (fm_room hR (by decide) (by decide)) ?_
    rintro _ M9 ⟨rfl, hM9⟩
    rw [hM9]
    clear hM9 M9
    refine fr_ret1 ?_
    refine fr_if_eqB (tgt := 30) hB dX8_weight_20 (by decide) (fun h => ?_) (fun h => ?_)
    · refine fr_ldc2 (v := -9223372036854775808) hB dX8_weight_30 lc_X8_248 ?_
      exact fr_lreturn hB dX8_weight_33 (⟨by rw [sp_weight, if_neg (fun q => by rw [h] at q; cases q.1.2)]; rfl, fm_fr.rf M⟩)
    · obtain ⟨a, ha, rfl⟩ := fm_lt_of (by omega) h
      refine fr_aload_n hB dX8_weight_23 rfl rfl ?_
      refine fr_getI hB dX8_weight_24 lf_X8_190 rfl rfl ?_
      refine fr_eqi _ (hc.1.pl.gates) ?_
      refine fr_if_neN (tgt := 34) hB dX8_weight_27 (by decide) (by omega) (fun h2 => ?_) (fun h2 => ?_)
      · refine fr_aload_n hB dX8_weight_34 rfl rfl ?_
        refine fr_getR hB dX8_weight_35 lf_X8_45 rfl rfl ?_
        refine fr_aload_n hB dX8_weight_38 rfl rfl ?_
        refine fr_aload_n hB dX8_weight_39 rfl rfl ?_
        refine fr_callV hB _ _ dX8_weight_40 lm_X8_200 rfl (ct_X3_topTable shC_Pl2 hc.1.pl hw.1.1 h2) rfl rfl (Nat.le_of_ble_eq_true rfl) (fm_room hR (by decide) (by decide)) ?_
        rintro _ _ ⟨rfl, L, rfl, hL⟩
        refine fr_ret1 ?_
        refine fr_iload_n hB dX8_weight_43 rfl rfl ?_
        refine fr_callV hB _ _ dX8_weight_44 lm_X8_262 rfl (ct_X0_weightAbove shC_Pl2 (hc.1.pl.l L) hw.1.1) rfl rfl (Nat.le_of_ble_eq_true rfl) (fm_room hR (by decide) (by decide)) ?_
        rintro _ _ ⟨rfl, L2, rfl⟩
        refine fr_ret1 ?_
        refine fr_lstore hB dX8_weight_47 (by decide) rfl ?_
        refine fr_lload hB dX8_weight_49 rfl ?_
        refine fr_aload_n hB dX8_weight_51 rfl rfl ?_
        refine fr_getR hB dX8_weight_52 lf_X8_45 rfl rfl ?_
        refine fr_aload_n hB dX8_weight_55 rfl rfl ?_
        refine fr_callV hB _ _ dX8_weight_56 lm_X8_254 rfl (ct_X0_below shC_Pl2 (hc.1.pl.l _) hw.1.1) rfl rfl (Nat.le_of_ble_eq_true rfl) (fm_room hR (by decide) (by decide)) ?_
        rintro _ M9 ⟨rfl, hM9⟩
        rw [hM9]
        clear hM9 M9
        refine fr_ret1 ?_
        refine fr_iload_n hB dX8_weight_59 rfl rfl ?_
        refine fr_callS hB _ _ dX8_weight_60 lm_X8_258 (ct_X8_lowest (by omega)) rfl rfl (Nat.le_of_ble_eq_true rfl) (fm_room hR (by decide) (by decide)) ?_
        rintro _ M9 ⟨rfl, hM9⟩
        rw [hM9]
        clear hM9 M9
        refine fr_ret1 ?_
        exact fr_lreturn hB dX8_weight_63 (⟨by rw [sp_weight, if_pos ⟨⟨h0, h⟩, h2⟩, nI_clamp (show a < 2 ^ 31 by omega), nI_clamp (show d < 2 ^ 31 by omega)]; rfl, (fm_fr.L (fun a ha => hL a (by omega) (by omega))).tr (fm_fr.ch _ _)⟩)
      · refine fr_ldc2 (v := -9223372036854775808) hB dX8_weight_30 lc_X8_248 ?_
        exact fr_lreturn hB dX8_weight_33 (⟨by rw [sp_weight, if_neg (fun q => by omega)]; rfl, fm_fr.rf M⟩)
