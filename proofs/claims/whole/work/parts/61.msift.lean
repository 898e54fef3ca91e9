/-! ===== the reference: sift ===== -/
theorem fm_sft_64 (T : Int64) (a d i : Nat) (Q : fm_P) (b : Nat) : 0 < d → fm_sft T a d i Q b 65 = fm_sft T a d i Q b 64 := by
  intro hd
  cases d with
  | zero => omega
  | succ d =>
    unfold fm_sft
    have hb := fm_meet_bd (sp_mv Q a i 2) (sp_mv Q a i 0 0) 6 T 0 (0, fm_G0)
    have hb : (fm_DG (sp_mv Q a i) T fm_G0).2.1 + 1 ≤ 0 + 2 ^ 6 := hb
    rw [if_pos (by omega), if_pos (by omega)]
theorem mm_sift {E : fm_E} {n : Int32} {Z : fm_Z} {M : fm_M} (hm : fm_MR Z M) (hw : fm_WZ Z) : fm_C shM E mX9_sift 9 [.ref (E.2.1 0), .int n] M (fun r M' => r = some (.int (sp_sift Z.1 n).1) ∧ fm_MR ((sp_sift Z.1 n).2, Z.2) M') := by
  have h6 := hw.1.1.p6
  have h8 := hw.1.1.g8
  refine fm_C.of (by decide +kernel) (Nat.le_of_ble_eq_true rfl) ?_
  intro X hE hR hB
  subst hE
  have hB : fm_B _ X cX9_sift 5 RX9 (some .int) := hB
  refine fr_lv [some (.ref (fm_rh X 0)), some (.int n), none, none, none] ⟨rfl, rfl, trivial⟩ ?_
  refine fr_aload_n hB dX9_sift_0 rfl rfl ?_
  refine fr_iload_n hB dX9_sift_1 rfl rfl ?_
  refine fr_callV hB _ _ dX9_sift_2 lm_X9_111 rfl (ct_X9_isPart hm.1.pl hw.1.1) rfl rfl (Nat.le_of_ble_eq_true rfl) (fm_room hR (by decide) (by decide)) ?_
  rintro _ M9 ⟨rfl, hM9⟩
  rw [hM9]
  clear hM9 M9
  refine fr_ret1 ?_
  refine fr_if_neB (tgt := 10) hB dX9_sift_5 (by decide) (fun h => ?_) (fun h => ?_)
  · obtain ⟨a, ha, rfl⟩ := fm_lt_of (by omega) h
    have ea : (nI a).toNatClampNeg = a := nI_clamp (by omega)
    refine fr_aload_n hB dX9_sift_10 rfl rfl ?_
    refine fr_getI hB dX9_sift_11 lf_X9_97 rfl rfl ?_
    refine fr_eqi _ (hm.1.pl.gates) ?_
    refine fr_if_neN (tgt := 20) hB dX9_sift_14 (by decide) (by omega) (fun h2 => ?_) (fun h2 => ?_)
    · have e : sp_sift Z.1 (nI a) = (nI (sp_best Z.1 a), sp_mv Z.1 a (sp_best Z.1 a)) := by rw [sp_sift, if_pos h, if_neg (by omega), ea]
      have hb := sp_best_lt Z.1 a (by omega)
      have eb : sp_best Z.1 a = fm_sft (fm_TT Z.1) a (Z.1 0 0) 0 Z.1 0 64 := fm_sft_64 _ _ _ _ _ _ (by omega)
      rw [e]
      clear e
      generalize sp_best Z.1 a = B at hb eb ⊢
      have l1 : ∀ (d i b f : Nat) (Q : fm_P) (M1 : fm_M), i + d = Z.1 0 0 → f ≤ 64 → b < 2 ^ 31 → fm_sft (fm_TT Z.1) a d i Q b f = B → fm_TT Q = fm_TT Z.1 → Q 0 0 = Z.1 0 0 → Q 3 0 = Z.1 3 0 → fm_wF Q → (∀ z, sp_mv Q a z = sp_mv Z.1 a z) → fm_MR (Q, Z.2) M1 → fm_W shM X 5 28 [some (.ref (fm_rh X 0)), some (.int (nI a)), some (.int (nI b)), some (.int (nI f)), some (.int (nI i))] [] M1 (fm_Q shM X (fun r M' => r = some (.int (nI B)) ∧ fm_MR (sp_mv Z.1 a B, Z.2) M')) := by
        intro d
        induction d with
        | zero =>
          intro i b f Q M1 hi hf64 hb31 hB2 hT eq eq3 hwq hmv hmr
          have hB2 : b = B := hB2
          subst hB2
          have hpos := hwq.1.ord.pos (by omega) (show a < Q 0 0 by omega)
          refine fr_iload hB dX9_sift_28 rfl ?_
          refine fr_aload_n hB dX9_sift_30 rfl rfl ?_
          refine fr_getI hB dX9_sift_31 lf_X9_90 rfl rfl ?_
          refine fr_eqi (nI (Z.1 0 0)) ((hmr.1.pl.parts).trans (congrArg nI eq)) ?_
          refine fr_icmp_geN (tgt := 78) hB dX9_sift_34 (by decide) (by omega) (by omega) (fun h4 => ?_) (fun h4 => ?_)
          · refine fr_aload_n hB dX9_sift_78 rfl rfl ?_
            refine fr_aload_n hB dX9_sift_79 rfl rfl ?_
            refine fr_iload_n hB dX9_sift_80 rfl rfl ?_
            refine fr_callV hB _ _ dX9_sift_81 lm_X9_124 rfl (ct_X9_placeOf hmr.1.pl hwq.1 (show a < Q 0 0 by omega)) rfl rfl (Nat.le_of_ble_eq_true rfl) (fm_room hR (by decide) (by decide)) ?_
            rintro _ M9 ⟨rfl, hM9⟩
            rw [hM9]
            clear hM9 M9
            refine fr_ret1 ?_
            refine fr_iload_n hB dX9_sift_84 rfl rfl ?_
            refine fr_callV hB _ _ dX9_sift_85 lm_X9_178 rfl (ct_X9_goes (show fm_pos (Q 2) a < 6 by omega) (show b < 6 by omega)) rfl rfl (Nat.le_of_ble_eq_true rfl) (fm_room hR (by decide) (by decide)) ?_
            rintro _ M9 ⟨rfl, hM9⟩
            rw [hM9]
            clear hM9 M9
            refine fr_ret0 ?_
            refine fr_iload_n hB dX9_sift_88 rfl rfl ?_
            have hfin := hmr.now (hmr.1.mv (show fm_pos (Q 2) a < 6 by omega) (show b < 6 by omega)) (fun j hj => rfl) (fun c hcc => fm_row_ne _ _ (by omega)) rfl
            rw [← hmv b]
            exact fr_ireturn hB dX9_sift_89 (⟨rfl, hfin⟩)
          · exact absurd h4 (by omega)
        | succ d ih =>
          intro i b f Q M1 hi hf64 hb31 hB2 hT eq eq3 hwq hmv hmr
          have hpos := hwq.1.ord.pos (by omega) (show a < Q 0 0 by omega)
          have e0 : fm_sft (fm_TT Z.1) a (d + 1) i Q b f = if (fm_DG (sp_mv Q a i) (fm_TT Z.1) fm_G0).2.1 < f then fm_sft (fm_TT Z.1) a d (i + 1) (sp_mv Q a i) i (fm_DG (sp_mv Q a i) (fm_TT Z.1) fm_G0).2.1 else fm_sft (fm_TT Z.1) a d (i + 1) (sp_mv Q a i) b f := by rw [fm_sft]
          rw [e0] at hB2
          clear e0
          have hfin : fm_MR (sp_mv Q a i, Z.2) (fm_row M1.1 2 (fm_mv (M1.1 2) (fm_pos (Q 2) a) i), M1.2) := hmr.now (hmr.1.mv (show fm_pos (Q 2) a < 6 by omega) (show i < 6 by omega)) (fun j hj => rfl) (fun c hcc => fm_row_ne _ _ (by omega)) rfl
          have hT2 : fm_TT (sp_mv Q a i) = fm_TT Z.1 := by rw [← hT]; exact fm_TT_row2 _ _
          have eq2 : sp_mv Q a i 0 0 = Z.1 0 0 := by rw [← eq]; rfl
          have eq4 : sp_mv Q a i 3 0 = Z.1 3 0 := by rw [← eq3]; rfl
          have hwq2 := kp_mv hwq (show a < Q 0 0 by omega) (show i < Q 0 0 by omega)
          have hmv2 : ∀ z, sp_mv (sp_mv Q a i) a z = sp_mv Z.1 a z := fun z => by rw [sp_mv_mv hwq.1 (show a < Q 0 0 by omega) (show i < Q 0 0 by omega), hmv]
          refine fr_iload hB dX9_sift_28 rfl ?_
          refine fr_aload_n hB dX9_sift_30 rfl rfl ?_
          refine fr_getI hB dX9_sift_31 lf_X9_90 rfl rfl ?_
          refine fr_eqi (nI (Z.1 0 0)) ((hmr.1.pl.parts).trans (congrArg nI eq)) ?_
          refine fr_icmp_geN (tgt := 78) hB dX9_sift_34 (by decide) (by omega) (by omega) (fun h4 => ?_) (fun h4 => ?_)
          · exact absurd h4 (by omega)
          · refine fr_aload_n hB dX9_sift_37 rfl rfl ?_
            refine fr_aload_n hB dX9_sift_38 rfl rfl ?_
            refine fr_iload_n hB dX9_sift_39 rfl rfl ?_
            refine fr_callV hB _ _ dX9_sift_40 lm_X9_124 rfl (ct_X9_placeOf hmr.1.pl hwq.1 (show a < Q 0 0 by omega)) rfl rfl (Nat.le_of_ble_eq_true rfl) (fm_room hR (by decide) (by decide)) ?_
            rintro _ M9 ⟨rfl, hM9⟩
            rw [hM9]
            clear hM9 M9
            refine fr_ret1 ?_
            refine fr_iload hB dX9_sift_43 rfl ?_
            refine fr_callV hB _ _ dX9_sift_45 lm_X9_178 rfl (ct_X9_goes (show fm_pos (Q 2) a < 6 by omega) (show i < 6 by omega)) rfl rfl (Nat.le_of_ble_eq_true rfl) (fm_room hR (by decide) (by decide)) ?_
            rintro _ M9 ⟨rfl, hM9⟩
            rw [hM9]
            clear hM9 M9
            refine fr_ret0 ?_
            generalize (fm_row M1.1 2 (fm_mv (M1.1 2) (fm_pos (Q 2) a) i), M1.2) = M2 at hfin ⊢
            generalize sp_mv Q a i = Q2 at hfin hT2 eq2 eq4 hwq2 hmv2 hB2
            refine fr_aload_n hB dX9_sift_48 rfl rfl ?_
            refine fr_callV hB _ _ dX9_sift_49 lm_X9_202 rfl (ct_X9_draws hfin.1.pl hwq2.1 (show 0 < Q2 3 0 by omega)) rfl rfl (Nat.le_of_ble_eq_true rfl) (fm_room hR (by decide) (by decide)) ?_
            rintro _ _ ⟨G, F, L, rfl, rfl⟩
            refine fr_ret1 ?_
            have hn := fm_DG_n Q2 (fm_TT Q2) G
            rw [hT2] at hn
            have hle := fm_DG_le Q2 (fm_TT Z.1) fm_G0
            have hmr3 := hfin.mf (fm_mf.dr M2 F (fm_DG Q2 (fm_TT Q2) G).2 L)
            rw [hT2] at hmr3 ⊢
            have hnn : (fm_hm (fm_row M2.1 14 F, M2.2) (fm_DG Q2 (fm_TT Z.1) G).2 L).1 0 22 = nI (fm_DG Q2 (fm_TT Z.1) fm_G0).2.1 := by rw [← hn]; exact hm_nodes _ _ _
            generalize fm_hm (fm_row M2.1 14 F, M2.2) (fm_DG Q2 (fm_TT Z.1) G).2 L = M3 at hmr3 hnn ⊢
            generalize (fm_DG Q2 (fm_TT Z.1) fm_G0).2.1 = m at hle hnn hB2
            refine fr_pop hB dX9_sift_52 rfl ?_
            refine fr_aload_n hB dX9_sift_53 rfl rfl ?_
            refine fr_getI hB dX9_sift_54 lf_X9_188 rfl rfl ?_
            refine fr_eqi _ (hnn) ?_
            refine fr_iload_n hB dX9_sift_57 rfl rfl ?_
            refine fr_icmp_ltN (tgt := 64) hB dX9_sift_58 (by decide) (by omega) (by omega) (fun h5 => ?_) (fun h5 => ?_)
            · rw [if_pos h5] at hB2
              refine fr_aload_n hB dX9_sift_64 rfl rfl ?_
              refine fr_getI hB dX9_sift_65 lf_X9_188 rfl rfl ?_
              refine fr_eqi _ (hnn) ?_
              refine fr_istore_n hB dX9_sift_68 rfl (by decide) rfl ?_
              refine fr_iload hB dX9_sift_69 rfl ?_
              refine fr_istore_n hB dX9_sift_71 rfl (by decide) rfl ?_
              refine fr_iincN (b := 1) hB dX9_sift_72 rfl (by decide) (by decide) rfl ?_
              refine fr_goto (tgt := 28) hB dX9_sift_75 (by decide) ?_
              exact ih (i + 1) i m Q2 M3 (by omega) (by omega) (by omega) hB2 hT2 eq2 eq4 hwq2 hmv2 hmr3
            · rw [if_neg (by omega)] at hB2
              refine fr_goto (tgt := 72) hB dX9_sift_61 (by decide) ?_
              refine fr_iincN (b := 1) hB dX9_sift_72 rfl (by decide) (by decide) rfl ?_
              refine fr_goto (tgt := 28) hB dX9_sift_75 (by decide) ?_
              exact ih (i + 1) b f Q2 M3 (by omega) (by omega) hb31 hB2 hT2 eq2 eq4 hwq2 hmv2 hmr3
      refine fr_iconst (v := nI 0) hB dX9_sift_20 (by decide) ?_
      refine fr_istore_n hB dX9_sift_21 rfl (by decide) rfl ?_
      refine fr_bipush (v := nI 64) hB dX9_sift_22 (by decide) ?_
      refine fr_istore_n hB dX9_sift_24 rfl (by decide) rfl ?_
      refine fr_iconst (v := nI 0) hB dX9_sift_25 (by decide) ?_
      refine fr_istore hB dX9_sift_26 (by decide) rfl ?_
      exact l1 (Z.1 0 0) 0 0 64 Z.1 M (by omega) (by omega) (by omega) eb.symm rfl rfl rfl hw.1 (fun _ => rfl) hm
    · have e : sp_sift Z.1 (nI a) = (-3, Z.1) := by rw [sp_sift, if_pos h, if_pos h2]
      refine fr_bipush (v := -3) hB dX9_sift_17 (by decide) ?_
      exact fr_ireturn hB dX9_sift_19 (⟨by rw [e], by rw [e]; exact hm⟩)
  · have e : sp_sift Z.1 n = (-1, Z.1) := by rw [sp_sift, h]; rfl
    refine fr_iconst (v := -1) hB dX9_sift_8 (by decide) ?_
    exact fr_ireturn hB dX9_sift_9 (⟨by rw [e], by rw [e]; exact hm⟩)
