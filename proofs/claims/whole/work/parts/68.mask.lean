/-! ===== the reference: told, mean, fits, judge ===== -/
theorem fm_mg.dr (M : fm_M) (F : Nat → Int32) (S : fm_GS) (L : Nat → Int64) : fm_mg M (fm_hm (fm_row M.1 14 F, M.2) S L) := ⟨fm_mf.dr M F S L, (hm_1 (fm_row M.1 14 F, M.2) S L (show 20 ≠ 0 by omega) (by omega)).trans (fm_row_ne M.1 F (show 20 ≠ 14 by omega))⟩
theorem ct_X9_drawnG {E : fm_E} {P : fm_P} {M : fm_M} (hm : fm_NP P M) (hw : fm_wf P) (hg : 0 < P 3 0) : fm_C shM E mX9_drawn 9 [.ref (E.2.1 0)] M (fun r M' => r = some (.int (nI (fm_DG P (fm_TT P) fm_G0).2.1)) ∧ fm_mg M M') := by
  refine fm_C.of (by decide +kernel) (Nat.le_of_ble_eq_true rfl) ?_
  intro X hE hR hB
  subst hE
  have hB : fm_B _ X cX9_drawn 1 RX9 (some .int) := hB
  refine fr_lv [some (.ref (fm_rh X 0))] ⟨rfl, trivial⟩ ?_
  refine fr_aload_n hB dX9_drawn_0 rfl rfl ?_
  refine fr_callV hB _ _ dX9_drawn_1 lm_X9_202 rfl (ct_X9_draws hm hw hg) rfl rfl (Nat.le_of_ble_eq_true rfl) (fm_room hR (by decide) (by decide)) ?_
  rintro _ _ ⟨G, F, L, rfl, rfl⟩
  refine fr_ret1 ?_
  refine fr_pop hB dX9_drawn_4 rfl ?_
  refine fr_aload_n hB dX9_drawn_5 rfl rfl ?_
  refine fr_getI hB dX9_drawn_6 lf_X9_188 rfl rfl ?_
  refine fr_eqi _ (hm_nodes _ _ _) ?_
  exact fr_ireturn hB dX9_drawn_9 (⟨by rw [fm_DG_n], fm_mg.dr _ _ _ _⟩)
theorem ct_X9_manyG {E : fm_E} {b : Bool} {P : fm_P} {M : fm_M} (hm : fm_NP P M) (hw : fm_wf P) (hg : 0 < P 3 0) : fm_C shM E mX9_many_ 6 [.ref (E.2.1 0), .int (fm_ib b)] M (fun r M' => r = some (.int (nI (fm_LS (fm_tb2 P b) (P 0 0)).1)) ∧ fm_mg M M') := by
  refine fm_C.of (by decide +kernel) (Nat.le_of_ble_eq_true rfl) ?_
  intro X hE hR hB
  subst hE
  have hB : fm_B _ X cX9_many_ 2 RX9 (some .int) := hB
  refine fr_lv [some (.ref (fm_rh X 0)), some (.int (fm_ib b))] ⟨rfl, rfl, trivial⟩ ?_
  refine fr_aload_n hB dX9_many__0 rfl rfl ?_
  refine fr_iload_n hB dX9_many__1 rfl rfl ?_
  refine fr_callV hB _ _ dX9_many__2 lm_X9_218 rfl (ct_X9_sets hm hw hg) rfl rfl (Nat.le_of_ble_eq_true rfl) (fm_room hR (by decide) (by decide)) ?_
  rintro _ _ ⟨rfl, F, rfl⟩
  refine fr_ret0 ?_
  refine fr_aload_n hB dX9_many__5 rfl rfl ?_
  refine fr_getI hB dX9_many__6 lf_X9_209 rfl rfl ?_
  refine fr_eqi _ (km_size _ _) ?_
  exact fr_ireturn hB dX9_many__9 (⟨by rw [(fm_lst_sq _ _ _).1], (fm_mg.r14 M F).tr (fm_mg.km _ _)⟩)
theorem mm_told {E : fm_E} {n : Int32} {Z : fm_Z} {M : fm_M} (hm : fm_MR Z M) (hw : fm_WZ Z) : fm_C shM E mX9_told 10 [.ref (E.2.1 0), .int n] M (fun r M' => r = some (.int (sp_told Z.1 n fm_G0)) ∧ fm_mf M M') := by
  have h8 := hw.1.1.g8
  have ht := hw.1.1.t8
  refine fm_C.of (by decide +kernel) (Nat.le_of_ble_eq_true rfl) ?_
  intro X hE hR hB
  subst hE
  have hB : fm_B _ X cX9_told 2 RX9 (some .int) := hB
  refine fr_lv [some (.ref (fm_rh X 0)), some (.int n)] ⟨rfl, rfl, trivial⟩ ?_
  refine fr_iload_n hB dX9_told_0 rfl rfl ?_
  refine fr_iconst (v := nI 0) hB dX9_told_1 (by decide) ?_
  refine fr_bipush (v := nI 8) hB dX9_told_2 (by decide) ?_
  refine fr_callS hB _ _ dX9_told_4 lm_X9_93 (ct_X9_wto (c := 8) (by omega)) rfl rfl (Nat.le_of_ble_eq_true rfl) (fm_room hR (by decide) (by decide)) ?_
  rintro _ M9 ⟨rfl, hM9⟩
  rw [hM9]
  clear hM9 M9
  refine fr_ret1 ?_
  refine fr_if_neB (tgt := 12) hB dX9_told_7 (by decide) (fun h => ?_) (fun h => ?_)
  · have h : fm_lt n 9 = true := h
    obtain ⟨a, ha, rfl⟩ := fm_lt_of (by omega) h
    have e4 : 4 ≤ a → sp_told Z.1 (nI a) fm_G0 = (if Z.1 3 0 = 0 then -3 else if nI a = nI 4 then nI (fm_DG Z.1 (fm_TT Z.1) fm_G0).2.1 else if nI a = nI 5 then nI (fm_LS (fm_TT Z.1) (Z.1 0 0)).1 else if nI a = nI 6 then nI (fm_LS (fm_ku (fm_TT Z.1)) (Z.1 0 0)).1 else if nI a = nI 7 then fm_most Z.1 (fm_TT Z.1) else sp_same (fm_TT Z.1)) := by
      intro h4
      have ne : ∀ i : Nat, i < 4 → ¬ nI a = nI i := fun i hi q => by have := (nI_eq (by omega) (by omega)).mp q; omega
      rw [sp_told, if_neg (ne 0 (by omega)), if_neg (ne 1 (by omega)), if_neg (ne 2 (by omega)), if_neg (ne 3 (by omega)), h, if_pos rfl]
    refine fr_iload_n hB dX9_told_12 rfl rfl ?_
    refine fr_iconst (v := nI 3) hB dX9_told_13 (by decide) ?_
    refine fr_icmp_leN (tgt := 27) hB dX9_told_14 (by decide) (by omega) (by omega) (fun h2 => ?_) (fun h2 => ?_)
    · refine fr_iload_n hB dX9_told_27 rfl rfl ?_
      rcases (show a = 0 ∨ a = 1 ∨ a = 2 ∨ a = 3 by omega) with rfl | rfl | rfl | rfl
      · refine fr_tableIn (tgt := 76) hB dX9_told_28 (by decide) (by decide) (by rfl) (by decide) ?_
        refine fr_aload_n hB dX9_told_76 rfl rfl ?_
        refine fr_getI hB dX9_told_77 lf_X9_90 rfl rfl ?_
        refine fr_eqi _ (hm.1.pl.parts) ?_
        exact fr_ireturn hB dX9_told_80 (⟨by rw [sp_told, if_pos rfl], fm_mf.rf M⟩)
      · refine fr_tableIn (tgt := 81) hB dX9_told_28 (by decide) (by decide) (by rfl) (by decide) ?_
        refine fr_aload_n hB dX9_told_81 rfl rfl ?_
        refine fr_getI hB dX9_told_82 lf_X9_97 rfl rfl ?_
        refine fr_eqi _ (hm.1.pl.gates) ?_
        exact fr_ireturn hB dX9_told_85 (⟨by rw [sp_told, if_neg (by decide), if_pos rfl], fm_mf.rf M⟩)
      · refine fr_tableIn (tgt := 86) hB dX9_told_28 (by decide) (by decide) (by rfl) (by decide) ?_
        refine fr_aload_n hB dX9_told_86 rfl rfl ?_
        refine fr_getI hB dX9_told_87 lf_X9_121 rfl rfl ?_
        refine fr_eqi _ (hm.1.pl.causes) ?_
        exact fr_ireturn hB dX9_told_90 (⟨by rw [sp_told, if_neg (by decide), if_neg (by decide), if_pos rfl], fm_mf.rf M⟩)
      · refine fr_tableIn (tgt := 91) hB dX9_told_28 (by decide) (by decide) (by rfl) (by decide) ?_
        refine fr_aload_n hB dX9_told_91 rfl rfl ?_
        refine fr_callV hB _ _ dX9_told_92 lm_X9_114 rfl (ct_X9_topmost hm.1.pl hw.1.1) rfl rfl (Nat.le_of_ble_eq_true rfl) (fm_room hR (by decide) (by decide)) ?_
        rintro _ M9 ⟨rfl, hM9⟩
        rw [hM9]
        clear hM9 M9
        refine fr_ret1 ?_
        exact fr_ireturn hB dX9_told_95 (⟨by rw [sp_told, if_neg (by decide), if_neg (by decide), if_neg (by decide), if_pos rfl], fm_mf.rf M⟩)
    · have e4 := e4 (by omega)
      refine fr_aload_n hB dX9_told_17 rfl rfl ?_
      refine fr_getI hB dX9_told_18 lf_X9_97 rfl rfl ?_
      refine fr_eqi _ (hm.1.pl.gates) ?_
      refine fr_if_neN (tgt := 27) hB dX9_told_21 (by decide) (by omega) (fun h3 => ?_) (fun h3 => ?_)
      · rw [if_neg (show ¬ Z.1 3 0 = 0 by omega)] at e4
        rw [e4]
        refine fr_iload_n hB dX9_told_27 rfl rfl ?_
        rcases (show a = 4 ∨ a = 5 ∨ a = 6 ∨ a = 7 ∨ a = 8 by omega) with rfl | rfl | rfl | rfl | rfl
        · refine fr_tableIn (tgt := 96) hB dX9_told_28 (by decide) (by decide) (by rfl) (by decide) ?_
          refine fr_aload_n hB dX9_told_96 rfl rfl ?_
          refine fr_callV hB _ _ dX9_told_97 lm_X9_256 rfl (ct_X9_drawn hm.1.pl hw.1.1 h3) rfl rfl (Nat.le_of_ble_eq_true rfl) (fm_room hR (by decide) (by decide)) ?_
          rintro _ _ ⟨rfl, hmf⟩
          refine fr_ret1 ?_
          exact fr_ireturn hB dX9_told_100 (⟨by rw [if_pos rfl], hmf⟩)
        · refine fr_tableIn (tgt := 101) hB dX9_told_28 (by decide) (by decide) (by rfl) (by decide) ?_
          refine fr_aload_n hB dX9_told_101 rfl rfl ?_
          refine fr_iconst (v := nI 1) hB dX9_told_102 (by decide) ?_
          refine fr_eqi (fm_ib true) rfl ?_
          refine fr_callV hB _ _ dX9_told_103 lm_X9_259 rfl (ct_X9_manyG (b := true) hm.1.pl hw.1.1 h3) rfl rfl (Nat.le_of_ble_eq_true rfl) (fm_room hR (by decide) (by decide)) ?_
          rintro _ _ ⟨rfl, hmf⟩
          refine fr_ret1 ?_
          exact fr_ireturn hB dX9_told_106 (⟨by rw [if_neg (by decide), if_pos rfl]; rfl, hmf.1⟩)
        · refine fr_tableIn (tgt := 107) hB dX9_told_28 (by decide) (by decide) (by rfl) (by decide) ?_
          refine fr_aload_n hB dX9_told_107 rfl rfl ?_
          refine fr_iconst (v := nI 0) hB dX9_told_108 (by decide) ?_
          refine fr_eqi (fm_ib false) rfl ?_
          refine fr_callV hB _ _ dX9_told_109 lm_X9_259 rfl (ct_X9_manyG (b := false) hm.1.pl hw.1.1 h3) rfl rfl (Nat.le_of_ble_eq_true rfl) (fm_room hR (by decide) (by decide)) ?_
          rintro _ _ ⟨rfl, hmf⟩
          refine fr_ret1 ?_
          exact fr_ireturn hB dX9_told_112 (⟨by rw [if_neg (by decide), if_neg (by decide), if_pos rfl]; rfl, hmf.1⟩)
        · refine fr_tableIn (tgt := 113) hB dX9_told_28 (by decide) (by decide) (by rfl) (by decide) ?_
          refine fr_aload_n hB dX9_told_113 rfl rfl ?_
          refine fr_callV hB _ _ dX9_told_114 lm_X9_262 rfl (ct_X9_most hm.1.pl hw.1.1 h3) rfl rfl (Nat.le_of_ble_eq_true rfl) (fm_room hR (by decide) (by decide)) ?_
          rintro _ _ ⟨rfl, hmf⟩
          refine fr_ret1 ?_
          exact fr_ireturn hB dX9_told_117 (⟨by rw [if_neg (by decide), if_neg (by decide), if_neg (by decide), if_pos rfl], hmf.1⟩)
        · refine fr_tableOut (tgt := 118) hB dX9_told_28 (by decide) (by decide) ?_
          refine fr_aload_n hB dX9_told_118 rfl rfl ?_
          refine fr_callV hB _ _ dX9_told_119 lm_X9_265 rfl (ct_X9_ever hm.1.pl hw.1.1 h3) rfl rfl (Nat.le_of_ble_eq_true rfl) (fm_room hR (by decide) (by decide)) ?_
          rintro _ _ ⟨rfl, hmf⟩
          refine fr_ret1 ?_
          exact fr_ireturn hB dX9_told_122 (⟨by rw [if_neg (by decide), if_neg (by decide), if_neg (by decide), if_neg (by decide)], hmf⟩)
      · refine fr_bipush (v := -3) hB dX9_told_24 (by decide) ?_
        exact fr_ireturn hB dX9_told_26 (⟨by rw [e4, if_pos h3], fm_mf.rf M⟩)
  · have h : fm_lt n 9 = false := h
    have ne : ∀ i : Nat, i < 9 → ¬ n = nI i := fun i hi q => by rw [q, fm_lt_nat (by omega) (by omega)] at h; simp at h; omega
    refine fr_iconst (v := -1) hB dX9_told_10 (by decide) ?_
    exact fr_ireturn hB dX9_told_11 (⟨by rw [sp_told, if_neg (ne 0 (by omega)), if_neg (ne 1 (by omega)), if_neg (ne 2 (by omega)), if_neg (ne 3 (by omega)), h]; rfl, fm_mf.rf M⟩)
theorem mm_mean {E : fm_E} {l : Int32} {Z : fm_Z} {M : fm_M} (hm : fm_MR Z M) (hw : fm_WZ Z) : fm_C shM E mX9_mean 126 [.ref (E.2.1 0), .int l] M (fun r M' => r = some (.long (sp_mean Z.1 l)) ∧ fm_mf M M') := by
  have h8 := hw.1.1.g8
  have h6 := hw.1.1.p6
  refine fm_C.of (by decide +kernel) (Nat.le_of_ble_eq_true rfl) ?_
  intro X hE hR hB
  subst hE
  have hB : fm_B _ X cX9_mean 5 RX9 (some .long) := hB
  refine fr_lv [some (.ref (fm_rh X 0)), some (.int l), none, none, none] ⟨rfl, rfl, trivial⟩ ?_
  have no : ∀ M1 (l1 : Int32), l1 = l → fm_mf M M1 → sp_mean Z.1 l = fm_NO → fm_W shM X 5 24 [some (.ref (fm_rh X 0)), some (.int l1), none, none, none] [] M1 (fm_Q shM X (fun r M' => r = some (.long (sp_mean Z.1 l)) ∧ fm_mf M M')) := by
    intro M1 l1 _ hmf e
    refine fr_ldc2 (v := -9223372036854775808) hB dX9_mean_24 lc_X9_241 ?_
    exact fr_lreturn hB dX9_mean_27 (⟨by rw [e]; rfl, hmf⟩)
  refine fr_aload_n hB dX9_mean_0 rfl rfl ?_
  refine fr_getI hB dX9_mean_1 lf_X9_97 rfl rfl ?_
  refine fr_eqi _ (hm.1.pl.gates) ?_
  refine fr_if_eqN (tgt := 24) hB dX9_mean_4 (by decide) (by omega) (fun h => ?_) (fun h => ?_)
  · exact no M l rfl (fm_mf.rf M) (by rw [sp_mean, if_neg (fun q => by omega)])
  · refine fr_iload_n hB dX9_mean_7 rfl rfl ?_
    refine fr_iconst (v := nI 0) hB dX9_mean_8 (by decide) ?_
    refine fr_iconst (v := nI 1) hB dX9_mean_9 (by decide) ?_
    refine fr_callS hB _ _ dX9_mean_10 lm_X9_93 (ct_X9_wto (c := 1) (by omega)) rfl rfl (Nat.le_of_ble_eq_true rfl) (fm_room hR (by decide) (by decide)) ?_
    rintro _ M9 ⟨rfl, hM9⟩
    rw [hM9]
    clear hM9 M9
    refine fr_ret1 ?_
    refine fr_if_eqB (tgt := 24) hB dX9_mean_13 (by decide) (fun h2 => ?_) (fun h2 => ?_)
    · exact no M l rfl (fm_mf.rf M) (by rw [sp_mean, if_neg (fun q => by rw [show fm_lt l 2 = false from h2] at q; cases q.1)])
    · have h2 : fm_lt l 2 = true := h2
      have hnm := fm_LS_nm (fm_TT Z.1) h6
      have hle : (fm_LS (fm_TT Z.1) (Z.1 0 0)).1 ≤ 64 := fm_LS_le (fm_TT Z.1) (Z.1 0 0) (fun _ => 0)
      have htl := fm_tog_le hnm hle
      obtain ⟨a, ha, rfl⟩ := fm_lt_of (by omega) h2
      have es : sp_mean Z.1 (nI a) = if (fm_LS (fm_TT Z.1) (Z.1 0 0)).1 = 0 then fm_NO else fm_low (lN (fm_tog (fm_LS (fm_TT Z.1) (Z.1 0 0)))) (lN (fm_LS (fm_TT Z.1) (Z.1 0 0)).1) a := by rw [sp_mean, if_pos ⟨h2, h⟩, nI_clamp (show a < 2 ^ 31 by omega)]
      refine fr_aload_n hB dX9_mean_16 rfl rfl ?_
      refine fr_iconst (v := nI 1) hB dX9_mean_17 (by decide) ?_
      refine fr_eqi (fm_ib true) rfl ?_
      refine fr_callV hB _ _ dX9_mean_18 lm_X9_259 rfl (ct_X9_many_ (b := true) hm.1.pl hw.1.1 h) rfl rfl (Nat.le_of_ble_eq_true rfl) (fm_room hR (by decide) (by decide)) ?_
      rintro _ _ ⟨rfl, hmf, S, e1, e2, hsq, h64⟩
      refine fr_ret1 ?_
      rename_i M1
      have hsq : fm_sq S (fm_LS (fm_TT Z.1) (Z.1 0 0)) := hsq
      rw [show fm_tb2 Z.1 true = fm_TT Z.1 from rfl]
      generalize fm_LS (fm_TT Z.1) (Z.1 0 0) = LS at hsq hnm hle htl es ⊢
      refine fr_if_neN (tgt := 28) hB dX9_mean_21 (by decide) (by omega) (fun h3 => ?_) (fun h3 => ?_)
      · rw [if_neg (show ¬ LS.1 = 0 by omega)] at es
        rw [es]
        have el : ∀ i, i < S.1 → ∃ q, q < 64 ∧ M1.1 19 i = nI q ∧ fm_bc (LS.2 i).toNatClampNeg = fm_bc q := fun i hi => by
          obtain ⟨q, hq, eq⟩ := hnm i (by rw [← hsq.1]; exact hi)
          exact ⟨q, hq, by rw [e2, hsq.2 i hi, eq], by rw [eq, nI_clamp (show q < 2 ^ 31 by omega)]⟩
        have l1 : ∀ (d i : Nat), i + d = S.1 → fm_W shM X 5 33 [some (.ref (fm_rh X 0)), some (.int (nI a)), some (.long (lN (fm_sum (fun i => fm_bc (LS.2 i).toNatClampNeg) i))), none, some (.int (nI i))] [] M1 (fm_Q shM X (fun r M' => r = some (.long (fm_low (lN (fm_tog LS)) (lN LS.1) a)) ∧ fm_mf M M')) := by
          intro d
          induction d with
          | zero =>
            intro i hi
            have hi : i = S.1 := by omega
            refine fr_iload hB dX9_mean_33 rfl ?_
            refine fr_aload_n hB dX9_mean_35 rfl rfl ?_
            refine fr_getI hB dX9_mean_36 lf_X9_209 rfl rfl ?_
            refine fr_eqi _ (e1) ?_
            refine fr_icmp_geN (tgt := 62) hB dX9_mean_39 (by decide) (by omega) (by omega) (fun h4 => ?_) (fun h4 => ?_)
            · rw [show fm_sum (fun i => fm_bc (LS.2 i).toNatClampNeg) i = fm_tog LS from by rw [hi, hsq.1]; rfl]
              refine fr_lload_n hB dX9_mean_62 rfl rfl ?_
              refine fr_aload_n hB dX9_mean_63 rfl rfl ?_
              refine fr_getI hB dX9_mean_64 lf_X9_209 rfl rfl ?_
              refine fr_eqi _ (e1) ?_
              refine fr_i2l (v := lN LS.1) hB dX9_mean_67 (by rw [nI_l (show S.1 < 2 ^ 31 by omega), hsq.1]) ?_
              refine fr_iload_n hB dX9_mean_68 rfl rfl ?_
              refine fr_callS hB _ _ dX9_mean_69 lm_X9_249 (ct_X9_line (line := a) (show fm_tog LS < 2 ^ 62 by omega) (show LS.1 < 2 ^ 62 by omega) (by omega) (by omega)) rfl rfl (Nat.le_of_ble_eq_true rfl) (fm_room hR (by decide) (by decide)) ?_
              rintro _ M9 ⟨rfl, hM9⟩
              rw [hM9]
              clear hM9 M9
              refine fr_ret1 ?_
              exact fr_lreturn hB dX9_mean_72 (⟨rfl, hmf⟩)
            · exact absurd h4 (by omega)
          | succ d ih =>
            intro i hi
            obtain ⟨q, hq, eq1, eq2⟩ := el i (by omega)
            have est : fm_sum (fun i => fm_bc (LS.2 i).toNatClampNeg) (i + 1) = fm_sum (fun i => fm_bc (LS.2 i).toNatClampNeg) i + fm_bc q := by rw [← eq2]; rfl
            have hbq := fm_bc_le q hq
            refine fr_iload hB dX9_mean_33 rfl ?_
            refine fr_aload_n hB dX9_mean_35 rfl rfl ?_
            refine fr_getI hB dX9_mean_36 lf_X9_209 rfl rfl ?_
            refine fr_eqi _ (e1) ?_
            refine fr_icmp_geN (tgt := 62) hB dX9_mean_39 (by decide) (by omega) (by omega) (fun h4 => ?_) (fun h4 => ?_)
            · exact absurd h4 (by omega)
            · refine fr_lload_n hB dX9_mean_42 rfl rfl ?_
              refine fr_aload_n hB dX9_mean_43 rfl rfl ?_
              refine fr_getR hB dX9_mean_44 lf_X9_72 rfl rfl ?_
              refine fr_iload hB dX9_mean_47 rfl ?_
              refine fr_iald hB (_) dX9_mean_49 rfl (rfl) (by omega) (by decide) ?_
              refine fr_eqi (nI (q)) (eq1) ?_
              refine fr_callS hB _ _ dX9_mean_50 lm_X9_212 (ct_X9_many hq) rfl rfl (Nat.le_of_ble_eq_true rfl) (fm_room hR (by decide) (by decide)) ?_
              rintro _ M9 ⟨rfl, hM9⟩
              rw [hM9]
              clear hM9 M9
              refine fr_ret1 ?_
              refine fr_i2l (v := lN (fm_bc q)) hB dX9_mean_53 (nI_l (by omega)) ?_
              refine fr_ladd hB dX9_mean_54 ?_
              refine fr_eql (lN (fm_sum (fun i => fm_bc (LS.2 i).toNatClampNeg) (i + 1))) (by rw [est, lN_add]) ?_
              refine fr_lstore_n hB dX9_mean_55 rfl (by decide) rfl ?_
              refine fr_iincN (b := 1) hB dX9_mean_56 rfl (by decide) (by decide) rfl ?_
              refine fr_goto (tgt := 33) hB dX9_mean_59 (by decide) ?_
              exact ih (i + 1) (by omega)
        refine fr_lconst (v := 0) hB dX9_mean_28 (by decide) ?_
        refine fr_lstore_n hB dX9_mean_29 rfl (by decide) rfl ?_
        refine fr_iconst (v := nI 0) hB dX9_mean_30 (by decide) ?_
        refine fr_istore hB dX9_mean_31 (by decide) rfl ?_
        exact l1 S.1 0 (by omega)
      · rw [if_pos h3] at es
        exact no M1 (nI a) rfl hmf es
theorem ct_X9_isAllSo {E : fm_E} {P : fm_P} {M : fm_M} (hm : fm_NR P M) (hw : fm_wF P) (hg : 0 < P 3 0) : fm_C shM E mX9_isAllSo 3 [.ref (E.2.1 0)] M (fun r M' => r = some (.int (fm_ib (fm_asn P (fm_TT P)))) ∧ ∃ F, M' = (fm_row M.1 14 F, M.2)) := by
  obtain ⟨w1, -, -, w4, -⟩ := hw.2
  have h2c := fm_2c hw.1.p6
  refine fm_C.of (by decide +kernel) (Nat.le_of_ble_eq_true rfl) ?_
  intro X hE hR hB
  subst hE
  have hB : fm_B _ X cX9_isAllSo 2 RX9 (some .boolean) := hB
  refine fr_lv [some (.ref (fm_rh X 0)), none] ⟨rfl, trivial⟩ ?_
  have l1 : ∀ (d i : Nat) (F : Nat → Int32), i + d = P 12 0 → (∀ j, j < i → (fm_bit (fm_TT P) (P 13 j) == decide (P 14 j = 1)) = true) → fm_W shM X 2 2 [some (.ref (fm_rh X 0)), some (.int (nI i))] [] (fm_row M.1 14 F, M.2) (fm_Q shM X (fun r M' => r = some (.int (fm_ib (fm_asn P (fm_TT P)))) ∧ ∃ F, M' = (fm_row M.1 14 F, M.2))) := by
    intro d
    induction d with
    | zero =>
      intro i F hi hq
      have hmF := hm.mf (fm_mf.r14 M F)
      refine fr_iload_n hB dX9_isAllSo_2 rfl rfl ?_
      refine fr_aload_n hB dX9_isAllSo_3 rfl rfl ?_
      refine fr_getI hB dX9_isAllSo_4 lf_X9_268 rfl rfl ?_
      refine fr_eqi _ (hmF.r12) ?_
      refine fr_icmp_geN (tgt := 46) hB dX9_isAllSo_7 (by decide) (by omega) (by omega) (fun h => ?_) (fun h => ?_)
      · have e : fm_asn P (fm_TT P) = true := (fm_all_iff _ _).mpr (fun j hj => hq j (by omega))
        refine fr_iconst (v := nI 1) hB dX9_isAllSo_46 (by decide) ?_
        exact fr_zreturn hB dX9_isAllSo_47 (by first | exact fm_nar0 | exact fm_nar1 | exact fm_nar _) (⟨by rw [e]; rfl, F, rfl⟩)
      · exact absurd h (by omega)
    | succ d ih =>
      intro i F hi hq
      have hmF := hm.mf (fm_mf.r14 M F)
      have hwi := w4 i (by omega)
      refine fr_iload_n hB dX9_isAllSo_2 rfl rfl ?_
      refine fr_aload_n hB dX9_isAllSo_3 rfl rfl ?_
      refine fr_getI hB dX9_isAllSo_4 lf_X9_268 rfl rfl ?_
      refine fr_eqi _ (hmF.r12) ?_
      refine fr_icmp_geN (tgt := 46) hB dX9_isAllSo_7 (by decide) (by omega) (by omega) (fun h => ?_) (fun h => ?_)
      · exact absurd h (by omega)
      · have hd := fm_TT_bit P (show P 13 i < 64 by omega)
        have ok : ∀ F2, (fm_bit (fm_TT P) (P 13 i) == decide (P 14 i = 1)) = true → fm_W shM X 2 40 [some (.ref (fm_rh X 0)), some (.int (nI i))] [] (fm_row M.1 14 F2, M.2) (fm_Q shM X (fun r M' => r = some (.int (fm_ib (fm_asn P (fm_TT P)))) ∧ ∃ F, M' = (fm_row M.1 14 F, M.2))) := by
          intro F2 hok
          refine fr_iincN (b := 1) hB dX9_isAllSo_40 rfl (by decide) (by decide) rfl ?_
          refine fr_goto (tgt := 2) hB dX9_isAllSo_43 (by decide) ?_
          refine ih (i + 1) F2 (by omega) (fun j hj => ?_)
          by_cases e : j = i
          · rw [e]; exact hok
          · exact hq j (by omega)
        have no : ∀ F2, (fm_bit (fm_TT P) (P 13 i) == decide (P 14 i = 1)) = false → fm_W shM X 2 38 [some (.ref (fm_rh X 0)), some (.int (nI i))] [] (fm_row M.1 14 F2, M.2) (fm_Q shM X (fun r M' => r = some (.int (fm_ib (fm_asn P (fm_TT P)))) ∧ ∃ F, M' = (fm_row M.1 14 F, M.2))) := by
          intro F2 hno
          have e : fm_asn P (fm_TT P) = false := fm_all_no (i := i) h hno
          refine fr_iconst (v := nI 0) hB dX9_isAllSo_38 (by decide) ?_
          exact fr_zreturn hB dX9_isAllSo_39 (by first | exact fm_nar0 | exact fm_nar1 | exact fm_nar _) (⟨by rw [e]; rfl, F2, rfl⟩)
        refine fr_aload_n hB dX9_isAllSo_10 rfl rfl ?_
        refine fr_aload_n hB dX9_isAllSo_11 rfl rfl ?_
        refine fr_getR hB dX9_isAllSo_12 lf_X9_40 rfl rfl ?_
        refine fr_iload_n hB dX9_isAllSo_15 rfl rfl ?_
        refine fr_iald hB (_) dX9_isAllSo_16 rfl (rfl) (by omega) (by decide) ?_
        refine fr_eqi (nI (P 13 i)) (hmF.r13 i h) ?_
        refine fr_callV hB _ _ dX9_isAllSo_17 lm_X9_199 rfl (ct_X9_isDown hmF.pl hw.1 hg (by omega)) rfl rfl (Nat.le_of_ble_eq_true rfl) (fm_room hR (by decide) (by decide)) ?_
        rintro _ _ ⟨rfl, F2, rfl⟩
        refine fr_ret1 ?_
        rw [← hd, show fm_row (fm_row M.1 14 F) 14 F2 = fm_row M.1 14 F2 from fm_row_row _ _ _ _]
        have hm2 := hm.mf (fm_mf.r14 M F2)
        refine fr_aload_n hB dX9_isAllSo_20 rfl rfl ?_
        refine fr_getR hB dX9_isAllSo_21 lf_X9_43 rfl rfl ?_
        refine fr_iload_n hB dX9_isAllSo_24 rfl rfl ?_
        refine fr_iald hB (_) dX9_isAllSo_25 rfl (rfl) (by omega) (by decide) ?_
        refine fr_eqi (nI (P 14 i)) (hm2.r14 i h) ?_
        refine fr_iconst (v := nI 1) hB dX9_isAllSo_26 (by decide) ?_
        refine fr_icmp_neN (tgt := 34) hB dX9_isAllSo_27 (by decide) (by omega) (by omega) (fun h2 => ?_) (fun h2 => ?_)
        · have e1 : decide (P 14 i = 1) = false := decide_eq_false h2
          rw [e1] at ok no
          cases hb : fm_bit (fm_TT P) (P 13 i) with
          | false =>
            refine fr_iconst (v := nI 0) hB dX9_isAllSo_34 (by decide) ?_
            refine fr_icmp_eq (tgt := 40) hB dX9_isAllSo_35 (by decide) (fun h3 => ?_) (fun h3 => ?_)
            · exact ok F2 (by rw [hb]; rfl)
            · exact absurd rfl h3
          | true =>
            refine fr_iconst (v := nI 0) hB dX9_isAllSo_34 (by decide) ?_
            refine fr_icmp_eq (tgt := 40) hB dX9_isAllSo_35 (by decide) (fun h3 => ?_) (fun h3 => ?_)
            · exact absurd h3 (by decide)
            · exact no F2 (by rw [hb]; rfl)
        · have e1 : decide (P 14 i = 1) = true := decide_eq_true h2
          rw [e1] at ok no
          cases hb : fm_bit (fm_TT P) (P 13 i) with
          | false =>
            refine fr_iconst (v := nI 1) hB dX9_isAllSo_30 (by decide) ?_
            refine fr_goto (tgt := 35) hB dX9_isAllSo_31 (by decide) ?_
            refine fr_icmp_eq (tgt := 40) hB dX9_isAllSo_35 (by decide) (fun h3 => ?_) (fun h3 => ?_)
            · exact absurd h3 (by decide)
            · exact no F2 (by rw [hb]; rfl)
          | true =>
            refine fr_iconst (v := nI 1) hB dX9_isAllSo_30 (by decide) ?_
            refine fr_goto (tgt := 35) hB dX9_isAllSo_31 (by decide) ?_
            refine fr_icmp_eq (tgt := 40) hB dX9_isAllSo_35 (by decide) (fun h3 => ?_) (fun h3 => ?_)
            · exact ok F2 (by rw [hb]; rfl)
            · exact absurd rfl h3
  refine fr_mem (fm_row M.1 14 (M.1 14), M.2) (by rw [fm_row_self]) ?_
  refine fr_iconst (v := nI 0) hB dX9_isAllSo_0 (by decide) ?_
  refine fr_istore_n hB dX9_isAllSo_1 rfl (by decide) rfl ?_
  exact l1 (P 12 0) 0 _ (by omega) (fun j hj => absurd hj (by omega))
theorem mm_fits {E : fm_E} {g w : Int32} {Z : fm_Z} {M : fm_M} (hm : fm_MR Z M) (hw : fm_WZ Z) : fm_C shM E mX9_fits 4 [.ref (E.2.1 0), .int g, .int w] M (fun r M' => r = some (.int (sp_fits Z.1 g w)) ∧ fm_mf M M') := by
  have h8 := hw.1.1.g8
  refine fm_C.of (by decide +kernel) (Nat.le_of_ble_eq_true rfl) ?_
  intro X hE hR hB
  subst hE
  have hB : fm_B _ X cX9_fits 8 RX9 (some .int) := hB
  refine fr_lv [some (.ref (fm_rh X 0)), some (.int g), some (.int w), none, none, none, none, none] ⟨rfl, rfl, rfl, trivial⟩ ?_
  have no : sp_fits Z.1 g w = -1 → fm_W shM X 8 17 [some (.ref (fm_rh X 0)), some (.int g), some (.int w), none, none, none, none, none] [] M (fm_Q shM X (fun r M' => r = some (.int (sp_fits Z.1 g w)) ∧ fm_mf M M')) := by
    intro e
    refine fr_iconst (v := -1) hB dX9_fits_17 (by decide) ?_
    exact fr_ireturn hB dX9_fits_18 (⟨by rw [e], fm_mf.rf M⟩)
  refine fr_aload_n hB dX9_fits_0 rfl rfl ?_
  refine fr_iload_n hB dX9_fits_1 rfl rfl ?_
  refine fr_callV hB _ _ dX9_fits_2 lm_X9_108 rfl (ct_X9_isGate hm.1.pl hw.1.1) rfl rfl (Nat.le_of_ble_eq_true rfl) (fm_room hR (by decide) (by decide)) ?_
  rintro _ M9 ⟨rfl, hM9⟩
  rw [hM9]
  clear hM9 M9
  refine fr_ret1 ?_
  refine fr_if_eqB (tgt := 17) hB dX9_fits_5 (by decide) (fun h => ?_) (fun h => ?_)
  · exact no (by rw [sp_fits, if_neg (fun q => by rw [h] at q; cases q.1)])
  · refine fr_iload_n hB dX9_fits_8 rfl rfl ?_
    refine fr_iconst (v := nI 0) hB dX9_fits_9 (by decide) ?_
    refine fr_iconst (v := nI 1) hB dX9_fits_10 (by decide) ?_
    refine fr_callS hB _ _ dX9_fits_11 lm_X9_93 (ct_X9_wto (c := 1) (by omega)) rfl rfl (Nat.le_of_ble_eq_true rfl) (fm_room hR (by decide) (by decide)) ?_
    rintro _ M9 ⟨rfl, hM9⟩
    rw [hM9]
    clear hM9 M9
    refine fr_ret1 ?_
    refine fr_if_neB (tgt := 19) hB dX9_fits_14 (by decide) (fun h2 => ?_) (fun h2 => ?_)
    · have h2 : fm_lt w 2 = true := h2
      obtain ⟨a, ha, rfl⟩ := fm_lt_of (by omega) h
      obtain ⟨b, hb, rfl⟩ := fm_lt_of (by omega) h2
      have ea : (nI a).toNatClampNeg = a := nI_clamp (by omega)
      have k2 := hw.1.1.k2 a
      have n5 := hw.1.1.n5 a
      have e : sp_fits Z.1 (nI a) (nI b) = (if b = 0 then nI (fm_ftl (sp_fq Z.1 a) 6 0 (-5)).1 else (fm_ftl (sp_fq Z.1 a) 6 0 (-5)).2) := by
        rw [sp_fits, if_pos ⟨h, h2⟩, ea]
        rcases (show b = 0 ∨ b = 1 by omega) with rfl | rfl
        · rfl
        · rfl
      rw [e]
      have l1 : ∀ (d m v : Nat) (l : Int32) (M1 : fm_M), d ≤ 6 → fm_mx (fun i j => (i = 3 ∨ i = 4) ∧ j = a) M M1 → fm_NR (fm_u (fm_u Z.1 4 a 2) 5 a v) M1 → fm_W shM X 8 51 [some (.ref (fm_rh X 0)), some (.int (nI a)), some (.int (nI b)), some (.int (nI (Z.1 4 a))), some (.int (nI (Z.1 5 a))), some (.int (nI m)), some (.int l), some (.int (nI d - 1))] [] M1 (fm_Q shM X (fun r M' => r = some (.int (if b = 0 then nI (fm_ftl (sp_fq Z.1 a) d m l).1 else (fm_ftl (sp_fq Z.1 a) d m l).2)) ∧ fm_mf M M')) := by
        intro d
        induction d with
        | zero =>
          intro m v l M1 _ hx hr
          have hfin := ((hx.pi (k := 3) (i := a) (nI (Z.1 4 a)) (by omega) (by omega) (Or.inl ⟨Or.inl rfl, rfl⟩)).pi (k := 4) (i := a) (nI (Z.1 5 a)) (by omega) (by omega) (Or.inl ⟨Or.inr rfl, rfl⟩)).mf (fun i j _ _ q => by
            obtain ⟨q, rfl⟩ := q
            show fm_u (fm_u M1.1 3 j _) 4 j _ i j = _
            rcases q with rfl | rfl
            · rw [fm_u_ne _ _ _ (show 3 ≠ 4 by omega), fm_u_same]; exact (hm.1.pl.kind j (by omega)).symm
            · rw [fm_u_same]; exact (hm.1.pl.need j (by omega)).symm)
          refine fr_iload hB dX9_fits_51 rfl ?_
          refine fr_if_lt (tgt := 87) hB dX9_fits_53 (by decide) (fun h5 => ?_) (fun h5 => ?_)
          · refine fr_aload_n hB dX9_fits_87 rfl rfl ?_
            refine fr_getR hB dX9_fits_88 lf_X9_18 rfl rfl ?_
            refine fr_iload_n hB dX9_fits_91 rfl rfl ?_
            refine fr_iload_n hB dX9_fits_92 rfl rfl ?_
            refine fr_iast hB (_) dX9_fits_93 rfl (rfl) (by omega) (by decide) ?_
            refine fr_aload_n hB dX9_fits_94 rfl rfl ?_
            refine fr_getR hB dX9_fits_95 lf_X9_21 rfl rfl ?_
            refine fr_iload_n hB dX9_fits_98 rfl rfl ?_
            refine fr_iload hB dX9_fits_99 rfl ?_
            refine fr_iast hB (_) dX9_fits_101 rfl (rfl) (by omega) (by decide) ?_
            refine fr_iload_n hB dX9_fits_102 rfl rfl ?_
            refine fr_if_neN (tgt := 111) hB dX9_fits_103 (by decide) (by omega) (fun h6 => ?_) (fun h6 => ?_)
            · refine fr_iload hB dX9_fits_111 rfl ?_
              exact fr_ireturn hB dX9_fits_113 (⟨by rw [if_neg (by omega)]; rfl, hfin⟩)
            · refine fr_iload hB dX9_fits_106 rfl ?_
              refine fr_goto (tgt := 113) hB dX9_fits_108 (by decide) ?_
              exact fr_ireturn hB dX9_fits_113 (⟨by rw [if_pos (by omega)]; rfl, hfin⟩)
          · exact absurd (by decide) h5
        | succ d ih =>
          intro m v l M1 hd hx hr
          rw [nI_p1]
          have hr2 := hr.u_need (i := a) (v := d)
          rw [fm_u_u] at hr2
          have hx2 := hx.pi (k := 4) (i := a) (nI d) (by omega) (by omega) (Or.inl ⟨Or.inr rfl, rfl⟩)
          refine fr_iload hB dX9_fits_51 rfl ?_
          refine fr_if_ltN (tgt := 87) hB dX9_fits_53 (by decide) (by omega) ?_
          refine fr_aload_n hB dX9_fits_56 rfl rfl ?_
          refine fr_getR hB dX9_fits_57 lf_X9_21 rfl rfl ?_
          refine fr_iload_n hB dX9_fits_60 rfl rfl ?_
          refine fr_iload hB dX9_fits_61 rfl ?_
          refine fr_iast hB (_) dX9_fits_63 rfl (rfl) (by omega) (by decide) ?_
          refine fr_aload_n hB dX9_fits_64 rfl rfl ?_
          refine fr_callV hB _ _ dX9_fits_65 lm_X9_271 rfl (ct_X9_isAllSo hr2 ⟨(hw.1.1.u_kind (by omega)).u_need (by omega), hw.1.2⟩ (show 0 < Z.1 3 0 by omega)) rfl rfl (Nat.le_of_ble_eq_true rfl) (fm_room hR (by decide) (by decide)) ?_
          rintro _ _ ⟨rfl, F, rfl⟩
          refine fr_ret1 ?_
          have hx3 := hx2.mg (fm_mg.r14 _ F)
          have hr3 := hr2.mf (fm_mf.r14 _ F)
          refine fr_if_neB (tgt := 74) hB dX9_fits_68 (by decide) (fun h6 => ?_) (fun h6 => ?_)
          · refine fr_iincN (b := 1) hB dX9_fits_74 rfl (by decide) (by decide) rfl ?_
            refine fr_iload hB dX9_fits_77 rfl ?_
            refine fr_istore hB dX9_fits_79 (by decide) rfl ?_
            refine fr_iinc (v := nI d - 1) hB dX9_fits_81 rfl (nI_m1 d) (by decide) rfl ?_
            refine fr_goto (tgt := 51) hB dX9_fits_84 (by decide) ?_
            have e2 : fm_ftl (sp_fq Z.1 a) (d + 1) m l = fm_ftl (sp_fq Z.1 a) d (m + 1) (nI d) := by
              show (if sp_fq Z.1 a d = true then _ else _) = _
              rw [if_pos (show sp_fq Z.1 a d = true from h6)]
            rw [e2]
            exact ih (m + 1) d (nI d) _ (by omega) hx3 hr3
          · refine fr_goto (tgt := 81) hB dX9_fits_71 (by decide) ?_
            refine fr_iinc (v := nI d - 1) hB dX9_fits_81 rfl (nI_m1 d) (by decide) rfl ?_
            refine fr_goto (tgt := 51) hB dX9_fits_84 (by decide) ?_
            have e2 : fm_ftl (sp_fq Z.1 a) (d + 1) m l = fm_ftl (sp_fq Z.1 a) d m l := by
              show (if sp_fq Z.1 a d = true then _ else _) = _
              rw [if_neg (fun q => by rw [show sp_fq Z.1 a d = false from h6] at q; cases q)]
            rw [e2]
            exact ih m d l _ (by omega) hx3 hr3
      have hr1 := hm.1.u_kind (i := a) (v := 2)
      rw [show fm_u Z.1 4 a 2 = fm_u (fm_u Z.1 4 a 2) 5 a (Z.1 5 a) from by
        funext q1 q2
        simp only [fm_u_at]
        by_cases e1 : q1 = 5 ∧ q2 = a
        · rw [if_pos e1, e1.1, e1.2]; simp
        · rw [if_neg e1]] at hr1
      refine fr_aload_n hB dX9_fits_19 rfl rfl ?_
      refine fr_getR hB dX9_fits_20 lf_X9_18 rfl rfl ?_
      refine fr_iload_n hB dX9_fits_23 rfl rfl ?_
      refine fr_iald hB (_) dX9_fits_24 rfl (rfl) (by omega) (by decide) ?_
      refine fr_eqi (nI (Z.1 4 a)) (hm.1.pl.kind _ (by omega)) ?_
      refine fr_istore_n hB dX9_fits_25 rfl (by decide) rfl ?_
      refine fr_aload_n hB dX9_fits_26 rfl rfl ?_
      refine fr_getR hB dX9_fits_27 lf_X9_21 rfl rfl ?_
      refine fr_iload_n hB dX9_fits_30 rfl rfl ?_
      refine fr_iald hB (_) dX9_fits_31 rfl (rfl) (by omega) (by decide) ?_
      refine fr_eqi (nI (Z.1 5 a)) (hm.1.pl.need _ (by omega)) ?_
      refine fr_istore hB dX9_fits_32 (by decide) rfl ?_
      refine fr_aload_n hB dX9_fits_34 rfl rfl ?_
      refine fr_getR hB dX9_fits_35 lf_X9_18 rfl rfl ?_
      refine fr_iload_n hB dX9_fits_38 rfl rfl ?_
      refine fr_iconst (v := nI 2) hB dX9_fits_39 (by decide) ?_
      refine fr_iast hB (_) dX9_fits_40 rfl (rfl) (by omega) (by decide) ?_
      refine fr_iconst (v := nI 0) hB dX9_fits_41 (by decide) ?_
      refine fr_istore hB dX9_fits_42 (by decide) rfl ?_
      refine fr_bipush (v := -5) hB dX9_fits_44 (by decide) ?_
      refine fr_istore hB dX9_fits_46 (by decide) rfl ?_
      refine fr_iconst (v := nI 5) hB dX9_fits_48 (by decide) ?_
      refine fr_istore hB dX9_fits_49 (by decide) rfl ?_
      exact l1 6 0 (Z.1 5 a) (-5) _ (by omega) ((fm_mx.rf _ M).pi (k := 3) (i := a) (nI 2) (by omega) (by omega) (Or.inl ⟨Or.inl rfl, rfl⟩)) hr1
    · exact no (by rw [sp_fits, if_neg (fun q => by rw [show fm_lt w 2 = false from h2] at q; cases q.2)])
