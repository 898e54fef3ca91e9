/-! ===== FaultGraph: sift ===== -/
/-- the place with the fewest nodes: from place i on, d places to go, Q as it stands, the best so far and its nodes -/
def fm_sft (T : Int64) (a : Nat) : Nat → Nat → fm_P → Nat → Nat → Nat
  | 0, _, _, b, _ => b
  | d + 1, i, Q, b, f => if (fm_DG (sp_mv Q a i) T fm_G0).2.1 < f then fm_sft T a d (i + 1) (sp_mv Q a i) i (fm_DG (sp_mv Q a i) T fm_G0).2.1 else fm_sft T a d (i + 1) (sp_mv Q a i) b f
theorem fm_sft_lt (T : Int64) (a n : Nat) : ∀ d i Q b f, i + d = n → (b < n ∨ 0 < d ∧ 65 ≤ f) → fm_sft T a d i Q b f < n := by
  intro d
  induction d with
  | zero => intro i Q b f _ h; exact h.resolve_right (fun q => absurd q.1 (by omega))
  | succ d ih =>
    intro i Q b f hi h
    unfold fm_sft
    have hle := fm_DG_le (sp_mv Q a i) T fm_G0
    generalize (fm_DG (sp_mv Q a i) T fm_G0).2.1 = m at hle ⊢
    split
    · exact ih _ _ _ _ (by omega) (Or.inl (by omega))
    · rename_i hn
      refine ih _ _ _ _ (by omega) (Or.inl ?_)
      rcases h with h | h
      · exact h
      · omega
def sp_best (P : fm_P) (a : Nat) : Nat := fm_sft (fm_TT P) a (P 0 0) 0 P 0 65
theorem sp_best_lt (P : fm_P) (a : Nat) (h : 0 < P 0 0) : sp_best P a < P 0 0 := fm_sft_lt _ _ _ _ _ _ _ _ (by omega) (Or.inl h)
theorem cc_sifted {E : fm_E} {a : Nat} {Z : fm_Z} {M : fm_M} (hc : fm_CR Z M) (hw : fm_WZ Z) (ha : a < Z.1 0 0) (hg : 0 < Z.1 3 0) : fm_C shC E mX8_sifted 10 [.ref (E.2.1 0), .int (nI a)] M (fun r M' => r = some (.int (nI (sp_best Z.1 a))) ∧ fm_fr M M') := by
  have h6 := hw.1.1.p6
  refine fm_C.of (by decide +kernel) (Nat.le_of_ble_eq_true rfl) ?_
  intro X hE hR hB
  subst hE
  have hB : fm_B _ X cX8_sifted 8 RX8 (some .int) := hB
  refine fr_lv [some (.ref (fm_rh X 0)), some (.int (nI a)), none, none, none, none, none, none] ⟨rfl, rfl, trivial⟩ ?_
  have l1 : ∀ (d i b f : Nat) (Q : fm_P) (M1 : fm_M), i + d = Z.1 0 0 → f ≤ 65 → Q 0 0 = Z.1 0 0 → fm_wf Q → fm_fr M M1 → fm_PR 43 Q M1 → fm_W shC X 8 32 [some (.ref (fm_rh X 0)), some (.int (nI a)), some (.long (fm_TT Z.1)), none, some (.int (nI b)), some (.int (nI f)), some (.int (nI i)), none] [] M1 (fm_Q shC X (fun r M' => r = some (.int (nI (fm_sft (fm_TT Z.1) a d i Q b f))) ∧ fm_fr M M')) := by
    intro d
    induction d with
    | zero =>
      intro i b f Q M1 hi hf eq hwq hfr hr
      refine fr_iload hB dX8_sifted_32 rfl ?_
      refine fr_aload_n hB dX8_sifted_34 rfl rfl ?_
      refine fr_getR hB dX8_sifted_35 lf_X8_24 rfl rfl ?_
      refine fr_getI hB dX8_sifted_38 lf_X8_204 rfl rfl ?_
      refine fr_eqi _ (hr.parts) ?_
      refine fr_icmp_geN (tgt := 90) hB dX8_sifted_41 (by decide) (by omega) (by omega) (fun h4 => ?_) (fun h4 => ?_)
      · refine fr_iload hB dX8_sifted_90 rfl ?_
        exact fr_ireturn hB dX8_sifted_92 (⟨rfl, hfr⟩)
      · exact absurd h4 (by omega)
    | succ d ih =>
      intro i b f Q M1 hi hf eq hwq hfr hr
      refine fr_iload hB dX8_sifted_32 rfl ?_
      refine fr_aload_n hB dX8_sifted_34 rfl rfl ?_
      refine fr_getR hB dX8_sifted_35 lf_X8_24 rfl rfl ?_
      refine fr_getI hB dX8_sifted_38 lf_X8_204 rfl rfl ?_
      refine fr_eqi _ (hr.parts) ?_
      refine fr_icmp_geN (tgt := 90) hB dX8_sifted_41 (by decide) (by omega) (by omega) (fun h4 => ?_) (fun h4 => ?_)
      · exact absurd h4 (by omega)
      · have hpos := hwq.ord.pos (by omega) (show a < Q 0 0 by omega)
        have hr2 : fm_PR 43 (sp_mv Q a i) (fm_row M1.1 (43 + 2) (fm_mv (M1.1 (43 + 2)) (fm_pos (Q 2) a) i), M1.2) := hr.mv (by omega) (by omega)
        have hw2 := hwq.mv (show a < Q 0 0 by omega) (show i < Q 0 0 by omega)
        have hf2 : fm_fr M1 (fm_row M1.1 (43 + 2) (fm_mv (M1.1 (43 + 2)) (fm_pos (Q 2) a) i), M1.2) := fm_tr_fr (fun b hb => fm_row_ne _ _ (by omega)) rfl
        have hf3 := hfr.tr hf2
        have eq2 : sp_mv Q a i 0 0 = Z.1 0 0 := by rw [← eq]; rfl
        have hle := fm_DG_le (sp_mv Q a i) (fm_TT Z.1) fm_G0
        have e0 : fm_sft (fm_TT Z.1) a (d + 1) i Q b f = if (fm_DG (sp_mv Q a i) (fm_TT Z.1) fm_G0).2.1 < f then fm_sft (fm_TT Z.1) a d (i + 1) (sp_mv Q a i) i (fm_DG (sp_mv Q a i) (fm_TT Z.1) fm_G0).2.1 else fm_sft (fm_TT Z.1) a d (i + 1) (sp_mv Q a i) b f := by rw [fm_sft]
        rw [e0]
        clear e0
        refine fr_aload_n hB dX8_sifted_44 rfl rfl ?_
        refine fr_getR hB dX8_sifted_45 lf_X8_24 rfl rfl ?_
        refine fr_iload_n hB dX8_sifted_48 rfl rfl ?_
        refine fr_iload hB dX8_sifted_49 rfl ?_
        refine fr_callV hB _ _ dX8_sifted_51 lm_X8_187 rfl (ct_X3_putAt shC_Pl43 hr hwq (show a < Q 0 0 by omega) (show i < Q 0 0 by omega)) rfl rfl (Nat.le_of_ble_eq_true rfl) (fm_room hR (by decide) (by decide)) ?_
        rintro _ M9 ⟨rfl, hM9⟩
        rw [hM9]
        clear hM9 M9
        refine fr_ret1 ?_
        refine fr_pop hB dX8_sifted_54 rfl ?_
        refine fr_aload_n hB dX8_sifted_55 rfl rfl ?_
        refine fr_getR hB dX8_sifted_56 lf_X8_31 rfl rfl ?_
        refine fr_aload_n hB dX8_sifted_59 rfl rfl ?_
        refine fr_getR hB dX8_sifted_60 lf_X8_24 rfl rfl ?_
        refine fr_lload_n hB dX8_sifted_63 rfl rfl ?_
        generalize (fm_row M1.1 (43 + 2) (fm_mv (M1.1 (43 + 2)) (fm_pos (Q 2) a) i), M1.2) = M2 at hr2 hf2 hf3 ⊢
        generalize sp_mv Q a i = Q2 at hr2 hw2 eq2 hle ⊢
        have hdr : (fm_draw Q2 (fm_TT Z.1) M2).2.1 = (fm_DG Q2 (fm_TT Z.1) fm_G0).2.1 := fm_DG_n Q2 (fm_TT Z.1) (M2.2 55, M2.1 56, M2.1 57, M2.1 58)
        refine fr_callV hB _ _ dX8_sifted_64 lm_X8_207 rfl (ct_X1_draw (by omega) shC_Pl43 hr2 hw2) rfl rfl (Nat.le_of_ble_eq_true rfl) (fm_room hR (by decide) (by decide)) ?_
        rintro _ M9 ⟨rfl, hM9⟩
        rw [hM9]
        clear hM9 M9
        refine fr_ret1 ?_
        rw [hdr]
        refine fr_istore hB dX8_sifted_67 (by decide) rfl ?_
        refine fr_iload hB dX8_sifted_69 rfl ?_
        refine fr_iload hB dX8_sifted_71 rfl ?_
        generalize fm_draw Q2 (fm_TT Z.1) M2 = GG
        have hr3 : fm_PR 43 Q2 (fm_gm M2 GG.2) := hr2.kept (fun q h1 h2 => gm_1 _ _ (by omega))
        have hf4 := hf3.tr (fm_fr.gm M2 GG.2)
        generalize (fm_DG Q2 (fm_TT Z.1) fm_G0).2.1 = m at hle ⊢
        refine fr_icmp_geN (tgt := 84) hB dX8_sifted_73 (by decide) (by omega) (by omega) (fun h5 => ?_) (fun h5 => ?_)
        · rw [if_neg (by omega)]
          refine fr_iincN (b := 1) hB dX8_sifted_84 rfl (by decide) (by decide) rfl ?_
          refine fr_goto (tgt := 32) hB dX8_sifted_87 (by decide) ?_
          refine fr_lv [some (.ref (fm_rh X 0)), some (.int (nI a)), some (.long (fm_TT Z.1)), none, some (.int (nI b)), some (.int (nI f)), some (.int (nI (i + 1))), none] ⟨rfl, rfl, rfl, rfl, rfl, rfl, trivial⟩ ?_
          exact ih (i + 1) b f _ _ (by omega) hf eq2 hw2 hf4 hr3
        · rw [if_pos h5]
          refine fr_iload hB dX8_sifted_76 rfl ?_
          refine fr_istore hB dX8_sifted_78 (by decide) rfl ?_
          refine fr_iload hB dX8_sifted_80 rfl ?_
          refine fr_istore hB dX8_sifted_82 (by decide) rfl ?_
          refine fr_iincN (b := 1) hB dX8_sifted_84 rfl (by decide) (by decide) rfl ?_
          refine fr_goto (tgt := 32) hB dX8_sifted_87 (by decide) ?_
          refine fr_lv [some (.ref (fm_rh X 0)), some (.int (nI a)), some (.long (fm_TT Z.1)), none, some (.int (nI i)), some (.int (nI m)), some (.int (nI (i + 1))), none] ⟨rfl, rfl, rfl, rfl, rfl, rfl, trivial⟩ ?_
          exact ih (i + 1) i m _ _ (by omega) (by omega) eq2 hw2 hf4 hr3
  refine fr_aload_n hB dX8_sifted_0 rfl rfl ?_
  refine fr_getR hB dX8_sifted_1 lf_X8_24 rfl rfl ?_
  refine fr_aload_n hB dX8_sifted_4 rfl rfl ?_
  refine fr_getR hB dX8_sifted_5 lf_X8_14 rfl rfl ?_
  refine fr_getR hB dX8_sifted_8 lf_X8_67 rfl rfl ?_
  refine fr_callV hB _ _ dX8_sifted_11 lm_X8_196 rfl (ct_X3_copyFrom_43_2 hc.1.pl) rfl rfl (Nat.le_of_ble_eq_true rfl) (fm_room hR (by decide) (by decide)) ?_
  rintro _ _ ⟨rfl, hr9, he9, hl9⟩
  refine fr_ret0 ?_
  have hf1 := fm_tr_fr he9 hl9
  refine fr_aload_n hB dX8_sifted_14 rfl rfl ?_
  refine fr_getR hB dX8_sifted_15 lf_X8_24 rfl rfl ?_
  refine fr_callV hB _ _ dX8_sifted_18 lm_X8_200 rfl (ct_X3_topTable shC_Pl43 hr9 hw.1.1 hg) rfl rfl (Nat.le_of_ble_eq_true rfl) (fm_room hR (by decide) (by decide)) ?_
  rintro _ _ ⟨rfl, L, rfl, hL⟩
  refine fr_ret1 ?_
  refine fr_lstore_n hB dX8_sifted_21 rfl (by decide) rfl ?_
  refine fr_iconst (v := nI 0) hB dX8_sifted_22 (by decide) ?_
  refine fr_istore hB dX8_sifted_23 (by decide) rfl ?_
  refine fr_bipush (v := nI 65) hB dX8_sifted_25 (by decide) ?_
  refine fr_istore hB dX8_sifted_27 (by decide) rfl ?_
  refine fr_iconst (v := nI 0) hB dX8_sifted_29 (by decide) ?_
  refine fr_istore hB dX8_sifted_30 (by decide) rfl ?_
  exact l1 (Z.1 0 0) 0 0 65 Z.1 _ (by omega) (by omega) rfl hw.1.1 (hf1.tr (fm_fr.L (fun q hq => hL q (by omega) (by omega)))) (hr9.l L)
def sp_sift (P : fm_P) (n : Int32) : Int32 × fm_P := if fm_lt n (P 0 0) then (if P 3 0 = 0 then (-3, P) else (nI (sp_best P n.toNatClampNeg), sp_mv P n.toNatClampNeg (sp_best P n.toNatClampNeg))) else (-1, P)
theorem cc_sift {E : fm_E} {n : Int32} {Z : fm_Z} {M : fm_M} (hc : fm_CR Z M) (hw : fm_WZ Z) : fm_C shC E mX8_sift 11 [.ref (E.2.1 0), .int n] M (fun r M' => r = some (.int (sp_sift Z.1 n).1) ∧ fm_CR ((sp_sift Z.1 n).2, Z.2) M') := by
  have h6 := hw.1.1.p6
  have h8 := hw.1.1.g8
  refine fm_C.of (by decide +kernel) (Nat.le_of_ble_eq_true rfl) ?_
  intro X hE hR hB
  subst hE
  have hB : fm_B _ X cX8_sift 4 RX8 (some .int) := hB
  refine fr_lv [some (.ref (fm_rh X 0)), some (.int n), none, none] ⟨rfl, rfl, trivial⟩ ?_
  refine fr_aload_n hB dX8_sift_0 rfl rfl ?_
  refine fr_getR hB dX8_sift_1 lf_X8_14 rfl rfl ?_
  refine fr_getR hB dX8_sift_4 lf_X8_67 rfl rfl ?_
  refine fr_astore_n hB dX8_sift_7 rfl (by decide) rfl ?_
  refine fr_aload_n hB dX8_sift_8 rfl rfl ?_
  refine fr_iload_n hB dX8_sift_9 rfl rfl ?_
  refine fr_callV hB _ _ dX8_sift_10 lm_X8_94 rfl (ct_X3_hasPart shC_Pl2 hc.1.pl.parts) rfl rfl (Nat.le_of_ble_eq_true rfl) (fm_room hR (by decide) (by decide)) ?_
  rintro _ M9 ⟨rfl, hM9⟩
  rw [hM9]
  clear hM9 M9
  refine fr_ret1 ?_
  refine fr_if_neB (tgt := 18) hB dX8_sift_13 (by decide) (fun h => ?_) (fun h => ?_)
  · obtain ⟨a, ha, rfl⟩ := fm_lt_of (by omega) h
    have ea : (nI a).toNatClampNeg = a := nI_clamp (by omega)
    refine fr_aload_n hB dX8_sift_18 rfl rfl ?_
    refine fr_getI hB dX8_sift_19 lf_X8_190 rfl rfl ?_
    refine fr_eqi _ (hc.1.pl.gates) ?_
    refine fr_if_neN (tgt := 28) hB dX8_sift_22 (by decide) (by omega) (fun h2 => ?_) (fun h2 => ?_)
    · have e : sp_sift Z.1 (nI a) = (nI (sp_best Z.1 a), sp_mv Z.1 a (sp_best Z.1 a)) := by rw [sp_sift, if_pos h, if_neg (by omega), ea]
      have hb := sp_best_lt Z.1 a (by omega)
      have hpos := hw.1.1.ord.pos h6 ha
      rw [e]
      clear e
      generalize hbb : sp_best Z.1 a = bb at hb ⊢
      refine fr_aload_n hB dX8_sift_28 rfl rfl ?_
      refine fr_iload_n hB dX8_sift_29 rfl rfl ?_
      refine fr_callV hB _ _ dX8_sift_30 lm_X8_193 rfl (cc_sifted hc hw ha h2) rfl rfl (Nat.le_of_ble_eq_true rfl) (fm_room hR (by decide) (by decide)) ?_
      rintro _ _ ⟨rfl, hfr⟩
      refine fr_ret1 ?_
      rw [hbb]
      have hc2 := hc.fr hfr
      refine fr_istore_n hB dX8_sift_33 rfl (by decide) rfl ?_
      refine fr_aload_n hB dX8_sift_34 rfl rfl ?_
      refine fr_iload_n hB dX8_sift_35 rfl rfl ?_
      refine fr_iload_n hB dX8_sift_36 rfl rfl ?_
      refine fr_callV hB _ _ dX8_sift_37 lm_X8_187 rfl (ct_X3_putAt shC_Pl2 hc2.1.pl hw.1.1 ha hb) rfl rfl (Nat.le_of_ble_eq_true rfl) (fm_room hR (by decide) (by decide)) ?_
      rintro _ M9 ⟨rfl, hM9⟩
      rw [hM9]
      clear hM9 M9
      refine fr_ret1 ?_
      refine fr_pop hB dX8_sift_40 rfl ?_
      refine fr_iload_n hB dX8_sift_41 rfl rfl ?_
      exact fr_ireturn hB dX8_sift_42 (⟨rfl, hc2.now (hc2.1.mv (by omega) (by omega)) (fun c hcc => fm_row_ne _ _ (by omega)) (fun _ _ => rfl)⟩)
    · have e : sp_sift Z.1 (nI a) = (-3, Z.1) := by rw [sp_sift, if_pos h, if_pos h2]
      refine fr_bipush (v := -3) hB dX8_sift_25 (by decide) ?_
      exact fr_ireturn hB dX8_sift_27 (⟨by rw [e], by rw [e]; exact hc⟩)
  · have e : sp_sift Z.1 n = (-1, Z.1) := by rw [sp_sift, h]; rfl
    refine fr_iconst (v := -1) hB dX8_sift_16 (by decide) ?_
    exact fr_ireturn hB dX8_sift_17 (⟨by rw [e], by rw [e]; exact hc⟩)
