/-! ===== the reference: what a clause does, read ===== -/
theorem fm_obr_k (P : fm_P) (so x y e : Nat) : fm_obr P (fm_kc so (some x) (some y) (e, 0, fm_R0)) = sp_ob P (nI so) (nI x) (nI y) := rfl
theorem sp_ob_0 (P : fm_P) (x y : Int32) : sp_ob P (nI 0) x y = sp_part P x := if_pos rfl
theorem sp_ob_1 (P : fm_P) (x y : Int32) : sp_ob P (nI 1) x y = sp_gate P x y := by rw [sp_ob, if_neg (by decide), if_pos rfl]
theorem sp_ob_2 (P : fm_P) (x y : Int32) : sp_ob P (nI 2) x y = sp_join P x true y := by rw [sp_ob, if_neg (by decide), if_neg (by decide), if_pos rfl]
theorem sp_ob_3 (P : fm_P) (x y : Int32) : sp_ob P (nI 3) x y = sp_join P x false y := by rw [sp_ob, if_neg (by decide), if_neg (by decide), if_neg (by decide), if_pos rfl]
theorem sp_ob_4 (P : fm_P) (x y : Int32) : sp_ob P (nI 4) x y = sp_cause P x y := by rw [sp_ob, if_neg (by decide), if_neg (by decide), if_neg (by decide), if_neg (by decide), if_pos rfl]
theorem fm_pca_is {f : Nat → Nat} {z a : Nat} (h : (fm_pca f z (a, 0, fm_R0)).1 = true) : ∃ o B e, (fm_dg f z 3 none a).1 = some o ∧ fm_pcl f z 4 0 ((fm_dg f z 3 none a).2, 0, fm_R0) = (some B, (e, 0, fm_R0)) ∧ fm_pca f z (a, 0, fm_R0) = fm_kc 4 (some o) (some B) (e, 0, fm_R0) := by
  have e0 : fm_pca f z (a, 0, fm_R0) = match (fm_dg f z 3 none a).1 with
    | none => (false, ((fm_dg f z 3 none a).2, 0, fm_R0))
    | some o => match fm_pcl f z 4 0 ((fm_dg f z 3 none a).2, 0, fm_R0) with
      | (none, S2) => (false, S2)
      | (some b, S2) => if b = 0 then (false, S2) else fm_kc 4 (some o) (some b) S2 := rfl
  rw [e0] at h ⊢
  clear e0
  have el := fm_pcl_lift f z (0, fm_R0) 4 0 (fm_dg f z 3 none a).2
  generalize fm_pcl f z 4 0 ((fm_dg f z 3 none a).2, 0, fm_R0) = q at h el ⊢
  cases hd : (fm_dg f z 3 none a).1 with
  | none => rw [hd] at h; exact absurd (show false = true from h) (by decide)
  | some o =>
    rw [hd] at h
    obtain ⟨o2, b2, q3⟩ := q
    cases o2 with
    | none => exact absurd (show false = true from h) (by decide)
    | some b =>
      have h : (if b = 0 then (false, (b2, q3)) else fm_kc 4 (some o) (some b) (b2, q3)).1 = true := h
      have e3 : q3 = (0, fm_R0) := congrArg (fun q => q.2.2) el
      subst e3
      by_cases hb : b = 0
      · rw [if_pos hb] at h; exact absurd (show false = true from h) (by decide)
      · exact ⟨o, b, b2, rfl, rfl, if_neg hb⟩
theorem mm_does {E : fm_E} {a e : Nat} {Z : fm_Z} {M : fm_M} (hm : fm_MR Z M) (hw : fm_WZ Z) (ha : a ≤ 100) (hok : (fm_c1 Z.2.2.1 Z.2.2.2.1 a).1 = true) (he : (fm_c1 Z.2.2.1 Z.2.2.2.1 a).2.1 = e) : fm_C shM E mX9_does 3 [.ref (E.2.1 0), .int (nI a), .int (nI e)] M (fun r M' => r = some (.int (fm_ib (!decide ((fm_obr Z.1 (fm_c1 Z.2.2.1 Z.2.2.2.1 a)).1 < 0)))) ∧ fm_MR ((fm_obr Z.1 (fm_c1 Z.2.2.1 Z.2.2.2.1 a)).2, Z.2) M') := by
  have ht := hm.2.2.1
  have hle := fm_c1_le (f := Z.2.2.1) ht.2.1 ha
  generalize Z.2.2.1 = f at ht hok he hle ⊢
  generalize Z.2.2.2.1 = z at ht hok he hle ⊢
  have hz100 := ht.2.1
  obtain ⟨hz, hs⟩ := fm_ok_six hok
  have hbd := fm_dg_b f z 3 none (a + 1)
  refine fm_C.of (by decide +kernel) (Nat.le_of_ble_eq_true rfl) ?_
  intro X hE hR hB
  subst hE
  have hB : fm_B _ X cX9_does 6 RX9 (some .boolean) := hB
  refine fr_lv [some (.ref (fm_rh X 0)), some (.int (nI a)), some (.int (nI e)), none, none, none] ⟨rfl, rfl, rfl, trivial⟩ ?_
  refine fr_aload_n hB dX9_does_0 rfl rfl ?_
  refine fr_iload_n hB dX9_does_1 rfl rfl ?_
  refine fr_iconst (v := nI 1) hB dX9_does_2 (by decide) ?_
  refine fr_iaddN hB dX9_does_3 ?_
  refine fr_callV hB _ _ dX9_does_4 lm_X9_141 rfl (ct_X9_behindOdds ht (by omega)) rfl rfl (Nat.le_of_ble_eq_true rfl) (fm_room hR (by decide) (by decide)) ?_
  rintro _ M9 ⟨rfl, hM9⟩
  rw [hM9]
  clear hM9 M9
  refine fr_ret1 ?_
  refine fr_istore_n hB dX9_does_7 rfl (by decide) rfl ?_
  refine fr_aload_n hB dX9_does_8 rfl rfl ?_
  refine fr_getR hB dX9_does_9 lf_X9_52 rfl rfl ?_
  refine fr_iload_n hB dX9_does_12 rfl rfl ?_
  refine fr_iald hB (_) dX9_does_13 rfl (rfl) (by omega) (by decide) ?_
  refine fr_eqi (nI (f a)) ((ht.2.2 a hz).1) ?_
  rcases hs with h | h | h | h | h | h
  · rcases fm_dg_no f z (a + 1) with ⟨q1, q2⟩ | ⟨v, q1, q2⟩
    · rw [fm_c1, fm_pc1_p (0, fm_R0) ⟨hz, h⟩, q1] at hok
      exact absurd (show false = true from hok) (by decide)
    · have ec : fm_c1 f z a = fm_kc 0 (some (fm_oN (fm_dg f z 3 none (a + 1)).1)) (some 0) ((fm_dg f z 3 none (a + 1)).2, 0, fm_R0) := by
        rw [fm_c1, fm_pc1_p (0, fm_R0) ⟨hz, h⟩, q1]; rfl
      rw [ec] at he ⊢
      rw [fm_obr_k, sp_ob_0]
      have he : (fm_dg f z 3 none (a + 1)).2 = e := he
      subst he
      refine fr_eqi (nI 112) (by rw [h]) ?_
      refine fr_lookup (tgt := 64) (off := 50) hB dX9_does_14 (by decide) (by decide) (by decide) ?_
      refine fr_aload_n hB dX9_does_64 rfl rfl ?_
      refine fr_aload_n hB dX9_does_65 rfl rfl ?_
      refine fr_iload_n hB dX9_does_66 rfl rfl ?_
      refine fr_iconst (v := nI 1) hB dX9_does_67 (by decide) ?_
      refine fr_iaddN hB dX9_does_68 ?_
      refine fr_iload_n hB dX9_does_69 rfl rfl ?_
      refine fr_callV hB _ _ dX9_does_70 lm_X9_150 rfl (ct_X9_number (d := 3) ht (by omega) (by omega)) rfl rfl (Nat.le_of_ble_eq_true rfl) (fm_room hR (by decide) (by decide)) ?_
      rintro _ M9 ⟨rfl, hM9⟩
      rw [hM9]
      clear hM9 M9
      refine fr_ret1 ?_
      refine fr_callV hB _ _ dX9_does_73 lm_X9_153 rfl (mm_part hm hw) rfl rfl (Nat.le_of_ble_eq_true rfl) (fm_room hR (by decide) (by decide)) ?_
      rintro _ _ ⟨rfl, hm2⟩
      refine fr_ret1 ?_
      refine fr_if_lt (tgt := 83) hB dX9_does_76 (by decide) (fun h5 => ?_) (fun h5 => ?_)
      · refine fr_iconst (v := nI 0) hB dX9_does_83 (by decide) ?_
        exact fr_zreturn hB dX9_does_84 (by first | exact fm_nar0 | exact fm_nar1 | exact fm_nar _) (⟨by rw [decide_eq_true h5]; rfl, hm2⟩)
      · refine fr_iconst (v := nI 1) hB dX9_does_79 (by decide) ?_
        refine fr_goto (tgt := 84) hB dX9_does_80 (by decide) ?_
        exact fr_zreturn hB dX9_does_84 (by first | exact fm_nar0 | exact fm_nar1 | exact fm_nar _) (⟨by rw [decide_eq_false h5]; rfl, hm2⟩)
  · have ec : fm_c1 f z a = fm_kc 1 (some 0) (some 0) (a + 1, 0, fm_R0) := fm_pc1_a (0, fm_R0) ⟨hz, h⟩
    rw [ec, fm_obr_k, sp_ob_1]
    refine fr_eqi (nI 97) (by rw [h]) ?_
    refine fr_lookup (tgt := 85) (off := 71) hB dX9_does_14 (by decide) (by decide) (by decide) ?_
    refine fr_aload_n hB dX9_does_85 rfl rfl ?_
    refine fr_iconst (v := nI 0) hB dX9_does_86 (by decide) ?_
    refine fr_iconst (v := nI 0) hB dX9_does_87 (by decide) ?_
    refine fr_callV hB _ _ dX9_does_88 lm_X9_156 rfl (mm_gate hm hw) rfl rfl (Nat.le_of_ble_eq_true rfl) (fm_room hR (by decide) (by decide)) ?_
    rintro _ _ ⟨rfl, hm2⟩
    refine fr_ret1 ?_
    refine fr_if_lt (tgt := 98) hB dX9_does_91 (by decide) (fun h5 => ?_) (fun h5 => ?_)
    · refine fr_iconst (v := nI 0) hB dX9_does_98 (by decide) ?_
      exact fr_zreturn hB dX9_does_99 (by first | exact fm_nar0 | exact fm_nar1 | exact fm_nar _) (⟨by rw [decide_eq_true h5]; rfl, hm2⟩)
    · refine fr_iconst (v := nI 1) hB dX9_does_94 (by decide) ?_
      refine fr_goto (tgt := 99) hB dX9_does_95 (by decide) ?_
      exact fr_zreturn hB dX9_does_99 (by first | exact fm_nar0 | exact fm_nar1 | exact fm_nar _) (⟨by rw [decide_eq_false h5]; rfl, hm2⟩)
  · have ec : fm_c1 f z a = fm_kc 1 (some 1) (some 0) (a + 1, 0, fm_R0) := fm_pc1_o (0, fm_R0) ⟨hz, h⟩
    rw [ec, fm_obr_k, sp_ob_1]
    refine fr_eqi (nI 111) (by rw [h]) ?_
    refine fr_lookup (tgt := 100) (off := 86) hB dX9_does_14 (by decide) (by decide) (by decide) ?_
    refine fr_aload_n hB dX9_does_100 rfl rfl ?_
    refine fr_iconst (v := nI 1) hB dX9_does_101 (by decide) ?_
    refine fr_iconst (v := nI 0) hB dX9_does_102 (by decide) ?_
    refine fr_callV hB _ _ dX9_does_103 lm_X9_156 rfl (mm_gate hm hw) rfl rfl (Nat.le_of_ble_eq_true rfl) (fm_room hR (by decide) (by decide)) ?_
    rintro _ _ ⟨rfl, hm2⟩
    refine fr_ret1 ?_
    refine fr_if_lt (tgt := 113) hB dX9_does_106 (by decide) (fun h5 => ?_) (fun h5 => ?_)
    · refine fr_iconst (v := nI 0) hB dX9_does_113 (by decide) ?_
      exact fr_zreturn hB dX9_does_114 (by first | exact fm_nar0 | exact fm_nar1 | exact fm_nar _) (⟨by rw [decide_eq_true h5]; rfl, hm2⟩)
    · refine fr_iconst (v := nI 1) hB dX9_does_109 (by decide) ?_
      refine fr_goto (tgt := 114) hB dX9_does_110 (by decide) ?_
      exact fr_zreturn hB dX9_does_114 (by first | exact fm_nar0 | exact fm_nar1 | exact fm_nar _) (⟨by rw [decide_eq_false h5]; rfl, hm2⟩)
  · have hd : a + 1 < z ∧ fm_isd (f (a + 1)) = true := by
      refine Decidable.byContradiction fun q => ?_
      rw [fm_c1, fm_pc1_s (0, fm_R0) ⟨hz, h⟩, fm_dgS, if_neg q] at hok
      exact absurd (show false = true from hok) (by decide)
    obtain ⟨hd1, hd2⟩ := hd
    have hd3 := fm_isd_b hd2
    have ec : fm_c1 f z a = fm_kc 1 (some 2) (some (f (a + 1) - 48)) (a + 2, 0, fm_R0) := by
      rw [fm_c1, fm_pc1_s (0, fm_R0) ⟨hz, h⟩, fm_dgS, if_pos ⟨hd1, hd2⟩]
    rw [ec, fm_obr_k, sp_ob_1]
    refine fr_eqi (nI 115) (by rw [h]) ?_
    refine fr_lookup (tgt := 115) (off := 101) hB dX9_does_14 (by decide) (by decide) (by decide) ?_
    refine fr_aload_n hB dX9_does_115 rfl rfl ?_
    refine fr_iconst (v := nI 2) hB dX9_does_116 (by decide) ?_
    refine fr_aload_n hB dX9_does_117 rfl rfl ?_
    refine fr_getR hB dX9_does_118 lf_X9_52 rfl rfl ?_
    refine fr_iload_n hB dX9_does_121 rfl rfl ?_
    refine fr_iconst (v := nI 1) hB dX9_does_122 (by decide) ?_
    refine fr_iaddN hB dX9_does_123 ?_
    refine fr_iald hB (_) dX9_does_124 rfl (rfl) (by omega) (by decide) ?_
    refine fr_eqi (nI (f (a + 1))) ((ht.2.2 _ hd1).1) ?_
    refine fr_bipush (v := nI 48) hB dX9_does_125 (by decide) ?_
    refine fr_isubN hB dX9_does_127 (by omega) ?_
    refine fr_callV hB _ _ dX9_does_128 lm_X9_156 rfl (mm_gate hm hw) rfl rfl (Nat.le_of_ble_eq_true rfl) (fm_room hR (by decide) (by decide)) ?_
    rintro _ _ ⟨rfl, hm2⟩
    refine fr_ret1 ?_
    refine fr_if_lt (tgt := 138) hB dX9_does_131 (by decide) (fun h5 => ?_) (fun h5 => ?_)
    · refine fr_iconst (v := nI 0) hB dX9_does_138 (by decide) ?_
      exact fr_zreturn hB dX9_does_139 (by first | exact fm_nar0 | exact fm_nar1 | exact fm_nar _) (⟨by rw [decide_eq_true h5]; rfl, hm2⟩)
    · refine fr_iconst (v := nI 1) hB dX9_does_134 (by decide) ?_
      refine fr_goto (tgt := 139) hB dX9_does_135 (by decide) ?_
      exact fr_zreturn hB dX9_does_139 (by first | exact fm_nar0 | exact fm_nar1 | exact fm_nar _) (⟨by rw [decide_eq_false h5]; rfl, hm2⟩)
  · have hj := fm_pc1_j (0, fm_R0) (f := f) (z := z) (a := a) ⟨hz, h⟩
    have hd : a + 1 < z ∧ fm_isd (f (a + 1)) = true := by
      refine Decidable.byContradiction fun q => ?_
      rw [fm_c1, hj, fm_pin_0 (0, fm_R0) q] at hok
      exact absurd (show false = true from hok) (by decide)
    have hpg : (a + 1 + 1 < z ∧ f (a + 1 + 1) = 112) ∨ (a + 1 + 1 < z ∧ f (a + 1 + 1) = 103) := by
      refine Decidable.byContradiction fun q => ?_
      rw [fm_c1, hj, fm_pin_1 (0, fm_R0) hd (fun w => q (Or.inl w)) (fun w => q (Or.inr w))] at hok
      exact absurd (show false = true from hok) (by decide)
    have hd4 : a + 3 < z ∧ fm_isd (f (a + 3)) = true := by
      refine Decidable.byContradiction fun q => ?_
      rcases hpg with w | w
      · rw [fm_c1, hj, fm_pin_p (0, fm_R0) hd w, fm_dgS, if_neg q] at hok
        exact absurd (show false = true from hok) (by decide)
      · rw [fm_c1, hj, fm_pin_g (0, fm_R0) hd w, fm_dgS, if_neg q] at hok
        exact absurd (show false = true from hok) (by decide)
    have hdb := fm_isd_b hd.2
    have hdb4 := fm_isd_b hd4.2
    have hd1 := hd.1
    have hd41 := hd4.1
    refine fr_eqi (nI 106) (by rw [h]) ?_
    refine fr_lookup (tgt := 140) (off := 126) hB dX9_does_14 (by decide) (by decide) (by decide) ?_
    rcases hpg with w | w
    · have ec : fm_c1 f z a = fm_kc 2 (some (f (a + 1) - 48)) (some (f (a + 3) - 48)) (a + 4, 0, fm_R0) := by
        rw [fm_c1, hj, fm_pin_p (0, fm_R0) hd w, fm_dgS, if_pos hd4]
      rw [ec, fm_obr_k, sp_ob_2]
      have hw1 := w.1
      have hw2 : f (a + 2) = 112 := w.2
      refine fr_aload_n hB dX9_does_140 rfl rfl ?_
      refine fr_aload_n hB dX9_does_141 rfl rfl ?_
      refine fr_getR hB dX9_does_142 lf_X9_52 rfl rfl ?_
      refine fr_iload_n hB dX9_does_145 rfl rfl ?_
      refine fr_iconst (v := nI 1) hB dX9_does_146 (by decide) ?_
      refine fr_iaddN hB dX9_does_147 ?_
      refine fr_iald hB (_) dX9_does_148 rfl (rfl) (by omega) (by decide) ?_
      refine fr_eqi (nI (f (a + 1))) ((ht.2.2 _ hd1).1) ?_
      refine fr_bipush (v := nI 48) hB dX9_does_149 (by decide) ?_
      refine fr_isubN hB dX9_does_151 (by omega) ?_
      refine fr_aload_n hB dX9_does_152 rfl rfl ?_
      refine fr_getR hB dX9_does_153 lf_X9_52 rfl rfl ?_
      refine fr_iload_n hB dX9_does_156 rfl rfl ?_
      refine fr_iconst (v := nI 2) hB dX9_does_157 (by decide) ?_
      refine fr_iaddN hB dX9_does_158 ?_
      refine fr_iald hB (_) dX9_does_159 rfl (rfl) (by omega) (by decide) ?_
      refine fr_eqi (nI (f (a + 2))) ((ht.2.2 _ w.1).1) ?_
      refine fr_bipush (v := nI 112) hB dX9_does_160 (by decide) ?_
      refine fr_icmp_neN (tgt := 169) hB dX9_does_162 (by decide) (by omega) (by omega) (fun h6 => ?_) (fun h6 => ?_)
      · exact absurd hw2 h6
      · refine fr_iconst (v := nI 1) hB dX9_does_165 (by decide) ?_
        refine fr_eqi (fm_ib true) rfl ?_
        refine fr_goto (tgt := 170) hB dX9_does_166 (by decide) ?_
        refine fr_aload_n hB dX9_does_170 rfl rfl ?_
        refine fr_getR hB dX9_does_171 lf_X9_52 rfl rfl ?_
        refine fr_iload_n hB dX9_does_174 rfl rfl ?_
        refine fr_iconst (v := nI 3) hB dX9_does_175 (by decide) ?_
        refine fr_iaddN hB dX9_does_176 ?_
        refine fr_iald hB (_) dX9_does_177 rfl (rfl) (by omega) (by decide) ?_
        refine fr_eqi (nI (f (a + 3))) ((ht.2.2 _ hd41).1) ?_
        refine fr_bipush (v := nI 48) hB dX9_does_178 (by decide) ?_
        refine fr_isubN hB dX9_does_180 (by omega) ?_
        refine fr_callV hB _ _ dX9_does_181 lm_X9_159 rfl (mm_join hm hw) rfl rfl (Nat.le_of_ble_eq_true rfl) (fm_room hR (by decide) (by decide)) ?_
        rintro _ _ ⟨rfl, hm2⟩
        refine fr_ret1 ?_
        refine fr_if_lt (tgt := 191) hB dX9_does_184 (by decide) (fun h5 => ?_) (fun h5 => ?_)
        · refine fr_iconst (v := nI 0) hB dX9_does_191 (by decide) ?_
          exact fr_zreturn hB dX9_does_192 (by first | exact fm_nar0 | exact fm_nar1 | exact fm_nar _) (⟨by rw [decide_eq_true h5]; rfl, hm2⟩)
        · refine fr_iconst (v := nI 1) hB dX9_does_187 (by decide) ?_
          refine fr_goto (tgt := 192) hB dX9_does_188 (by decide) ?_
          exact fr_zreturn hB dX9_does_192 (by first | exact fm_nar0 | exact fm_nar1 | exact fm_nar _) (⟨by rw [decide_eq_false h5]; rfl, hm2⟩)
    · have ec : fm_c1 f z a = fm_kc 3 (some (f (a + 1) - 48)) (some (f (a + 3) - 48)) (a + 4, 0, fm_R0) := by
        rw [fm_c1, hj, fm_pin_g (0, fm_R0) hd w, fm_dgS, if_pos hd4]
      rw [ec, fm_obr_k, sp_ob_3]
      have hw1 := w.1
      have hw2 : f (a + 2) = 103 := w.2
      refine fr_aload_n hB dX9_does_140 rfl rfl ?_
      refine fr_aload_n hB dX9_does_141 rfl rfl ?_
      refine fr_getR hB dX9_does_142 lf_X9_52 rfl rfl ?_
      refine fr_iload_n hB dX9_does_145 rfl rfl ?_
      refine fr_iconst (v := nI 1) hB dX9_does_146 (by decide) ?_
      refine fr_iaddN hB dX9_does_147 ?_
      refine fr_iald hB (_) dX9_does_148 rfl (rfl) (by omega) (by decide) ?_
      refine fr_eqi (nI (f (a + 1))) ((ht.2.2 _ hd1).1) ?_
      refine fr_bipush (v := nI 48) hB dX9_does_149 (by decide) ?_
      refine fr_isubN hB dX9_does_151 (by omega) ?_
      refine fr_aload_n hB dX9_does_152 rfl rfl ?_
      refine fr_getR hB dX9_does_153 lf_X9_52 rfl rfl ?_
      refine fr_iload_n hB dX9_does_156 rfl rfl ?_
      refine fr_iconst (v := nI 2) hB dX9_does_157 (by decide) ?_
      refine fr_iaddN hB dX9_does_158 ?_
      refine fr_iald hB (_) dX9_does_159 rfl (rfl) (by omega) (by decide) ?_
      refine fr_eqi (nI (f (a + 2))) ((ht.2.2 _ w.1).1) ?_
      refine fr_bipush (v := nI 112) hB dX9_does_160 (by decide) ?_
      refine fr_icmp_neN (tgt := 169) hB dX9_does_162 (by decide) (by omega) (by omega) (fun h6 => ?_) (fun h6 => ?_)
      · refine fr_iconst (v := nI 0) hB dX9_does_169 (by decide) ?_
        refine fr_eqi (fm_ib false) rfl ?_
        refine fr_aload_n hB dX9_does_170 rfl rfl ?_
        refine fr_getR hB dX9_does_171 lf_X9_52 rfl rfl ?_
        refine fr_iload_n hB dX9_does_174 rfl rfl ?_
        refine fr_iconst (v := nI 3) hB dX9_does_175 (by decide) ?_
        refine fr_iaddN hB dX9_does_176 ?_
        refine fr_iald hB (_) dX9_does_177 rfl (rfl) (by omega) (by decide) ?_
        refine fr_eqi (nI (f (a + 3))) ((ht.2.2 _ hd41).1) ?_
        refine fr_bipush (v := nI 48) hB dX9_does_178 (by decide) ?_
        refine fr_isubN hB dX9_does_180 (by omega) ?_
        refine fr_callV hB _ _ dX9_does_181 lm_X9_159 rfl (mm_join hm hw) rfl rfl (Nat.le_of_ble_eq_true rfl) (fm_room hR (by decide) (by decide)) ?_
        rintro _ _ ⟨rfl, hm2⟩
        refine fr_ret1 ?_
        refine fr_if_lt (tgt := 191) hB dX9_does_184 (by decide) (fun h5 => ?_) (fun h5 => ?_)
        · refine fr_iconst (v := nI 0) hB dX9_does_191 (by decide) ?_
          exact fr_zreturn hB dX9_does_192 (by first | exact fm_nar0 | exact fm_nar1 | exact fm_nar _) (⟨by rw [decide_eq_true h5]; rfl, hm2⟩)
        · refine fr_iconst (v := nI 1) hB dX9_does_187 (by decide) ?_
          refine fr_goto (tgt := 192) hB dX9_does_188 (by decide) ?_
          exact fr_zreturn hB dX9_does_192 (by first | exact fm_nar0 | exact fm_nar1 | exact fm_nar _) (⟨by rw [decide_eq_false h5]; rfl, hm2⟩)
      · exact absurd h6 (by omega)
  · have hc1 := fm_pc1_c (0, fm_R0) (f := f) (z := z) (a := a) ⟨hz, h⟩
    obtain ⟨o, B, e2, c1, c2, c3⟩ := fm_pca_is (show (fm_pca f z (a + 1, 0, fm_R0)).1 = true by rw [← hc1]; exact hok)
    have ec : fm_c1 f z a = fm_kc 4 (some (fm_oN (fm_dg f z 3 none (a + 1)).1)) (some B) (e2, 0, fm_R0) := by
      rw [fm_c1, hc1, c3, c1]; rfl
    rw [ec] at he hle ⊢
    have he : e2 = e := he
    have hle : e2 ≤ 100 := hle
    subst he
    rw [fm_obr_k, sp_ob_4]
    refine fr_eqi (nI 99) (by rw [h]) ?_
    refine fr_lookup (tgt := 193) (off := 179) hB dX9_does_14 (by decide) (by decide) (by decide) ?_
    have tail : fm_W shM X 6 230 [some (.ref (fm_rh X 0)), some (.int (nI a)), some (.int (nI e2)), some (.int (nI (fm_dg f z 3 none (a + 1)).2)), some (.int (nI B)), none] [] M (fm_Q shM X (fun r M' => r = some (.int (fm_ib (!decide ((sp_cause Z.1 (nI (fm_oN (fm_dg f z 3 none (a + 1)).1)) (nI B)).1 < 0)))) ∧ fm_MR ((sp_cause Z.1 (nI (fm_oN (fm_dg f z 3 none (a + 1)).1)) (nI B)).2, Z.2) M')) := by
      refine fr_aload_n hB dX9_does_230 rfl rfl ?_
      refine fr_aload_n hB dX9_does_231 rfl rfl ?_
      refine fr_iload_n hB dX9_does_232 rfl rfl ?_
      refine fr_iconst (v := nI 1) hB dX9_does_233 (by decide) ?_
      refine fr_iaddN hB dX9_does_234 ?_
      refine fr_iload_n hB dX9_does_235 rfl rfl ?_
      refine fr_callV hB _ _ dX9_does_236 lm_X9_150 rfl (ct_X9_number (d := 3) ht (by omega) (by omega)) rfl rfl (Nat.le_of_ble_eq_true rfl) (fm_room hR (by decide) (by decide)) ?_
      rintro _ M9 ⟨rfl, hM9⟩
      rw [hM9]
      clear hM9 M9
      refine fr_ret1 ?_
      refine fr_iload hB dX9_does_239 rfl ?_
      refine fr_callV hB _ _ dX9_does_241 lm_X9_163 rfl (mm_cause hm hw) rfl rfl (Nat.le_of_ble_eq_true rfl) (fm_room hR (by decide) (by decide)) ?_
      rintro _ _ ⟨rfl, hm2⟩
      refine fr_ret1 ?_
      refine fr_if_lt (tgt := 251) hB dX9_does_244 (by decide) (fun h5 => ?_) (fun h5 => ?_)
      · refine fr_iconst (v := nI 0) hB dX9_does_251 (by decide) ?_
        exact fr_zreturn hB dX9_does_252 (by first | exact fm_nar0 | exact fm_nar1 | exact fm_nar _) (⟨by rw [decide_eq_true h5]; rfl, hm2⟩)
      · refine fr_iconst (v := nI 1) hB dX9_does_247 (by decide) ?_
        refine fr_goto (tgt := 252) hB dX9_does_248 (by decide) ?_
        exact fr_zreturn hB dX9_does_252 (by first | exact fm_nar0 | exact fm_nar1 | exact fm_nar _) (⟨by rw [decide_eq_false h5]; rfl, hm2⟩)
    generalize fm_Q shM X (fun r M' => r = some (.int (fm_ib (!decide ((sp_cause Z.1 (nI (fm_oN (fm_dg f z 3 none (a + 1)).1)) (nI B)).1 < 0)))) ∧ fm_MR ((sp_cause Z.1 (nI (fm_oN (fm_dg f z 3 none (a + 1)).1)) (nI B)).2, Z.2) M') = QQ at tail ⊢
    have l1 : ∀ (n b i : Nat), fm_pcl f z n b (i, 0, fm_R0) = (some B, (e2, 0, fm_R0)) → fm_W shM X 6 199 [some (.ref (fm_rh X 0)), some (.int (nI a)), some (.int (nI e2)), some (.int (nI (fm_dg f z 3 none (a + 1)).2)), some (.int (nI b)), some (.int (nI i))] [] M QQ := by
      have stop : ∀ b i : Nat, b = B → i = e2 → fm_W shM X 6 199 [some (.ref (fm_rh X 0)), some (.int (nI a)), some (.int (nI e2)), some (.int (nI (fm_dg f z 3 none (a + 1)).2)), some (.int (nI b)), some (.int (nI i))] [] M QQ := by
        intro b i hb hi
        subst hb hi
        refine fr_iload hB dX9_does_199 rfl ?_
        refine fr_iload_n hB dX9_does_201 rfl rfl ?_
        refine fr_icmp_geN (tgt := 230) hB dX9_does_202 (by decide) (by omega) (by omega) (fun h6 => ?_) (fun h6 => ?_)
        · refine fr_lv [some (.ref (fm_rh X 0)), some (.int (nI a)), some (.int (nI i)), some (.int (nI (fm_dg f z 3 none (a + 1)).2)), some (.int (nI b)), none] ⟨rfl, rfl, rfl, rfl, rfl, trivial⟩ ?_
          exact tail
        · exact absurd h6 (by omega)
      intro n
      induction n with
      | zero =>
        intro b i hp
        exact stop b i (Option.some.inj (congrArg Prod.fst hp)) (congrArg (fun q => q.2.1) hp)
      | succ n ih =>
        intro b i hp
        by_cases w1 : i < z ∧ f i = 112
        · by_cases w2 : i + 1 < z ∧ fm_isd (f (i + 1)) = true
          · rw [fm_pcl_2 (0, fm_R0) n b w1 w2] at hp
            have hge := fm_pcl_ge f z (0, fm_R0) n (b ||| 2 ^ (f (i + 1) - 48)) (i + 2)
            rw [hp] at hge
            have hge : i + 2 ≤ e2 := hge
            have hdb := fm_isd_b w2.2
            have w21 := w2.1
            refine fr_iload hB dX9_does_199 rfl ?_
            refine fr_iload_n hB dX9_does_201 rfl rfl ?_
            refine fr_icmp_geN (tgt := 230) hB dX9_does_202 (by decide) (by omega) (by omega) (fun h6 => ?_) (fun h6 => ?_)
            · exact absurd h6 (by omega)
            · refine fr_iload hB dX9_does_205 rfl ?_
              refine fr_iconst (v := nI 1) hB dX9_does_207 (by decide) ?_
              refine fr_aload_n hB dX9_does_208 rfl rfl ?_
              refine fr_getR hB dX9_does_209 lf_X9_52 rfl rfl ?_
              refine fr_iload hB dX9_does_212 rfl ?_
              refine fr_iconst (v := nI 1) hB dX9_does_214 (by decide) ?_
              refine fr_iaddN hB dX9_does_215 ?_
              refine fr_iald hB (_) dX9_does_216 rfl (rfl) (by omega) (by decide) ?_
              refine fr_eqi (nI (f (i + 1))) ((ht.2.2 _ w21).1) ?_
              refine fr_bipush (v := nI 48) hB dX9_does_217 (by decide) ?_
              refine fr_isubN hB dX9_does_219 (by omega) ?_
              refine fr_ishl hB dX9_does_220 ?_
              refine fr_eqi (nI (2 ^ (f (i + 1) - 48))) (fm_shl9 (by omega)) ?_
              refine fr_ior hB dX9_does_221 ?_
              refine fr_eqi (nI (b ||| 2 ^ (f (i + 1) - 48))) (nI_or b _) ?_
              refine fr_istore hB dX9_does_222 (by decide) rfl ?_
              refine fr_iincN (b := 2) hB dX9_does_224 rfl (by decide) (by decide) rfl ?_
              refine fr_goto (tgt := 199) hB dX9_does_227 (by decide) ?_
              exact ih _ _ hp
          · rw [fm_pcl_1 (0, fm_R0) n b w1 w2] at hp
            exact absurd (congrArg Prod.fst hp) (by simp)
        · rw [fm_pcl_0 (0, fm_R0) n b w1] at hp
          exact stop b i (Option.some.inj (congrArg Prod.fst hp)) (congrArg (fun q => q.2.1) hp)
    refine fr_iconst (v := nI 0) hB dX9_does_193 (by decide) ?_
    refine fr_istore hB dX9_does_194 (by decide) rfl ?_
    refine fr_iload_n hB dX9_does_196 rfl rfl ?_
    refine fr_istore hB dX9_does_197 (by decide) rfl ?_
    exact l1 4 0 _ c2
theorem fm_lift_rows (q : Bool × fm_TS) (T : Nat × (Nat → Int32) × (Nat → Int32) × (Nat → Int32)) : T.1 ≤ (fm_lift q T).2.2.1 ∧ ∀ j, j < T.1 → (fm_lift q T).2.2.2.1 j = T.2.1 j ∧ (fm_lift q T).2.2.2.2.1 j = T.2.2.1 j ∧ (fm_lift q T).2.2.2.2.2 j = T.2.2.2 j := by
  unfold fm_lift
  cases hq : q.1 with
  | true =>
    refine ⟨Nat.le_succ _, fun j hj => ?_⟩
    have : ¬ j = T.1 := by omega
    simp [fm_up, this]
  | false => exact ⟨Nat.le_refl _, fun j hj => ⟨rfl, rfl, rfl⟩⟩
theorem fm_par_rows (f : Nat → Nat) (z : Nat) : ∀ d a (T : Nat × (Nat → Int32) × (Nat → Int32) × (Nat → Int32)), T.1 + d ≤ 16 → T.1 ≤ (fm_par f z d (a, T)).2.2.1 ∧ ∀ j, j < T.1 → (fm_par f z d (a, T)).2.2.2.1 j = T.2.1 j ∧ (fm_par f z d (a, T)).2.2.2.2.1 j = T.2.2.1 j ∧ (fm_par f z d (a, T)).2.2.2.2.2 j = T.2.2.2 j := by
  intro d
  induction d with
  | zero => intro a T hT; exact ⟨Nat.le_refl _, fun j hj => ⟨rfl, rfl, rfl⟩⟩
  | succ d ih =>
    intro a T hT
    rw [fm_par_1 (show T.1 < 16 by omega)]
    have hl := fm_lift_rows (fm_c1 f z a) T
    split
    · rename_i hq
      split
      · exact hl
      · split
        · exact hl
        · split
          · have hn : (fm_lift (fm_c1 f z a) T).2.2.1 = T.1 + 1 := by rw [fm_lift_n hq]
            have h2 := ih ((fm_c1 f z a).2.1 + 1) (fm_lift (fm_c1 f z a) T).2.2 (by omega)
            refine ⟨by omega, fun j hj => ?_⟩
            have h3 := h2.2 j (by omega)
            have h4 := hl.2 j hj
            exact ⟨h3.1.trans h4.1, h3.2.1.trans h4.2.1, h3.2.2.trans h4.2.2⟩
          · exact hl
    · exact hl
theorem fm_MR.re {P : fm_P} {Z : fm_Z} {M : fm_M} (h : fm_MR (P, Z.2) M) : fm_MR (fm_re Z P) (fm_pi M 0 19 (nI 0)) := by
  refine ⟨h.1.kept (fun a h1 h2 => fm_u_ne _ _ _ (by omega)) (fun j hj => ?_), h.2.1.mf ?_ (fm_u_ne M.1 19 (nI 0) (show (21 : Nat) ≠ 0 by omega)), ⟨by simp [fm_u, fm_re], by show 0 ≤ 100; omega, fun j hj => absurd (show j < 0 from hj) (by omega)⟩, h.2.2.2.mf (fm_u_ne M.1 19 (nI 0) (show (22 : Nat) ≠ 0 by omega)) (fm_u_ne M.1 19 (nI 0) (show (23 : Nat) ≠ 0 by omega)) rfl⟩
  · show fm_u M.1 0 19 (nI 0) 0 j = _
    rw [fm_u_at, if_neg (by omega)]
  · show fm_u M.1 0 19 (nI 0) 0 30 = _
    rw [fm_u_at, if_neg (by omega)]
theorem fm_rdl_1 (S : fm_TS) {k i : Nat} (P : fm_P) (n : Nat) {q : Bool × fm_TS} (h1 : S.2.2.1 i = q.2.2.2.1 0) (h2 : S.2.2.2.1 i = q.2.2.2.2.1 0) (h3 : S.2.2.2.2 i = q.2.2.2.2.2 0) : fm_rdl S (k + 1) i P n = fm_rdl S k (i + 1) (fm_obr P q).2 (if (fm_obr P q).1 < 0 then n else n + 1) := by
  rw [fm_rdl, h1, h2, h3]
  rfl
theorem mm_read {E : fm_E} {Z : fm_Z} {R : (Nat → Int32) × (Nat → Int32) × (Nat → Int32)} {M : fm_M} (hm : fm_MR Z M) (hw : fm_WZ Z) : fm_C shM E mX9_read 5 [.ref (E.2.1 0)] M (fun r M' => r = some (.int (sp_read Z R).1) ∧ fm_MR (sp_read Z R).2 M') := by
  have ht := hm.2.2.1
  have hz := ht.2.1
  have hpo := fm_par_ok (f := Z.2.2.1) hz 16 (0, 0, R) ⟨by show 0 ≤ 100; omega, by show 0 ≤ 16; omega⟩
  refine fm_C.of (by decide +kernel) (Nat.le_of_ble_eq_true rfl) ?_
  intro X hE hR hB
  subst hE
  have hB : fm_B _ X cX9_read 5 RX9 (some .int) := hB
  refine fr_lv [some (.ref (fm_rh X 0)), none, none, none, none] ⟨rfl, trivial⟩ ?_
  refine fr_aload_n hB dX9_read_0 rfl rfl ?_
  refine fr_callV hB _ _ dX9_read_1 lm_X9_166 rfl (ct_X9_fault (R := R) ht) rfl rfl (Nat.le_of_ble_eq_true rfl) (fm_room hR (by decide) (by decide)) ?_
  rintro _ M9 ⟨rfl, hM9⟩
  rw [hM9]
  clear hM9 M9
  refine fr_ret1 ?_
  refine fr_istore_n hB dX9_read_4 rfl (by decide) rfl ?_
  refine fr_iconst (v := nI 0) hB dX9_read_5 (by decide) ?_
  refine fr_istore_n hB dX9_read_6 rfl (by decide) rfl ?_
  refine fr_iconst (v := nI 0) hB dX9_read_7 (by decide) ?_
  refine fr_istore_n hB dX9_read_8 rfl (by decide) rfl ?_
  cases hq : (fm_par Z.2.2.1 Z.2.2.2.1 16 (0, 0, R)).1 with
  | false =>
    have e : sp_read Z R = (-10 - nI (fm_par Z.2.2.1 Z.2.2.2.1 16 (0, 0, R)).2.1, fm_re Z Z.1) := by
      rw [sp_read, sp_rd, hq, if_neg (by decide)]
    rw [e, show fm_fI (fm_par Z.2.2.1 Z.2.2.2.1 16 (0, 0, R)) = nI (fm_par Z.2.2.1 Z.2.2.2.1 16 (0, 0, R)).2.1 by rw [fm_fI, hq, if_neg (by decide)]]
    have hle := hpo.1
    refine fr_iload_n hB dX9_read_9 rfl rfl ?_
    refine fr_if_geN (tgt := 49) hB dX9_read_10 (by decide) (by omega) ?_
    refine fr_aload_n hB dX9_read_49 rfl rfl ?_
    refine fr_iconst (v := nI 0) hB dX9_read_50 (by decide) ?_
    refine fr_putI hB dX9_read_51 lp_X9_132 rfl rfl ?_
    refine fr_iload_n hB dX9_read_54 rfl rfl ?_
    refine fr_if_ltN (tgt := 65) hB dX9_read_55 (by decide) (by omega) ?_
    refine fr_bipush (v := -10) hB dX9_read_58 (by decide) ?_
    refine fr_iload_n hB dX9_read_60 rfl rfl ?_
    refine fr_isub hB dX9_read_61 ?_
    refine fr_goto (tgt := 66) hB dX9_read_62 (by decide) ?_
    exact fr_ireturn hB dX9_read_66 (⟨rfl, hm.re⟩)
  | true =>
    have e : sp_read Z R = (nI (fm_rdl (fm_par Z.2.2.1 Z.2.2.2.1 16 (0, 0, R)).2 ((fm_par Z.2.2.1 Z.2.2.2.1 16 (0, 0, R)).2.2.1 - 0) 0 Z.1 0).1, fm_re Z (fm_rdl (fm_par Z.2.2.1 Z.2.2.2.1 16 (0, 0, R)).2 ((fm_par Z.2.2.1 Z.2.2.2.1 16 (0, 0, R)).2.2.1 - 0) 0 Z.1 0).2) := by
      rw [sp_read, sp_rd, if_pos hq]
      rfl
    rw [e, show fm_fI (fm_par Z.2.2.1 Z.2.2.2.1 16 (0, 0, R)) = -1 by rw [fm_fI, hq, if_pos rfl]]
    have stop : ∀ (n a : Nat) (P : fm_P) (M1 : fm_M), Z.2.2.2.1 ≤ a → a ≤ 101 → fm_MR (P, Z.2) M1 → fm_W shM X 5 9 [some (.ref (fm_rh X 0)), some (.int (-1)), some (.int (nI n)), some (.int (nI a)), none] [] M1 (fm_Q shM X (fun r M' => r = some (.int (nI n)) ∧ fm_MR (fm_re Z P) M')) := by
      intro n a P M1 hza ha hm1
      have ht1 : fm_MT Z.2.2.1 Z.2.2.2.1 M1 := hm1.2.2.1
      refine fr_iload_n hB dX9_read_9 rfl rfl ?_
      refine fr_if_ge (tgt := 49) hB dX9_read_10 (by decide) (fun h => ?_) (fun h => ?_)
      · exact absurd h (by decide)
      · refine fr_iload_n hB dX9_read_13 rfl rfl ?_
        refine fr_aload_n hB dX9_read_14 rfl rfl ?_
        refine fr_getI hB dX9_read_15 lf_X9_132 rfl rfl ?_
        refine fr_eqi _ (ht1.1) ?_
        refine fr_icmp_geN (tgt := 49) hB dX9_read_18 (by decide) (by omega) (by omega) (fun h => ?_) (fun h => ?_)
        · refine fr_aload_n hB dX9_read_49 rfl rfl ?_
          refine fr_iconst (v := nI 0) hB dX9_read_50 (by decide) ?_
          refine fr_putI hB dX9_read_51 lp_X9_132 rfl rfl ?_
          refine fr_iload_n hB dX9_read_54 rfl rfl ?_
          refine fr_if_lt (tgt := 65) hB dX9_read_55 (by decide) (fun h => ?_) (fun h => ?_)
          · refine fr_iload_n hB dX9_read_65 rfl rfl ?_
            exact fr_ireturn hB dX9_read_66 (⟨rfl, hm1.re⟩)
          · exact absurd (by decide) h
        · exact absurd h (by omega)
    have l1 : ∀ (d a : Nat) (T : Nat × (Nat → Int32) × (Nat → Int32) × (Nat → Int32)) (n : Nat) (P : fm_P) (M1 : fm_M), T.1 + d ≤ 16 → a ≤ 100 → (fm_par Z.2.2.1 Z.2.2.2.1 d (a, T)).1 = true → fm_wF P → fm_MR (P, Z.2) M1 → fm_W shM X 5 9 [some (.ref (fm_rh X 0)), some (.int (-1)), some (.int (nI n)), some (.int (nI a)), none] [] M1 (fm_Q shM X (fun r M' => r = some (.int (nI (fm_rdl (fm_par Z.2.2.1 Z.2.2.2.1 d (a, T)).2 ((fm_par Z.2.2.1 Z.2.2.2.1 d (a, T)).2.2.1 - T.1) T.1 P n).1)) ∧ fm_MR (fm_re Z (fm_rdl (fm_par Z.2.2.1 Z.2.2.2.1 d (a, T)).2 ((fm_par Z.2.2.1 Z.2.2.2.1 d (a, T)).2.2.1 - T.1) T.1 P n).2) M')) := by
      intro d
      induction d with
      | zero => intro a T n P M1 hT ha hp; exact absurd (show false = true from hp) (by decide)
      | succ d ih =>
        intro a T n P M1 hT ha hp hwp hm1
        have ht1 : fm_MT Z.2.2.1 Z.2.2.2.1 M1 := hm1.2.2.1
        have hle := fm_c1_le (f := Z.2.2.1) hz ha
        have hw1 : fm_WZ (P, Z.2) := ⟨hwp, hw.2⟩
        rw [fm_par_1 (show T.1 < 16 by omega)] at hp ⊢
        by_cases hok : (fm_c1 Z.2.2.1 Z.2.2.2.1 a).1 = true
        · rw [if_pos hok] at hp ⊢
          have haz := (fm_ok_six hok).1
          have hkp : fm_wF (fm_obr P (fm_c1 Z.2.2.1 Z.2.2.2.1 a)).2 := kp_ob hwp _ _ _
          have hdo := mm_does (E := fm_EX X) (a := a) (e := (fm_c1 Z.2.2.1 Z.2.2.2.1 a).2.1) hm1 hw1 ha hok rfl
          have hdo : fm_C shM (fm_EX X) mX9_does 3 [.ref (fm_rh X 0), .int (nI a), .int (nI (fm_c1 Z.2.2.1 Z.2.2.2.1 a).2.1)] M1 (fun r M' => r = some (.int (fm_ib (!decide ((fm_obr P (fm_c1 Z.2.2.1 Z.2.2.2.1 a)).1 < 0)))) ∧ fm_MR ((fm_obr P (fm_c1 Z.2.2.1 Z.2.2.2.1 a)).2, Z.2) M') := hdo
          have step : ∀ (F : fm_TS), T.1 + 1 ≤ F.2.1 → F.2.2.1 T.1 = (fm_c1 Z.2.2.1 Z.2.2.2.1 a).2.2.2.1 0 → F.2.2.2.1 T.1 = (fm_c1 Z.2.2.1 Z.2.2.2.1 a).2.2.2.2.1 0 → F.2.2.2.2 T.1 = (fm_c1 Z.2.2.1 Z.2.2.2.1 a).2.2.2.2.2 0 → (∀ (n2 : Nat) (M2 : fm_M), fm_MR ((fm_obr P (fm_c1 Z.2.2.1 Z.2.2.2.1 a)).2, Z.2) M2 → fm_W shM X 5 9 [some (.ref (fm_rh X 0)), some (.int (-1)), some (.int (nI n2)), some (.int (nI ((fm_c1 Z.2.2.1 Z.2.2.2.1 a).2.1 + 1))), none] [] M2 (fm_Q shM X (fun r M' => r = some (.int (nI (fm_rdl F (F.2.1 - (T.1 + 1)) (T.1 + 1) (fm_obr P (fm_c1 Z.2.2.1 Z.2.2.2.1 a)).2 n2).1)) ∧ fm_MR (fm_re Z (fm_rdl F (F.2.1 - (T.1 + 1)) (T.1 + 1) (fm_obr P (fm_c1 Z.2.2.1 Z.2.2.2.1 a)).2 n2).2) M'))) → fm_W shM X 5 9 [some (.ref (fm_rh X 0)), some (.int (-1)), some (.int (nI n)), some (.int (nI a)), none] [] M1 (fm_Q shM X (fun r M' => r = some (.int (nI (fm_rdl F (F.2.1 - T.1) T.1 P n).1)) ∧ fm_MR (fm_re Z (fm_rdl F (F.2.1 - T.1) T.1 P n).2) M')) := by
            intro F hF1 hF2 hF3 hF4 kont
            rw [show F.2.1 - T.1 = (F.2.1 - (T.1 + 1)) + 1 by omega, fm_rdl_1 F P n hF2 hF3 hF4]
            refine fr_iload_n hB dX9_read_9 rfl rfl ?_
            refine fr_if_ge (tgt := 49) hB dX9_read_10 (by decide) (fun h => ?_) (fun h => ?_)
            · exact absurd h (by decide)
            · refine fr_iload_n hB dX9_read_13 rfl rfl ?_
              refine fr_aload_n hB dX9_read_14 rfl rfl ?_
              refine fr_getI hB dX9_read_15 lf_X9_132 rfl rfl ?_
              refine fr_eqi _ (ht1.1) ?_
              refine fr_icmp_geN (tgt := 49) hB dX9_read_18 (by decide) (by omega) (by omega) (fun h => ?_) (fun h => ?_)
              · exact absurd h (by omega)
              · refine fr_aload_n hB dX9_read_21 rfl rfl ?_
                refine fr_iload_n hB dX9_read_22 rfl rfl ?_
                refine fr_callV hB _ _ dX9_read_23 lm_X9_147 rfl (ct_X9_behind ht1 ha) rfl rfl (Nat.le_of_ble_eq_true rfl) (fm_room hR (by decide) (by decide)) ?_
                rintro _ M9 ⟨rfl, hM9⟩
                rw [hM9]
                clear hM9 M9
                refine fr_ret1 ?_
                refine fr_eqi (nI ((fm_c1 Z.2.2.1 Z.2.2.2.1 a).2.1)) (fm_bI_t hok) ?_
                refine fr_istore hB dX9_read_26 (by decide) rfl ?_
                refine fr_aload_n hB dX9_read_28 rfl rfl ?_
                refine fr_iload_n hB dX9_read_29 rfl rfl ?_
                refine fr_iload hB dX9_read_30 rfl ?_
                refine fr_callV hB _ _ dX9_read_32 lm_X9_169 rfl (hdo) rfl rfl (Nat.le_of_ble_eq_true rfl) (fm_room hR (by decide) (by decide)) ?_
                rintro _ _ ⟨rfl, hm2⟩
                refine fr_ret1 ?_
                refine fr_if_eqB (tgt := 41) hB dX9_read_35 (by decide) (fun h5 => ?_) (fun h5 => ?_)
                · have h6 : (fm_obr P (fm_c1 Z.2.2.1 Z.2.2.2.1 a)).1 < 0 := by
                    cases hdd : decide ((fm_obr P (fm_c1 Z.2.2.1 Z.2.2.2.1 a)).1 < 0) with
                    | true => exact of_decide_eq_true hdd
                    | false => rw [hdd] at h5; cases h5
                  rw [if_pos h6]
                  refine fr_iload hB dX9_read_41 rfl ?_
                  refine fr_iconst (v := nI 1) hB dX9_read_43 (by decide) ?_
                  refine fr_iaddN hB dX9_read_44 ?_
                  refine fr_istore_n hB dX9_read_45 rfl (by decide) rfl ?_
                  refine fr_goto (tgt := 9) hB dX9_read_46 (by decide) ?_
                  refine fr_lv [some (.ref (fm_rh X 0)), some (.int (-1)), some (.int (nI n)), some (.int (nI ((fm_c1 Z.2.2.1 Z.2.2.2.1 a).2.1 + 1))), none] ⟨rfl, rfl, rfl, rfl, trivial⟩ ?_
                  exact kont n _ hm2
                · have h6 : ¬ (fm_obr P (fm_c1 Z.2.2.1 Z.2.2.2.1 a)).1 < 0 := fun q => by
                    rw [decide_eq_true q] at h5; cases h5
                  rw [if_neg h6]
                  refine fr_iincN (b := 1) hB dX9_read_38 rfl (by decide) (by decide) rfl ?_
                  refine fr_iload hB dX9_read_41 rfl ?_
                  refine fr_iconst (v := nI 1) hB dX9_read_43 (by decide) ?_
                  refine fr_iaddN hB dX9_read_44 ?_
                  refine fr_istore_n hB dX9_read_45 rfl (by decide) rfl ?_
                  refine fr_goto (tgt := 9) hB dX9_read_46 (by decide) ?_
                  refine fr_lv [some (.ref (fm_rh X 0)), some (.int (-1)), some (.int (nI (n + 1))), some (.int (nI ((fm_c1 Z.2.2.1 Z.2.2.2.1 a).2.1 + 1))), none] ⟨rfl, rfl, rfl, rfl, trivial⟩ ?_
                  exact kont (n + 1) _ hm2
          have hn := fm_lift_n (T := T) hok
          by_cases h1 : Z.2.2.2.1 ≤ (fm_c1 Z.2.2.1 Z.2.2.2.1 a).2.1
          · rw [if_pos h1]
            refine step (fm_lift (fm_c1 Z.2.2.1 Z.2.2.2.1 a) T).2 (by rw [hn]; exact Nat.le_refl _) (by rw [hn]; simp [fm_up]) (by rw [hn]; simp [fm_up]) (by rw [hn]; simp [fm_up]) (fun n2 M2 hm2 => ?_)
            have e9 : (fm_lift (fm_c1 Z.2.2.1 Z.2.2.2.1 a) T).2.2.1 - (T.1 + 1) = 0 := by rw [hn]; exact Nat.sub_self _
            rw [e9]
            exact stop n2 _ _ M2 (by omega) (by omega) hm2
          · rw [if_neg h1] at hp ⊢
            by_cases h2 : d = 0
            · rw [if_pos h2] at hp; exact absurd (show false = true from hp) (by decide)
            · rw [if_neg h2] at hp ⊢
              by_cases h3 : Z.2.2.1 (fm_c1 Z.2.2.1 Z.2.2.2.1 a).2.1 = 59
              · rw [if_pos h3] at hp ⊢
                rw [hn] at hp ⊢
                have hr := fm_par_rows Z.2.2.1 Z.2.2.2.1 d ((fm_c1 Z.2.2.1 Z.2.2.2.1 a).2.1 + 1) (T.1 + 1, fm_up T.2.1 T.1 ((fm_c1 Z.2.2.1 Z.2.2.2.1 a).2.2.2.1 0), fm_up T.2.2.1 T.1 ((fm_c1 Z.2.2.1 Z.2.2.2.1 a).2.2.2.2.1 0), fm_up T.2.2.2 T.1 ((fm_c1 Z.2.2.1 Z.2.2.2.1 a).2.2.2.2.2 0)) (by show T.1 + 1 + d ≤ 16; omega)
                have hr2 := hr.2 T.1 (Nat.lt_succ_self _)
                refine step _ hr.1 (hr2.1.trans (by simp [fm_up])) (hr2.2.1.trans (by simp [fm_up])) (hr2.2.2.trans (by simp [fm_up])) (fun n2 M2 hm2 => ?_)
                exact ih ((fm_c1 Z.2.2.1 Z.2.2.2.1 a).2.1 + 1) (T.1 + 1, fm_up T.2.1 T.1 ((fm_c1 Z.2.2.1 Z.2.2.2.1 a).2.2.2.1 0), fm_up T.2.2.1 T.1 ((fm_c1 Z.2.2.1 Z.2.2.2.1 a).2.2.2.2.1 0), fm_up T.2.2.2 T.1 ((fm_c1 Z.2.2.1 Z.2.2.2.1 a).2.2.2.2.2 0)) n2 _ M2 (by show T.1 + 1 + d ≤ 16; omega) (by omega) hp hkp hm2
              · rw [if_neg h3] at hp; exact absurd (show false = true from hp) (by decide)
        · rw [if_neg hok] at hp; exact absurd (show false = true from hp) (by decide)
    exact l1 16 0 (0, R) 0 Z.1 M (by show 0 + 16 ≤ 16; omega) (by omega) hq hw.1 hm
