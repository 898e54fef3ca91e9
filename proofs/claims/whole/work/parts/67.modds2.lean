/-! ===== the reference: chance, given, weight, most ===== -/
theorem fm_62 {P : fm_P} (hw : fm_wf P) : 100 ^ (P 0 0 + P 9 0) < 2 ^ 62 ∧ 0 < 100 ^ (P 0 0 + P 9 0) := by
  have h6 := hw.p6
  have h3 := hw.c3
  exact ⟨Nat.lt_of_le_of_lt (fm_pow9 (n := P 0 0 + P 9 0) (by omega)) (by decide), Nat.pow_pos (by omega)⟩
theorem mm_chance {E : fm_E} {l : Int32} {Z : fm_Z} {M : fm_M} (hm : fm_MR Z M) (hw : fm_WZ Z) : fm_C shM E mX9_chance_ 126 [.ref (E.2.1 0), .int l] M (fun r M' => r = some (.long (sp_chance Z.1 l)) ∧ fm_mf M M') := by
  have h8 := hw.1.1.g8
  obtain ⟨q1, q2⟩ := fm_62 hw.1.1
  have q3 := fm_cn_le hw.1.1
  refine fm_C.of (by decide +kernel) (Nat.le_of_ble_eq_true rfl) ?_
  intro X hE hR hB
  subst hE
  have hB : fm_B _ X cX9_chance_ 2 RX9 (some .long) := hB
  refine fr_lv [some (.ref (fm_rh X 0)), some (.int l)] ⟨rfl, rfl, trivial⟩ ?_
  have no : sp_chance Z.1 l = fm_NO → fm_W shM X 2 16 [some (.ref (fm_rh X 0)), some (.int l)] [] M (fm_Q shM X (fun r M' => r = some (.long (sp_chance Z.1 l)) ∧ fm_mf M M')) := by
    intro e
    refine fr_ldc2 (v := -9223372036854775808) hB dX9_chance__16 lc_X9_241 ?_
    refine fr_goto (tgt := 34) hB dX9_chance__19 (by decide) ?_
    exact fr_lreturn hB dX9_chance__34 (⟨by rw [e]; rfl, fm_mf.rf M⟩)
  refine fr_aload_n hB dX9_chance__0 rfl rfl ?_
  refine fr_getI hB dX9_chance__1 lf_X9_97 rfl rfl ?_
  refine fr_eqi _ (hm.1.pl.gates) ?_
  refine fr_if_eqN (tgt := 16) hB dX9_chance__4 (by decide) (by omega) (fun h => ?_) (fun h => ?_)
  · exact no (by rw [sp_chance, if_neg (fun q => by omega)])
  · refine fr_iload_n hB dX9_chance__7 rfl rfl ?_
    refine fr_iconst (v := nI 0) hB dX9_chance__8 (by decide) ?_
    refine fr_iconst (v := nI 1) hB dX9_chance__9 (by decide) ?_
    refine fr_callS hB _ _ dX9_chance__10 lm_X9_93 (ct_X9_wto (c := 1) (by omega)) rfl rfl (Nat.le_of_ble_eq_true rfl) (fm_room hR (by decide) (by decide)) ?_
    rintro _ M9 ⟨rfl, hM9⟩
    rw [hM9]
    clear hM9 M9
    refine fr_ret1 ?_
    refine fr_if_neB (tgt := 22) hB dX9_chance__13 (by decide) (fun h2 => ?_) (fun h2 => ?_)
    · have h2 : fm_lt l 2 = true := h2
      obtain ⟨a, ha, rfl⟩ := fm_lt_of (by omega) h2
      refine fr_aload_n hB dX9_chance__22 rfl rfl ?_
      refine fr_callV hB _ _ dX9_chance__23 lm_X9_243 rfl (ct_X9_chance hm.1.pl hw.1.1 h) rfl rfl (Nat.le_of_ble_eq_true rfl) (fm_room hR (by decide) (by decide)) ?_
      rintro _ _ ⟨rfl, F, rfl⟩
      refine fr_ret1 ?_
      refine fr_aload_n hB dX9_chance__26 rfl rfl ?_
      refine fr_callV hB _ _ dX9_chance__27 lm_X9_246 rfl (ct_X9_whole (hm.1.pl.r14 F) hw.1.1) rfl rfl (Nat.le_of_ble_eq_true rfl) (fm_room hR (by decide) (by decide)) ?_
      rintro _ M9 ⟨rfl, hM9⟩
      rw [hM9]
      clear hM9 M9
      refine fr_ret1 ?_
      refine fr_eql _ (fm_h_n _) ?_
      refine fr_iload_n hB dX9_chance__30 rfl rfl ?_
      refine fr_callS hB _ _ dX9_chance__31 lm_X9_249 (ct_X9_line (line := a) (by omega) q1 q2 (by omega)) rfl rfl (Nat.le_of_ble_eq_true rfl) (fm_room hR (by decide) (by decide)) ?_
      rintro _ M9 ⟨rfl, hM9⟩
      rw [hM9]
      clear hM9 M9
      refine fr_ret1 ?_
      exact fr_lreturn hB dX9_chance__34 (⟨by rw [sp_chance, if_pos ⟨h2, h⟩, fm_ab_cn hw.1.1, fm_h_n, nI_clamp (show a < 2 ^ 31 by omega)], fm_mf.r14 M F⟩)
    · exact no (by rw [sp_chance, if_neg (fun q => by rw [show fm_lt l 2 = false from h2] at q; cases q.1)])
theorem mm_given {E : fm_E} {c l : Int32} {b : Bool} {Z : fm_Z} {M : fm_M} (hm : fm_MR Z M) (hw : fm_WZ Z) : fm_C shM E mX9_given 126 [.ref (E.2.1 0), .int c, .int (fm_ib b), .int l] M (fun r M' => r = some (.long (sp_given Z.1 c b l)) ∧ fm_mf M M') := by
  have h8 := hw.1.1.g8
  have h3 := hw.1.1.c3
  obtain ⟨q1, q2⟩ := fm_62 hw.1.1
  refine fm_C.of (by decide +kernel) (Nat.le_of_ble_eq_true rfl) ?_
  intro X hE hR hB
  subst hE
  have hB : fm_B _ X cX9_given 7 RX9 (some .long) := hB
  refine fr_lv [some (.ref (fm_rh X 0)), some (.int c), some (.int (fm_ib b)), some (.int l), none, none, none] ⟨rfl, rfl, rfl, rfl, trivial⟩ ?_
  have no : sp_given Z.1 c b l = fm_NO → fm_W shM X 7 30 [some (.ref (fm_rh X 0)), some (.int c), some (.int (fm_ib b)), some (.int l), none, none, none] [] M (fm_Q shM X (fun r M' => r = some (.long (sp_given Z.1 c b l)) ∧ fm_mf M M')) := by
    intro e
    refine fr_ldc2 (v := -9223372036854775808) hB dX9_given_30 lc_X9_241 ?_
    exact fr_lreturn hB dX9_given_33 (⟨by rw [e]; rfl, fm_mf.rf M⟩)
  refine fr_aload_n hB dX9_given_0 rfl rfl ?_
  refine fr_getI hB dX9_given_1 lf_X9_97 rfl rfl ?_
  refine fr_eqi _ (hm.1.pl.gates) ?_
  refine fr_if_eqN (tgt := 30) hB dX9_given_4 (by decide) (by omega) (fun h => ?_) (fun h => ?_)
  · exact no (by rw [sp_given, if_neg (fun q => by omega)])
  · refine fr_iload_n hB dX9_given_7 rfl rfl ?_
    refine fr_iconst (v := nI 0) hB dX9_given_8 (by decide) ?_
    refine fr_aload_n hB dX9_given_9 rfl rfl ?_
    refine fr_getI hB dX9_given_10 lf_X9_121 rfl rfl ?_
    refine fr_eqi _ (hm.1.pl.causes) ?_
    refine fr_iconst (v := nI 1) hB dX9_given_13 (by decide) ?_
    refine fr_isub hB dX9_given_14 ?_
    refine fr_callS hB _ _ dX9_given_15 lm_X9_93 (ct_X9_win (show Z.1 9 0 < 2 ^ 31 by omega)) rfl rfl (Nat.le_of_ble_eq_true rfl) (fm_room hR (by decide) (by decide)) ?_
    rintro _ M9 ⟨rfl, hM9⟩
    rw [hM9]
    clear hM9 M9
    refine fr_ret1 ?_
    refine fr_if_eqB (tgt := 30) hB dX9_given_18 (by decide) (fun h1 => ?_) (fun h1 => ?_)
    · exact no (by rw [sp_given, if_neg (fun q => by rw [h1] at q; cases q.1.1)])
    · refine fr_iload_n hB dX9_given_21 rfl rfl ?_
      refine fr_iconst (v := nI 0) hB dX9_given_22 (by decide) ?_
      refine fr_iconst (v := nI 1) hB dX9_given_23 (by decide) ?_
      refine fr_callS hB _ _ dX9_given_24 lm_X9_93 (ct_X9_wto (c := 1) (by omega)) rfl rfl (Nat.le_of_ble_eq_true rfl) (fm_room hR (by decide) (by decide)) ?_
      rintro _ M9 ⟨rfl, hM9⟩
      rw [hM9]
      clear hM9 M9
      refine fr_ret1 ?_
      refine fr_if_neB (tgt := 34) hB dX9_given_27 (by decide) (fun h2 => ?_) (fun h2 => ?_)
      · have h2 : fm_lt l 2 = true := h2
        obtain ⟨a, ha, rfl⟩ := fm_lt_of (by omega) h1
        obtain ⟨x, hx, rfl⟩ := fm_lt_of (by omega) h2
        have fin : ∀ v : Nat, v ≤ 100 → v = (if b then 100 else 0) → fm_W shM X 7 57 [some (.ref (fm_rh X 0)), some (.int (nI a)), some (.int (fm_ib b)), some (.int (nI x)), some (.int (nI (Z.1 10 a))), none, none] [.int (nI v), .int (nI a), .ref (fm_rh X 7)] M (fm_Q shM X (fun r M' => r = some (.long (sp_given Z.1 (nI a) b (nI x))) ∧ fm_mf M M')) := by
          intro v hv hvb
          have hm1 := hm.1.pl.u_codds (i := a) (v := v)
          have hw1 := hw.1.1.u_codds (i := a) hv
          have q3 := fm_cn_le hw1
          have q4 : fm_cn (fm_u Z.1 10 a v) ≤ 100 ^ (Z.1 0 0 + Z.1 9 0) := q3
          have hh : ∀ F, fm_mf M (fm_pi (fm_row (fm_pi M 7 a (nI v)).1 14 F, (fm_pi M 7 a (nI v)).2) 7 a (nI (Z.1 10 a))) := fun F =>
            ((((fm_mx.rf (fun i j => i = 7 ∧ j = a) M).pi (k := 7) (i := a) (nI v) (by omega) (by omega) (Or.inl ⟨rfl, rfl⟩)).mg (fm_mg.r14 _ F)).pi (k := 7) (i := a) (nI (Z.1 10 a)) (by omega) (by omega) (Or.inl ⟨rfl, rfl⟩)).mf (fun i j _ _ q => by
              obtain ⟨rfl, rfl⟩ := q
              show fm_u _ 7 j _ 7 j = _
              rw [fm_u_same]
              exact (hm.1.pl.codds j (by omega)).symm)
          refine fr_iast hB (_) dX9_given_57 rfl (rfl) (by omega) (by decide) ?_
          refine fr_aload_n hB dX9_given_58 rfl rfl ?_
          refine fr_callV hB _ _ dX9_given_59 lm_X9_243 rfl (ct_X9_chance hm1 hw1 (show 0 < fm_u Z.1 10 a v 3 0 from h)) rfl rfl (Nat.le_of_ble_eq_true rfl) (fm_room hR (by decide) (by decide)) ?_
          rintro _ _ ⟨rfl, F, rfl⟩
          refine fr_ret1 ?_
          refine fr_aload_n hB dX9_given_62 rfl rfl ?_
          refine fr_callV hB _ _ dX9_given_63 lm_X9_246 rfl (ct_X9_whole (hm1.r14 F) hw1) rfl rfl (Nat.le_of_ble_eq_true rfl) (fm_room hR (by decide) (by decide)) ?_
          rintro _ M9 ⟨rfl, hM9⟩
          rw [hM9]
          clear hM9 M9
          refine fr_ret1 ?_
          refine fr_eql _ (fm_h_n _) ?_
          refine fr_iload_n hB dX9_given_66 rfl rfl ?_
          refine fr_callS hB _ _ dX9_given_67 lm_X9_249 (ct_X9_line (line := x) (show fm_cn (fm_u Z.1 10 a v) < 2 ^ 62 by omega) q1 q2 (by omega)) rfl rfl (Nat.le_of_ble_eq_true rfl) (fm_room hR (by decide) (by decide)) ?_
          rintro _ M9 ⟨rfl, hM9⟩
          rw [hM9]
          clear hM9 M9
          refine fr_ret1 ?_
          refine fr_lstore hB dX9_given_70 (by decide) rfl ?_
          refine fr_aload_n hB dX9_given_72 rfl rfl ?_
          refine fr_getR hB dX9_given_73 lf_X9_34 rfl rfl ?_
          refine fr_iload_n hB dX9_given_76 rfl rfl ?_
          refine fr_iload hB dX9_given_77 rfl ?_
          refine fr_iast hB (_) dX9_given_79 rfl (rfl) (by omega) (by decide) ?_
          refine fr_lload hB dX9_given_80 rfl ?_
          exact fr_lreturn hB dX9_given_82 (⟨by rw [sp_given, if_pos ⟨⟨h1, h2⟩, h⟩, nI_clamp (show a < 2 ^ 31 by omega), nI_clamp (show x < 2 ^ 31 by omega), ← hvb, fm_ab_c hw.1.1 ha hv, fm_h_n], hh F⟩)
        refine fr_aload_n hB dX9_given_34 rfl rfl ?_
        refine fr_getR hB dX9_given_35 lf_X9_34 rfl rfl ?_
        refine fr_iload_n hB dX9_given_38 rfl rfl ?_
        refine fr_iald hB (_) dX9_given_39 rfl (rfl) (by omega) (by decide) ?_
        refine fr_eqi (nI (Z.1 10 a)) (hm.1.pl.codds _ (by omega)) ?_
        refine fr_istore hB dX9_given_40 (by decide) rfl ?_
        refine fr_aload_n hB dX9_given_42 rfl rfl ?_
        refine fr_getR hB dX9_given_43 lf_X9_34 rfl rfl ?_
        refine fr_iload_n hB dX9_given_46 rfl rfl ?_
        refine fr_iload_n hB dX9_given_47 rfl rfl ?_
        refine fr_if_eqB (tgt := 56) hB dX9_given_48 (by decide) (fun hb => ?_) (fun hb => ?_)
        · refine fr_iconst (v := nI 0) hB dX9_given_56 (by decide) ?_
          exact fin 0 (by omega) (by rw [hb]; rfl)
        · refine fr_bipush (v := nI 100) hB dX9_given_51 (by decide) ?_
          refine fr_goto (tgt := 57) hB dX9_given_53 (by decide) ?_
          exact fin 100 (by omega) (by rw [hb]; rfl)
      · exact no (by rw [sp_given, if_neg (fun q => by rw [show fm_lt l 2 = false from h2] at q; cases q.1.2)])
theorem ct_X9_weight {E : fm_E} {p : Nat} {P : fm_P} {M : fm_M} (hm : fm_NP P M) (hw : fm_wf P) (hg : 0 < P 3 0) (hp : p < P 0 0) : fm_C shM E mX9_weight 4 [.ref (E.2.1 0), .int (nI p)] M (fun r M' => r = some (.long (fm_wt P (fm_TT P) p)) ∧ fm_mg M M') := by
  have h6 := hw.p6
  have hm1 := hm.u_odds (i := p) (v := 100)
  have hw1 := hw.u_odds (i := p) (v := 100) (by omega)
  have hw2 := hw1.u_odds (i := p) (v := 0) (by omega)
  refine fm_C.of (by decide +kernel) (Nat.le_of_ble_eq_true rfl) ?_
  intro X hE hR hB
  subst hE
  have hB : fm_B _ X cX9_weight 5 RX9 (some .long) := hB
  refine fr_lv [some (.ref (fm_rh X 0)), some (.int (nI p)), none, none, none] ⟨rfl, rfl, trivial⟩ ?_
  refine fr_aload_n hB dX9_weight_0 rfl rfl ?_
  refine fr_getR hB dX9_weight_1 lf_X9_9 rfl rfl ?_
  refine fr_iload_n hB dX9_weight_4 rfl rfl ?_
  refine fr_iald hB (_) dX9_weight_5 rfl (rfl) (by omega) (by decide) ?_
  refine fr_eqi (nI (P 1 p)) (hm.odds _ (by omega)) ?_
  refine fr_istore_n hB dX9_weight_6 rfl (by decide) rfl ?_
  refine fr_aload_n hB dX9_weight_7 rfl rfl ?_
  refine fr_getR hB dX9_weight_8 lf_X9_9 rfl rfl ?_
  refine fr_iload_n hB dX9_weight_11 rfl rfl ?_
  refine fr_bipush (v := nI 100) hB dX9_weight_12 (by decide) ?_
  refine fr_iast hB (_) dX9_weight_14 rfl (rfl) (by omega) (by decide) ?_
  refine fr_aload_n hB dX9_weight_15 rfl rfl ?_
  refine fr_callV hB _ _ dX9_weight_16 lm_X9_243 rfl (ct_X9_chance hm1 hw1 (show 0 < fm_u P 1 p 100 3 0 from hg)) rfl rfl (Nat.le_of_ble_eq_true rfl) (fm_room hR (by decide) (by decide)) ?_
  rintro _ _ ⟨rfl, F, rfl⟩
  refine fr_ret1 ?_
  have hm2 := (hm1.r14 F).u_odds (i := p) (v := 0)
  refine fr_lstore_n hB dX9_weight_19 rfl (by decide) rfl ?_
  refine fr_aload_n hB dX9_weight_20 rfl rfl ?_
  refine fr_getR hB dX9_weight_21 lf_X9_9 rfl rfl ?_
  refine fr_iload_n hB dX9_weight_24 rfl rfl ?_
  refine fr_iconst (v := nI 0) hB dX9_weight_25 (by decide) ?_
  refine fr_iast hB (_) dX9_weight_26 rfl (rfl) (by omega) (by decide) ?_
  refine fr_lload_n hB dX9_weight_27 rfl rfl ?_
  refine fr_aload_n hB dX9_weight_28 rfl rfl ?_
  refine fr_callV hB _ _ dX9_weight_29 lm_X9_243 rfl (ct_X9_chance hm2 hw2 (show 0 < fm_u (fm_u P 1 p 100) 1 p 0 3 0 from hg)) rfl rfl (Nat.le_of_ble_eq_true rfl) (fm_room hR (by decide) (by decide)) ?_
  rintro _ _ ⟨rfl, F2, rfl⟩
  refine fr_ret1 ?_
  refine fr_lsub hB dX9_weight_32 ?_
  refine fr_eql (fm_wt P (fm_TT P) p) (by rw [fm_u_u]; unfold fm_wt; rw [fm_ab_p hw hp (by omega), fm_ab_p hw hp (by omega)]) ?_
  refine fr_lstore_n hB dX9_weight_33 rfl (by decide) rfl ?_
  refine fr_aload_n hB dX9_weight_34 rfl rfl ?_
  refine fr_getR hB dX9_weight_35 lf_X9_9 rfl rfl ?_
  refine fr_iload_n hB dX9_weight_38 rfl rfl ?_
  refine fr_iload_n hB dX9_weight_39 rfl rfl ?_
  refine fr_iast hB (_) dX9_weight_40 rfl (rfl) (by omega) (by decide) ?_
  refine fr_lload_n hB dX9_weight_41 rfl rfl ?_
  exact fr_lreturn hB dX9_weight_42 (⟨rfl, ((((((fm_mx.rf (fun i j => i = 1 ∧ j = p) M).pi (k := 1) (i := p) (nI 100) (by omega) (by omega) (Or.inl ⟨rfl, rfl⟩)).mg (fm_mg.r14 _ F)).pi (k := 1) (i := p) (nI 0) (by omega) (by omega) (Or.inl ⟨rfl, rfl⟩)).mg (fm_mg.r14 _ F2)).pi (k := 1) (i := p) (nI (P 1 p)) (by omega) (by omega) (Or.inl ⟨rfl, rfl⟩)).done (fun i j q => by obtain ⟨rfl, rfl⟩ := q; show fm_u _ 1 j _ 1 j = _; rw [fm_u_same]; exact (hm.odds j (by omega)).symm)⟩)
theorem fm_wn2_62 {P : fm_P} (hw : fm_wf P) {p : Nat} : fm_wn2 P p < 2 ^ 62 := Nat.lt_of_le_of_lt (fm_wn2_le hw) (fm_62 hw).1
theorem mm_weight {E : fm_E} {p l : Int32} {Z : fm_Z} {M : fm_M} (hm : fm_MR Z M) (hw : fm_WZ Z) : fm_C shM E mX9_weight_ 126 [.ref (E.2.1 0), .int p, .int l] M (fun r M' => r = some (.long (sp_weight Z.1 p l)) ∧ fm_mf M M') := by
  have h8 := hw.1.1.g8
  have h6 := hw.1.1.p6
  obtain ⟨q1, q2⟩ := fm_62 hw.1.1
  refine fm_C.of (by decide +kernel) (Nat.le_of_ble_eq_true rfl) ?_
  intro X hE hR hB
  subst hE
  have hB : fm_B _ X cX9_weight_ 3 RX9 (some .long) := hB
  refine fr_lv [some (.ref (fm_rh X 0)), some (.int p), some (.int l)] ⟨rfl, rfl, rfl, trivial⟩ ?_
  have no : sp_weight Z.1 p l = fm_NO → fm_W shM X 3 24 [some (.ref (fm_rh X 0)), some (.int p), some (.int l)] [] M (fm_Q shM X (fun r M' => r = some (.long (sp_weight Z.1 p l)) ∧ fm_mf M M')) := by
    intro e
    refine fr_ldc2 (v := -9223372036854775808) hB dX9_weight__24 lc_X9_241 ?_
    refine fr_goto (tgt := 43) hB dX9_weight__27 (by decide) ?_
    exact fr_lreturn hB dX9_weight__43 (⟨by rw [e]; rfl, fm_mf.rf M⟩)
  refine fr_aload_n hB dX9_weight__0 rfl rfl ?_
  refine fr_getI hB dX9_weight__1 lf_X9_97 rfl rfl ?_
  refine fr_eqi _ (hm.1.pl.gates) ?_
  refine fr_if_eqN (tgt := 24) hB dX9_weight__4 (by decide) (by omega) (fun h => ?_) (fun h => ?_)
  · exact no (by rw [sp_weight, if_neg (fun q => by omega)])
  · refine fr_aload_n hB dX9_weight__7 rfl rfl ?_
    refine fr_iload_n hB dX9_weight__8 rfl rfl ?_
    refine fr_callV hB _ _ dX9_weight__9 lm_X9_111 rfl (ct_X9_isPart hm.1.pl hw.1.1) rfl rfl (Nat.le_of_ble_eq_true rfl) (fm_room hR (by decide) (by decide)) ?_
    rintro _ M9 ⟨rfl, hM9⟩
    rw [hM9]
    clear hM9 M9
    refine fr_ret1 ?_
    refine fr_if_eqB (tgt := 24) hB dX9_weight__12 (by decide) (fun h1 => ?_) (fun h1 => ?_)
    · exact no (by rw [sp_weight, if_neg (fun q => by rw [h1] at q; cases q.1.1)])
    · refine fr_iload_n hB dX9_weight__15 rfl rfl ?_
      refine fr_iconst (v := nI 0) hB dX9_weight__16 (by decide) ?_
      refine fr_iconst (v := nI 1) hB dX9_weight__17 (by decide) ?_
      refine fr_callS hB _ _ dX9_weight__18 lm_X9_93 (ct_X9_wto (c := 1) (by omega)) rfl rfl (Nat.le_of_ble_eq_true rfl) (fm_room hR (by decide) (by decide)) ?_
      rintro _ M9 ⟨rfl, hM9⟩
      rw [hM9]
      clear hM9 M9
      refine fr_ret1 ?_
      refine fr_if_neB (tgt := 30) hB dX9_weight__21 (by decide) (fun h2 => ?_) (fun h2 => ?_)
      · have h2 : fm_lt l 2 = true := h2
        obtain ⟨a, ha, rfl⟩ := fm_lt_of (by omega) h1
        obtain ⟨x, hx, rfl⟩ := fm_lt_of (by omega) h2
        refine fr_aload_n hB dX9_weight__30 rfl rfl ?_
        refine fr_iload_n hB dX9_weight__31 rfl rfl ?_
        refine fr_callV hB _ _ dX9_weight__32 lm_X9_253 rfl (ct_X9_weight hm.1.pl hw.1.1 h ha) rfl rfl (Nat.le_of_ble_eq_true rfl) (fm_room hR (by decide) (by decide)) ?_
        rintro _ _ ⟨rfl, hmg⟩
        refine fr_ret1 ?_
        refine fr_eql _ (fm_wt_n hw.1.1 h ha) ?_
        refine fr_aload_n hB dX9_weight__35 rfl rfl ?_
        refine fr_callV hB _ _ dX9_weight__36 lm_X9_246 rfl (ct_X9_whole (hm.1.pl.mf hmg.1) hw.1.1) rfl rfl (Nat.le_of_ble_eq_true rfl) (fm_room hR (by decide) (by decide)) ?_
        rintro _ M9 ⟨rfl, hM9⟩
        rw [hM9]
        clear hM9 M9
        refine fr_ret1 ?_
        refine fr_eql _ (fm_h_n _) ?_
        refine fr_iload_n hB dX9_weight__39 rfl rfl ?_
        refine fr_callS hB _ _ dX9_weight__40 lm_X9_249 (ct_X9_line (line := x) (fm_wn2_62 hw.1.1) q1 q2 (by omega)) rfl rfl (Nat.le_of_ble_eq_true rfl) (fm_room hR (by decide) (by decide)) ?_
        rintro _ M9 ⟨rfl, hM9⟩
        rw [hM9]
        clear hM9 M9
        refine fr_ret1 ?_
        exact fr_lreturn hB dX9_weight__43 (⟨by rw [sp_weight, if_pos ⟨⟨h1, h2⟩, h⟩, nI_clamp (show a < 2 ^ 31 by omega), nI_clamp (show x < 2 ^ 31 by omega), fm_wt_n hw.1.1 h ha, fm_h_n], hmg.1⟩)
      · exact no (by rw [sp_weight, if_neg (fun q => by rw [show fm_lt l 2 = false from h2] at q; cases q.1.2)])
theorem ct_X9_most {E : fm_E} {P : fm_P} {M : fm_M} (hm : fm_NP P M) (hw : fm_wf P) (hg : 0 < P 3 0) : fm_C shM E mX9_most 5 [.ref (E.2.1 0)] M (fun r M' => r = some (.int (fm_most P (fm_TT P))) ∧ fm_mg M M') := by
  have h6 := hw.p6
  refine fm_C.of (by decide +kernel) (Nat.le_of_ble_eq_true rfl) ?_
  intro X hE hR hB
  subst hE
  have hB : fm_B _ X cX9_most 7 RX9 (some .int) := hB
  refine fr_lv [some (.ref (fm_rh X 0)), none, none, none, none, none, none] ⟨rfl, trivial⟩ ?_
  generalize hZ0 : fm_most P (fm_TT P) = Z
  have l1 : ∀ (d p : Nat) (m : Int32) (g : Int64) (M1 : fm_M), p + d = P 0 0 → fm_mg M M1 → fm_mo (fm_wt P (fm_TT P)) d p m g = Z → fm_W shM X 7 10 [some (.ref (fm_rh X 0)), some (.int m), some (.long g), none, some (.int (nI p)), none, none] [] M1 (fm_Q shM X (fun r M' => r = some (.int Z) ∧ fm_mg M M')) := by
    intro d
    induction d with
    | zero =>
      intro p m g M1 hp hmg hZ
      have hZ : m = Z := hZ
      have hm1 := hm.mf hmg.1
      refine fr_iload hB dX9_most_10 rfl ?_
      refine fr_aload_n hB dX9_most_12 rfl rfl ?_
      refine fr_getI hB dX9_most_13 lf_X9_90 rfl rfl ?_
      refine fr_eqi _ (hm1.parts) ?_
      refine fr_icmp_geN (tgt := 49) hB dX9_most_16 (by decide) (by omega) (by omega) (fun h => ?_) (fun h => ?_)
      · refine fr_iload_n hB dX9_most_49 rfl rfl ?_
        exact fr_ireturn hB dX9_most_50 (⟨by rw [hZ], hmg⟩)
      · exact absurd h (by omega)
    | succ d ih =>
      intro p m g M1 hp hmg hZ
      have hZ : (if g < fm_wt P (fm_TT P) p then fm_mo (fm_wt P (fm_TT P)) d (p + 1) (nI p) (fm_wt P (fm_TT P) p) else fm_mo (fm_wt P (fm_TT P)) d (p + 1) m g) = Z := hZ
      have hm1 := hm.mf hmg.1
      refine fr_iload hB dX9_most_10 rfl ?_
      refine fr_aload_n hB dX9_most_12 rfl rfl ?_
      refine fr_getI hB dX9_most_13 lf_X9_90 rfl rfl ?_
      refine fr_eqi _ (hm1.parts) ?_
      refine fr_icmp_geN (tgt := 49) hB dX9_most_16 (by decide) (by omega) (by omega) (fun h => ?_) (fun h => ?_)
      · exact absurd h (by omega)
      · refine fr_aload_n hB dX9_most_19 rfl rfl ?_
        refine fr_iload hB dX9_most_20 rfl ?_
        refine fr_callV hB _ _ dX9_most_22 lm_X9_253 rfl (ct_X9_weight hm1 hw hg (show p < P 0 0 by omega)) rfl rfl (Nat.le_of_ble_eq_true rfl) (fm_room hR (by decide) (by decide)) ?_
        rintro _ _ ⟨rfl, hmg2⟩
        refine fr_ret1 ?_
        refine fr_lstore hB dX9_most_25 (by decide) rfl ?_
        refine fr_lload hB dX9_most_27 rfl ?_
        refine fr_lload_n hB dX9_most_29 rfl rfl ?_
        refine fr_lcmp hB dX9_most_30 ?_
        have hmg3 := hmg.tr hmg2
        refine fr_if_gt (tgt := 37) hB dX9_most_31 (by decide) (fun h2 => ?_) (fun h2 => ?_)
        · have h3 : g < fm_wt P (fm_TT P) p := Int64.not_le.mp (fun q => absurd ((lg_cmp_le _ _).mpr q) (Int32.not_le.mpr h2))
          rw [if_pos h3] at hZ
          refine fr_lload hB dX9_most_37 rfl ?_
          refine fr_lstore_n hB dX9_most_39 rfl (by decide) rfl ?_
          refine fr_iload hB dX9_most_40 rfl ?_
          refine fr_istore_n hB dX9_most_42 rfl (by decide) rfl ?_
          refine fr_iincN (b := 1) hB dX9_most_43 rfl (by decide) (by decide) rfl ?_
          refine fr_goto (tgt := 10) hB dX9_most_46 (by decide) ?_
          refine fr_lv [some (.ref (fm_rh X 0)), some (.int (nI p)), some (.long (fm_wt P (fm_TT P) p)), none, some (.int (nI (p + 1))), none, none] ⟨rfl, rfl, rfl, rfl, trivial⟩ ?_
          exact ih (p + 1) (nI p) (fm_wt P (fm_TT P) p) _ (by omega) hmg3 hZ
        · have h3 : ¬ g < fm_wt P (fm_TT P) p := Int64.not_lt.mpr ((lg_cmp_le _ _).mp (Int32.not_lt.mp h2))
          rw [if_neg h3] at hZ
          refine fr_goto (tgt := 43) hB dX9_most_34 (by decide) ?_
          refine fr_iincN (b := 1) hB dX9_most_43 rfl (by decide) (by decide) rfl ?_
          refine fr_goto (tgt := 10) hB dX9_most_46 (by decide) ?_
          refine fr_lv [some (.ref (fm_rh X 0)), some (.int m), some (.long g), none, some (.int (nI (p + 1))), none, none] ⟨rfl, rfl, rfl, rfl, trivial⟩ ?_
          exact ih (p + 1) m g _ (by omega) hmg3 hZ
  refine fr_bipush (v := -5) hB dX9_most_0 (by decide) ?_
  refine fr_istore_n hB dX9_most_2 rfl (by decide) rfl ?_
  refine fr_ldc2 (v := -1) hB dX9_most_3 lc_X9_182 ?_
  refine fr_lstore_n hB dX9_most_6 rfl (by decide) rfl ?_
  refine fr_iconst (v := nI 0) hB dX9_most_7 (by decide) ?_
  refine fr_istore hB dX9_most_8 (by decide) rfl ?_
  exact l1 (P 0 0) 0 (-5) (-1) M (by omega) (fm_mg.rf M) hZ0
