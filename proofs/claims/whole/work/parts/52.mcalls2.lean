/-! ===== the reference: top, cause, odds, of, feed, count, at ===== -/
theorem ct_X9_topmost {E : fm_E} {P : fm_P} {M : fm_M} (hm : fm_NP P M) (hw : fm_wf P) : fm_C shM E mX9_topmost 0 [.ref (E.2.1 0)] M (fun r M' => r = some (.int (fm_top (P 3 0) (P 8 0))) ∧ M' = M) := by
  have h8 := hw.g8
  have ht8 := hw.t8
  have ht := hm.top
  have e0 : ∀ t : Nat, t ≤ 8 → (nI t - 1 = -1 ↔ t = 0) := by decide
  have e1 : ∀ t : Nat, t ≤ 8 → t ≠ 0 → nI t - 1 = nI (t - 1) := by decide
  refine fm_C.of (by decide +kernel) (Nat.le_of_ble_eq_true rfl) ?_
  intro X hE hR hB
  subst hE
  have hB : fm_B _ X cX9_topmost 1 RX9 (some .int) := hB
  refine fr_lv [some (.ref (fm_rh X 0))] ⟨rfl, trivial⟩ ?_
  refine fr_aload_n hB dX9_topmost_0 rfl rfl ?_
  refine fr_getI hB dX9_topmost_1 lf_X9_97 rfl rfl ?_
  refine fr_eqi _ (hm.gates) ?_
  refine fr_if_neN (tgt := 12) hB dX9_topmost_4 (by decide) (by omega) (fun h => ?_) (fun h => ?_)
  · refine fr_aload_n hB dX9_topmost_12 rfl rfl ?_
    refine fr_getI hB dX9_topmost_13 lf_X9_30 rfl rfl ?_
    rw [ht]
    refine fr_iconst (v := -1) hB dX9_topmost_16 (by decide) ?_
    refine fr_icmp_ne (tgt := 29) hB dX9_topmost_17 (by decide) (fun h2 => ?_) (fun h2 => ?_)
    · refine fr_aload_n hB dX9_topmost_29 rfl rfl ?_
      refine fr_getI hB dX9_topmost_30 lf_X9_30 rfl rfl ?_
      rw [ht]
      have h3 : P 8 0 ≠ 0 := fun q => h2 ((e0 _ (by omega)).mpr q)
      exact fr_ireturn hB dX9_topmost_33 (⟨by rw [e1 _ (by omega) h3, fm_top, if_neg (by omega), if_neg h3], rfl⟩)
    · refine fr_aload_n hB dX9_topmost_20 rfl rfl ?_
      refine fr_getI hB dX9_topmost_21 lf_X9_97 rfl rfl ?_
      refine fr_eqi _ (hm.gates) ?_
      refine fr_iconst (v := nI 1) hB dX9_topmost_24 (by decide) ?_
      refine fr_isubN hB dX9_topmost_25 (by omega) ?_
      refine fr_goto (tgt := 33) hB dX9_topmost_26 (by decide) ?_
      have h3 : P 8 0 = 0 := (e0 _ (by omega)).mp (Decidable.not_not.mp h2)
      exact fr_ireturn hB dX9_topmost_33 (⟨by rw [fm_top, if_neg (by omega), if_pos h3], rfl⟩)
  · refine fr_bipush (v := -5) hB dX9_topmost_7 (by decide) ?_
    refine fr_goto (tgt := 33) hB dX9_topmost_9 (by decide) ?_
    exact fr_ireturn hB dX9_topmost_33 (⟨by rw [fm_top, if_pos h], rfl⟩)
theorem mm_top {E : fm_E} {g : Int32} {Z : fm_Z} {M : fm_M} (hm : fm_MR Z M) (hw : fm_WZ Z) : fm_C shM E mX9_top 2 [.ref (E.2.1 0), .int g] M (fun r M' => r = some (.int (sp_top Z.1 g).1) ∧ fm_MR ((sp_top Z.1 g).2, Z.2) M') := by
  have h8 := hw.1.1.g8
  refine fm_C.of (by decide +kernel) (Nat.le_of_ble_eq_true rfl) ?_
  intro X hE hR hB
  subst hE
  have hB : fm_B _ X cX9_top 3 RX9 (some .int) := hB
  refine fr_lv [some (.ref (fm_rh X 0)), some (.int g), none] ⟨rfl, rfl, trivial⟩ ?_
  have go : ∀ v : Nat, g = nI v - 1 → sp_top Z.1 g = (fm_top (Z.1 3 0) (Z.1 8 0), fm_u Z.1 8 0 v) → fm_W shM X 3 15 [some (.ref (fm_rh X 0)), some (.int g), none] [] M (fm_Q shM X (fun r M' => r = some (.int (sp_top Z.1 g).1) ∧ fm_MR ((sp_top Z.1 g).2, Z.2) M')) := by
    intro v hv e
    rw [e]
    refine fr_aload_n hB dX9_top_15 rfl rfl ?_
    refine fr_callV hB _ _ dX9_top_16 lm_X9_114 rfl (ct_X9_topmost hm.1.pl hw.1.1) rfl rfl (Nat.le_of_ble_eq_true rfl) (fm_room hR (by decide) (by decide)) ?_
    rintro _ M9 ⟨rfl, hM9⟩
    rw [hM9]
    clear hM9 M9
    refine fr_ret1 ?_
    refine fr_istore_n hB dX9_top_19 rfl (by decide) rfl ?_
    refine fr_aload_n hB dX9_top_20 rfl rfl ?_
    refine fr_iload_n hB dX9_top_21 rfl rfl ?_
    refine fr_putI hB dX9_top_22 lp_X9_30 rfl rfl ?_
    refine fr_iload_n hB dX9_top_25 rfl rfl ?_
    have hq := hm.now (hm.1.u_top (v := v)) (fun j hj => by simp [fm_u_at]; omega) (fun b hb => by simp [fm_u, show ¬ b = 0 by omega]) rfl
    rw [← hv] at hq
    exact fr_ireturn hB dX9_top_26 (⟨rfl, hq⟩)
  refine fr_iload_n hB dX9_top_0 rfl rfl ?_
  refine fr_iconst (v := -1) hB dX9_top_1 (by decide) ?_
  refine fr_icmp_eq (tgt := 15) hB dX9_top_2 (by decide) (fun h => ?_) (fun h => ?_)
  · have h : g = -1 := h
    exact go 0 (by rw [h]; decide) (by rw [sp_top, if_pos h])
  · refine fr_aload_n hB dX9_top_5 rfl rfl ?_
    refine fr_iload_n hB dX9_top_6 rfl rfl ?_
    refine fr_callV hB _ _ dX9_top_7 lm_X9_108 rfl (ct_X9_isGate hm.1.pl hw.1.1) rfl rfl (Nat.le_of_ble_eq_true rfl) (fm_room hR (by decide) (by decide)) ?_
    rintro _ M9 ⟨rfl, hM9⟩
    rw [hM9]
    clear hM9 M9
    refine fr_ret1 ?_
    refine fr_if_neB (tgt := 15) hB dX9_top_10 (by decide) (fun h0 => ?_) (fun h0 => ?_)
    · obtain ⟨c, hcc, hg⟩ := fm_lt_of (by omega) h0
      exact go (c + 1) (by rw [nI_p1]; exact hg) (by rw [sp_top, if_neg h, if_pos h0, hg, nI_clamp (by omega)])
    · have e : sp_top Z.1 g = (-1, Z.1) := by rw [sp_top, if_neg h, h0]; rfl
      refine fr_iconst (v := -1) hB dX9_top_13 (by decide) ?_
      exact fr_ireturn hB dX9_top_14 (⟨by rw [e], by rw [e]; exact hm⟩)
theorem mm_cause {E : fm_E} {n b : Int32} {Z : fm_Z} {M : fm_M} (hm : fm_MR Z M) (hw : fm_WZ Z) : fm_C shM E mX9_cause 2 [.ref (E.2.1 0), .int n, .int b] M (fun r M' => r = some (.int (sp_cause Z.1 n b).1) ∧ fm_MR ((sp_cause Z.1 n b).2, Z.2) M') := by
  have h3 := hw.1.1.c3
  have h2c := fm_2c hw.1.1.p6
  refine fm_C.of (by decide +kernel) (Nat.le_of_ble_eq_true rfl) ?_
  intro X hE hR hB
  subst hE
  have hB : fm_B _ X cX9_cause 3 RX9 (some .int) := hB
  refine fr_lv [some (.ref (fm_rh X 0)), some (.int n), some (.int b)] ⟨rfl, rfl, rfl, trivial⟩ ?_
  refine fr_iload_n hB dX9_cause_0 rfl rfl ?_
  refine fr_callS hB _ _ dX9_cause_1 lm_X9_100 (ct_X9_isOdds) rfl rfl (Nat.le_of_ble_eq_true rfl) (fm_room hR (by decide) (by decide)) ?_
  rintro _ M9 ⟨rfl, hM9⟩
  rw [hM9]
  clear hM9 M9
  refine fr_ret1 ?_
  refine fr_if_eqB (tgt := 15) hB dX9_cause_4 (by decide) (fun h => ?_) (fun h => ?_)
  · refine fr_bipush (v := -2) hB dX9_cause_15 (by decide) ?_
    exact fr_ireturn hB dX9_cause_17 (⟨by rw [sp_cause, h]; rfl, by rw [sp_cause, h]; exact hm⟩)
  · refine fr_aload_n hB dX9_cause_7 rfl rfl ?_
    refine fr_iload_n hB dX9_cause_8 rfl rfl ?_
    refine fr_callV hB _ _ dX9_cause_9 lm_X9_118 rfl (ct_X9_isSet hm.1.pl hw.1.1) rfl rfl (Nat.le_of_ble_eq_true rfl) (fm_room hR (by decide) (by decide)) ?_
    rintro _ M9 ⟨rfl, hM9⟩
    rw [hM9]
    clear hM9 M9
    refine fr_ret1 ?_
    refine fr_if_neB (tgt := 18) hB dX9_cause_12 (by decide) (fun h2 => ?_) (fun h2 => ?_)
    · obtain ⟨a, ha, rfl⟩ := fm_lt_of (by omega) h
      obtain ⟨d, hd, rfl⟩ := fm_lt_of (by omega) h2
      have ea : (nI a).toNatClampNeg = a := nI_clamp (by omega)
      have ed : (nI d).toNatClampNeg = d := nI_clamp (by omega)
      have hh : (fm_lt (nI a) 101 && fm_lt (nI d) (2 ^ Z.1 0 0)) = true := by rw [h, h2]; rfl
      refine fr_aload_n hB dX9_cause_18 rfl rfl ?_
      refine fr_getI hB dX9_cause_19 lf_X9_121 rfl rfl ?_
      refine fr_eqi _ (hm.1.pl.causes) ?_
      refine fr_iconst (v := nI 3) hB dX9_cause_22 (by decide) ?_
      refine fr_icmp_neN (tgt := 29) hB dX9_cause_23 (by decide) (by omega) (by omega) (fun h4 => ?_) (fun h4 => ?_)
      · have e : sp_cause Z.1 (nI a) (nI d) = (nI (Z.1 9 0), fm_u (fm_u (fm_u Z.1 10 (Z.1 9 0) a) 11 (Z.1 9 0) d) 9 0 (Z.1 9 0 + 1)) := by rw [sp_cause, if_pos hh, if_pos (by omega), ea, ed]
        refine fr_aload_n hB dX9_cause_29 rfl rfl ?_
        refine fr_getR hB dX9_cause_30 lf_X9_34 rfl rfl ?_
        refine fr_aload_n hB dX9_cause_33 rfl rfl ?_
        refine fr_getI hB dX9_cause_34 lf_X9_121 rfl rfl ?_
        refine fr_eqi _ (hm.1.pl.causes) ?_
        refine fr_iload_n hB dX9_cause_37 rfl rfl ?_
        refine fr_iast hB (_) dX9_cause_38 rfl (rfl) (by omega) (by decide) ?_
        refine fr_aload_n hB dX9_cause_39 rfl rfl ?_
        refine fr_getR hB dX9_cause_40 lf_X9_37 rfl rfl ?_
        refine fr_aload_n hB dX9_cause_43 rfl rfl ?_
        refine fr_getI hB dX9_cause_44 lf_X9_121 rfl rfl ?_
        refine fr_eqi _ (hm.1.pl.causes) ?_
        refine fr_iload_n hB dX9_cause_47 rfl rfl ?_
        refine fr_iast hB (_) dX9_cause_48 rfl (rfl) (by omega) (by decide) ?_
        refine fr_aload_n hB dX9_cause_49 rfl rfl ?_
        refine fr_dup hB dX9_cause_50 rfl ?_
        refine fr_getI hB dX9_cause_51 lf_X9_121 rfl rfl ?_
        refine fr_eqi _ (hm.1.pl.causes) ?_
        refine fr_iconst (v := nI 1) hB dX9_cause_54 (by decide) ?_
        refine fr_iaddN hB dX9_cause_55 ?_
        refine fr_putI hB dX9_cause_56 lp_X9_121 rfl rfl ?_
        refine fr_aload_n hB dX9_cause_59 rfl rfl ?_
        refine fr_getI hB dX9_cause_60 lf_X9_121 rfl rfl ?_
        refine fr_eqi (nI (Z.1 9 0 + 1)) (by simp [fm_u]) ?_
        refine fr_iconst (v := nI 1) hB dX9_cause_63 (by decide) ?_
        refine fr_isubN hB dX9_cause_64 (by omega) ?_
        exact fr_ireturn hB dX9_cause_65 (⟨by rw [e]; rfl, by rw [e]; exact hm.now ((hm.1.u_codds.u_cbits).u_causes) (fun j hj => by simp [fm_u_at]; omega) (fun b hb => by simp [fm_u, show ¬ b = 0 by omega, show ¬ b = 7 by omega, show ¬ b = 8 by omega]) rfl⟩)
      · have e : sp_cause Z.1 (nI a) (nI d) = (-4, Z.1) := by rw [sp_cause, if_pos hh, if_neg (by omega)]
        refine fr_bipush (v := -4) hB dX9_cause_26 (by decide) ?_
        exact fr_ireturn hB dX9_cause_28 (⟨by rw [e], by rw [e]; exact hm⟩)
    · refine fr_bipush (v := -2) hB dX9_cause_15 (by decide) ?_
      exact fr_ireturn hB dX9_cause_17 (⟨by rw [sp_cause, h, h2]; rfl, by rw [sp_cause, h, h2]; exact hm⟩)
theorem mm_odds {E : fm_E} {s k v : Int32} {Z : fm_Z} {M : fm_M} (hm : fm_MR Z M) (hw : fm_WZ Z) : fm_C shM E mX9_odds 2 [.ref (E.2.1 0), .int s, .int k, .int v] M (fun r M' => r = some (.int (sp_odds Z.1 s k v).1) ∧ fm_MR ((sp_odds Z.1 s k v).2, Z.2) M') := by
  have h6 := hw.1.1.p6
  have h3 := hw.1.1.c3
  refine fm_C.of (by decide +kernel) (Nat.le_of_ble_eq_true rfl) ?_
  intro X hE hR hB
  subst hE
  have hB : fm_B _ X cX9_odds 5 RX9 (some .int) := hB
  refine fr_lv [some (.ref (fm_rh X 0)), some (.int s), some (.int k), some (.int v), none] ⟨rfl, rfl, rfl, rfl, trivial⟩ ?_
  refine fr_iload_n hB dX9_odds_0 rfl rfl ?_
  refine fr_iconst (v := nI 0) hB dX9_odds_1 (by decide) ?_
  refine fr_iconst (v := nI 1) hB dX9_odds_2 (by decide) ?_
  refine fr_callS hB _ _ dX9_odds_3 lm_X9_93 (ct_X9_wto (c := 1) (by omega)) rfl rfl (Nat.le_of_ble_eq_true rfl) (fm_room hR (by decide) (by decide)) ?_
  rintro _ M9 ⟨rfl, hM9⟩
  rw [hM9]
  clear hM9 M9
  refine fr_ret1 ?_
  refine fr_if_eqB (tgt := 34) hB dX9_odds_6 (by decide) (fun h => ?_) (fun h => ?_)
  · have n0 : ¬ s = nI 0 := fun q => by rw [q] at h; exact absurd h (by decide)
    have n1 : ¬ s = nI 1 := fun q => by rw [q] at h; exact absurd h (by decide)
    have e : sp_odds Z.1 s k v = (-1, Z.1) := by rw [sp_odds, if_neg (fun q => n0 q.1), if_neg (fun q => n1 q.1)]
    refine fr_iconst (v := -1) hB dX9_odds_34 (by decide) ?_
    exact fr_ireturn hB dX9_odds_35 (⟨by rw [e], by rw [e]; exact hm⟩)
  · obtain ⟨a, ha, rfl⟩ := fm_lt_of (by omega) h
    rcases (show a = 0 ∨ a = 1 by omega) with rfl | rfl
    · refine fr_iload_n hB dX9_odds_9 rfl rfl ?_
      refine fr_iconst (v := nI 0) hB dX9_odds_10 (by decide) ?_
      refine fr_iload_n hB dX9_odds_11 rfl rfl ?_
      refine fr_if_neN (tgt := 22) hB dX9_odds_12 (by decide) (by omega) (fun h1 => ?_) (fun h1 => ?_)
      · exact absurd h1 (by omega)
      · refine fr_aload_n hB dX9_odds_15 rfl rfl ?_
        refine fr_getI hB dX9_odds_16 lf_X9_90 rfl rfl ?_
        refine fr_eqi _ (hm.1.pl.parts) ?_
        refine fr_goto (tgt := 26) hB dX9_odds_19 (by decide) ?_
        refine fr_iconst (v := nI 1) hB dX9_odds_26 (by decide) ?_
        refine fr_isub hB dX9_odds_27 ?_
        refine fr_callS hB _ _ dX9_odds_28 lm_X9_93 (ct_X9_win (show Z.1 0 0 < 2 ^ 31 by omega)) rfl rfl (Nat.le_of_ble_eq_true rfl) (fm_room hR (by decide) (by decide)) ?_
        rintro _ M9 ⟨rfl, hM9⟩
        rw [hM9]
        clear hM9 M9
        refine fr_ret1 ?_
        refine fr_if_neB (tgt := 36) hB dX9_odds_31 (by decide) (fun hk => ?_) (fun hk => ?_)
        · obtain ⟨d, hd, rfl⟩ := fm_lt_of (by omega) hk
          have ed : (nI d).toNatClampNeg = d := nI_clamp (by omega)
          refine fr_iload_n hB dX9_odds_36 rfl rfl ?_
          refine fr_callS hB _ _ dX9_odds_37 lm_X9_100 (ct_X9_isOdds) rfl rfl (Nat.le_of_ble_eq_true rfl) (fm_room hR (by decide) (by decide)) ?_
          rintro _ M9 ⟨rfl, hM9⟩
          rw [hM9]
          clear hM9 M9
          refine fr_ret1 ?_
          refine fr_if_neB (tgt := 46) hB dX9_odds_40 (by decide) (fun hv => ?_) (fun hv => ?_)
          · obtain ⟨x, hx, rfl⟩ := fm_lt_of (by omega) hv
            have ex : (nI x).toNatClampNeg = x := nI_clamp (by omega)
            have e : sp_odds Z.1 (nI 0) (nI d) (nI x) = (nI (Z.1 1 d), fm_u Z.1 1 d x) := by rw [sp_odds, if_pos ⟨rfl, hk⟩, if_pos hv, ed, ex]
            refine fr_iload_n hB dX9_odds_46 rfl rfl ?_
            refine fr_if_neN (tgt := 59) hB dX9_odds_47 (by decide) (by omega) (fun h2 => ?_) (fun h2 => ?_)
            · exact absurd h2 (by omega)
            · refine fr_aload_n hB dX9_odds_50 rfl rfl ?_
              refine fr_getR hB dX9_odds_51 lf_X9_9 rfl rfl ?_
              refine fr_iload_n hB dX9_odds_54 rfl rfl ?_
              refine fr_iald hB (_) dX9_odds_55 rfl (rfl) (by omega) (by decide) ?_
              refine fr_eqi _ (hm.1.pl.odds _ (by omega)) ?_
              refine fr_goto (tgt := 65) hB dX9_odds_56 (by decide) ?_
              refine fr_istore hB dX9_odds_65 (by decide) rfl ?_
              refine fr_iload_n hB dX9_odds_67 rfl rfl ?_
              refine fr_if_neN (tgt := 81) hB dX9_odds_68 (by decide) (by omega) (fun h2 => ?_) (fun h2 => ?_)
              · exact absurd h2 (by omega)
              · refine fr_aload_n hB dX9_odds_71 rfl rfl ?_
                refine fr_getR hB dX9_odds_72 lf_X9_9 rfl rfl ?_
                refine fr_iload_n hB dX9_odds_75 rfl rfl ?_
                refine fr_iload_n hB dX9_odds_76 rfl rfl ?_
                refine fr_iast hB (_) dX9_odds_77 rfl (rfl) (by omega) (by decide) ?_
                refine fr_goto (tgt := 88) hB dX9_odds_78 (by decide) ?_
                refine fr_iload hB dX9_odds_88 rfl ?_
                exact fr_ireturn hB dX9_odds_90 (⟨by rw [e], by rw [e]; exact hm.now hm.1.u_odds (fun j hj => rfl) (fun b hb => by simp [fm_u, show ¬ b = 1 by omega]) rfl⟩)
          · have e : sp_odds Z.1 (nI 0) (nI d) v = (-2, Z.1) := by rw [sp_odds, if_pos ⟨rfl, hk⟩, hv]; rfl
            refine fr_bipush (v := -2) hB dX9_odds_43 (by decide) ?_
            exact fr_ireturn hB dX9_odds_45 (⟨by rw [e], by rw [e]; exact hm⟩)
        · have e : sp_odds Z.1 (nI 0) k v = (-1, Z.1) := by rw [sp_odds, if_neg (fun q => by rw [hk] at q; cases q.2), if_neg (fun q => absurd q.1 (by decide))]
          refine fr_iconst (v := -1) hB dX9_odds_34 (by decide) ?_
          exact fr_ireturn hB dX9_odds_35 (⟨by rw [e], by rw [e]; exact hm⟩)
    · have hs0 : ¬ (nI 1 = nI 0 ∧ fm_lt k (Z.1 0 0) = true) := fun q => absurd q.1 (by decide)
      refine fr_iload_n hB dX9_odds_9 rfl rfl ?_
      refine fr_iconst (v := nI 0) hB dX9_odds_10 (by decide) ?_
      refine fr_iload_n hB dX9_odds_11 rfl rfl ?_
      refine fr_if_neN (tgt := 22) hB dX9_odds_12 (by decide) (by omega) (fun h1 => ?_) (fun h1 => ?_)
      · refine fr_aload_n hB dX9_odds_22 rfl rfl ?_
        refine fr_getI hB dX9_odds_23 lf_X9_121 rfl rfl ?_
        refine fr_eqi _ (hm.1.pl.causes) ?_
        refine fr_iconst (v := nI 1) hB dX9_odds_26 (by decide) ?_
        refine fr_isub hB dX9_odds_27 ?_
        refine fr_callS hB _ _ dX9_odds_28 lm_X9_93 (ct_X9_win (show Z.1 9 0 < 2 ^ 31 by omega)) rfl rfl (Nat.le_of_ble_eq_true rfl) (fm_room hR (by decide) (by decide)) ?_
        rintro _ M9 ⟨rfl, hM9⟩
        rw [hM9]
        clear hM9 M9
        refine fr_ret1 ?_
        refine fr_if_neB (tgt := 36) hB dX9_odds_31 (by decide) (fun hk => ?_) (fun hk => ?_)
        · obtain ⟨d, hd, rfl⟩ := fm_lt_of (by omega) hk
          have ed : (nI d).toNatClampNeg = d := nI_clamp (by omega)
          refine fr_iload_n hB dX9_odds_36 rfl rfl ?_
          refine fr_callS hB _ _ dX9_odds_37 lm_X9_100 (ct_X9_isOdds) rfl rfl (Nat.le_of_ble_eq_true rfl) (fm_room hR (by decide) (by decide)) ?_
          rintro _ M9 ⟨rfl, hM9⟩
          rw [hM9]
          clear hM9 M9
          refine fr_ret1 ?_
          refine fr_if_neB (tgt := 46) hB dX9_odds_40 (by decide) (fun hv => ?_) (fun hv => ?_)
          · obtain ⟨x, hx, rfl⟩ := fm_lt_of (by omega) hv
            have ex : (nI x).toNatClampNeg = x := nI_clamp (by omega)
            have e : sp_odds Z.1 (nI 1) (nI d) (nI x) = (nI (Z.1 10 d), fm_u Z.1 10 d x) := by rw [sp_odds, if_neg hs0, if_pos ⟨rfl, hk⟩, if_pos hv, ed, ex]
            refine fr_iload_n hB dX9_odds_46 rfl rfl ?_
            refine fr_if_neN (tgt := 59) hB dX9_odds_47 (by decide) (by omega) (fun h2 => ?_) (fun h2 => ?_)
            · refine fr_aload_n hB dX9_odds_59 rfl rfl ?_
              refine fr_getR hB dX9_odds_60 lf_X9_34 rfl rfl ?_
              refine fr_iload_n hB dX9_odds_63 rfl rfl ?_
              refine fr_iald hB (_) dX9_odds_64 rfl (rfl) (by omega) (by decide) ?_
              refine fr_eqi _ (hm.1.pl.codds _ (by omega)) ?_
              refine fr_istore hB dX9_odds_65 (by decide) rfl ?_
              refine fr_iload_n hB dX9_odds_67 rfl rfl ?_
              refine fr_if_neN (tgt := 81) hB dX9_odds_68 (by decide) (by omega) (fun h2 => ?_) (fun h2 => ?_)
              · refine fr_aload_n hB dX9_odds_81 rfl rfl ?_
                refine fr_getR hB dX9_odds_82 lf_X9_34 rfl rfl ?_
                refine fr_iload_n hB dX9_odds_85 rfl rfl ?_
                refine fr_iload_n hB dX9_odds_86 rfl rfl ?_
                refine fr_iast hB (_) dX9_odds_87 rfl (rfl) (by omega) (by decide) ?_
                refine fr_iload hB dX9_odds_88 rfl ?_
                exact fr_ireturn hB dX9_odds_90 (⟨by rw [e], by rw [e]; exact hm.now hm.1.u_codds (fun j hj => rfl) (fun b hb => by simp [fm_u, show ¬ b = 7 by omega]) rfl⟩)
              · exact absurd h2 (by omega)
            · exact absurd h2 (by omega)
          · have e : sp_odds Z.1 (nI 1) (nI d) v = (-2, Z.1) := by rw [sp_odds, if_neg hs0, if_pos ⟨rfl, hk⟩, hv]; rfl
            refine fr_bipush (v := -2) hB dX9_odds_43 (by decide) ?_
            exact fr_ireturn hB dX9_odds_45 (⟨by rw [e], by rw [e]; exact hm⟩)
        · have e : sp_odds Z.1 (nI 1) k v = (-1, Z.1) := by rw [sp_odds, if_neg hs0, if_neg (fun q => by rw [hk] at q; cases q.2)]
          refine fr_iconst (v := -1) hB dX9_odds_34 (by decide) ?_
          exact fr_ireturn hB dX9_odds_35 (⟨by rw [e], by rw [e]; exact hm⟩)
      · exact absurd h1 (by omega)
theorem ct_X9_placeOf {E : fm_E} {a : Nat} {P : fm_P} {M : fm_M} (hm : fm_NP P M) (hw : fm_wf P) (ha : a < P 0 0) : fm_C shM E mX9_placeOf 0 [.ref (E.2.1 0), .int (nI a)] M (fun r M' => r = some (.int (nI (fm_pos (P 2) a))) ∧ M' = M) := by
  have h6 := hw.p6
  obtain ⟨p1, p2⟩ := hw.ord.pos h6 ha
  have p3 := fun j (h : j < fm_pos (P 2) a) => fm_pos_before (P 2) a h
  have ob := hw.ord.1
  generalize hj0 : fm_pos (P 2) a = j0 at p1 p2 p3
  refine fm_C.of (by decide +kernel) (Nat.le_of_ble_eq_true rfl) ?_
  intro X hE hR hB
  subst hE
  have hB : fm_B _ X cX9_placeOf 3 RX9 (some .int) := hB
  refine fr_lv [some (.ref (fm_rh X 0)), some (.int (nI a)), none] ⟨rfl, rfl, trivial⟩ ?_
  refine fr_iconst (v := nI 0) hB dX9_placeOf_0 (by decide) ?_
  refine fr_istore_n hB dX9_placeOf_1 rfl (by decide) rfl ?_
  have loop : ∀ d i : Nat, i + d = j0 → fm_W shM X 3 2 [some (.ref (fm_rh X 0)), some (.int (nI a)), some (.int (nI i))] [] M (fm_Q shM X (fun r M' => r = some (.int (nI j0)) ∧ M' = M)) := by
    intro d
    induction d using Nat.strongRecOn with
    | ind d ih =>
      intro i hi
      have hbi := ob i (by omega)
      refine fr_aload_n hB dX9_placeOf_2 rfl rfl ?_
      refine fr_getR hB dX9_placeOf_3 lf_X9_15 rfl rfl ?_
      refine fr_iload_n hB dX9_placeOf_6 rfl rfl ?_
      refine fr_iald hB (_) dX9_placeOf_7 rfl (rfl) (by omega) (by decide) ?_
      refine fr_eqi _ (hm.order _ (by omega)) ?_
      refine fr_iload_n hB dX9_placeOf_8 rfl rfl ?_
      refine fr_icmp_eqN (tgt := 18) hB dX9_placeOf_9 (by decide) (by omega) (by omega) (fun h3 => ?_) (fun h3 => ?_)
      · refine fr_iload_n hB dX9_placeOf_18 rfl rfl ?_
        have he : i = j0 := by
          rcases Nat.lt_or_ge i j0 with q | q
          · exact absurd h3 (p3 i q)
          · omega
        exact fr_ireturn hB dX9_placeOf_19 (⟨by rw [he], rfl⟩)
      · refine fr_iincN (b := 1) hB dX9_placeOf_12 rfl (by decide) (by decide) rfl ?_
        refine fr_goto (tgt := 2) hB dX9_placeOf_15 (by decide) ?_
        have hne : i ≠ j0 := fun q => h3 (by rw [q]; exact p2)
        exact ih (d - 1) (by omega) (i + 1) (by omega)
  exact loop j0 0 (by omega)
theorem ct_X9_ofGate {E : fm_E} {a : Nat} {w : Int32} {P : fm_P} {M : fm_M} (hm : fm_NP P M) (hw : fm_wf P) (ha : a < P 3 0) : fm_C shM E mX9_ofGate 1 [.ref (E.2.1 0), .int (nI a), .int w] M (fun r M' => r = some (.int (fm_ofG P a w)) ∧ M' = M) := by
  have h8 := hw.g8
  have hi4 := hw.i4 a
  refine fm_C.of (by decide +kernel) (Nat.le_of_ble_eq_true rfl) ?_
  intro X hE hR hB
  subst hE
  have hB : fm_B _ X cX9_ofGate 3 RX9 (some .int) := hB
  refine fr_lv [some (.ref (fm_rh X 0)), some (.int (nI a)), some (.int w)] ⟨rfl, rfl, rfl, trivial⟩ ?_
  refine fr_iload_n hB dX9_ofGate_0 rfl rfl ?_
  rcases fm_cases w 3 (by decide) with ⟨i, hi, rfl⟩ | hout
  · rcases (show i = 0 ∨ i = 1 ∨ i = 2 by omega) with rfl | rfl | rfl
    · refine fr_tableIn (tgt := 28) hB dX9_ofGate_1 (by decide) (by decide) (by rfl) (by decide) ?_
      refine fr_aload_n hB dX9_ofGate_28 rfl rfl ?_
      refine fr_getR hB dX9_ofGate_29 lf_X9_18 rfl rfl ?_
      refine fr_iload_n hB dX9_ofGate_32 rfl rfl ?_
      refine fr_iald hB (_) dX9_ofGate_33 rfl (rfl) (by omega) (by decide) ?_
      refine fr_eqi _ (hm.kind _ (by omega)) ?_
      exact fr_ireturn hB dX9_ofGate_34 (⟨by rw [fm_ofG, if_pos rfl], rfl⟩)
    · refine fr_tableIn (tgt := 35) hB dX9_ofGate_1 (by decide) (by decide) (by rfl) (by decide) ?_
      refine fr_aload_n hB dX9_ofGate_35 rfl rfl ?_
      refine fr_getR hB dX9_ofGate_36 lf_X9_21 rfl rfl ?_
      refine fr_iload_n hB dX9_ofGate_39 rfl rfl ?_
      refine fr_iald hB (_) dX9_ofGate_40 rfl (rfl) (by omega) (by decide) ?_
      refine fr_eqi _ (hm.need _ (by omega)) ?_
      exact fr_ireturn hB dX9_ofGate_41 (⟨by rw [fm_ofG, if_neg (by decide), if_pos rfl], rfl⟩)
    · refine fr_tableIn (tgt := 42) hB dX9_ofGate_1 (by decide) (by decide) (by rfl) (by decide) ?_
      refine fr_aload_n hB dX9_ofGate_42 rfl rfl ?_
      refine fr_getR hB dX9_ofGate_43 lf_X9_24 rfl rfl ?_
      refine fr_iload_n hB dX9_ofGate_46 rfl rfl ?_
      refine fr_iald hB (_) dX9_ofGate_47 rfl (rfl) (by omega) (by decide) ?_
      refine fr_eqi _ (hm.cnt _ (by omega)) ?_
      exact fr_ireturn hB dX9_ofGate_48 (⟨by rw [fm_ofG, if_neg (by decide), if_neg (by decide), if_pos rfl], rfl⟩)
  · have e : ∀ i : Nat, i < 3 → ¬ w = nI i := fun i hi q => by
      rw [q, nI_toInt (by omega)] at hout
      omega
    have e2 : fm_ofG P a w = if fm_lt (w - nI 3) (P 6 a) then nI (P 7 (4 * a + (w.toNatClampNeg - 3))) else -1 := by
      rw [fm_ofG, if_neg (e 0 (by decide)), if_neg (e 1 (by decide)), if_neg (e 2 (by decide))]
    rw [e2]
    refine fr_tableOut (tgt := 49) hB dX9_ofGate_1 (by omega) (by decide) ?_
    refine fr_iload_n hB dX9_ofGate_49 rfl rfl ?_
    refine fr_iconst (v := nI 3) hB dX9_ofGate_50 (by decide) ?_
    refine fr_isub hB dX9_ofGate_51 ?_
    refine fr_iconst (v := nI 0) hB dX9_ofGate_52 (by decide) ?_
    refine fr_aload_n hB dX9_ofGate_53 rfl rfl ?_
    refine fr_getR hB dX9_ofGate_54 lf_X9_24 rfl rfl ?_
    refine fr_iload_n hB dX9_ofGate_57 rfl rfl ?_
    refine fr_iald hB (_) dX9_ofGate_58 rfl (rfl) (by omega) (by decide) ?_
    refine fr_eqi _ (hm.cnt _ (by omega)) ?_
    refine fr_iconst (v := nI 1) hB dX9_ofGate_59 (by decide) ?_
    refine fr_isub hB dX9_ofGate_60 ?_
    refine fr_callS hB _ _ dX9_ofGate_61 lm_X9_93 (ct_X9_win (show P 6 a < 2 ^ 31 by omega)) rfl rfl (Nat.le_of_ble_eq_true rfl) (fm_room hR (by decide) (by decide)) ?_
    rintro _ M9 ⟨rfl, hM9⟩
    rw [hM9]
    clear hM9 M9
    refine fr_ret1 ?_
    refine fr_if_eqB (tgt := 82) hB dX9_ofGate_64 (by decide) (fun h => ?_) (fun h => ?_)
    · refine fr_iconst (v := -1) hB dX9_ofGate_82 (by decide) ?_
      exact fr_ireturn hB dX9_ofGate_83 (⟨by rw [h]; rfl, rfl⟩)
    · obtain ⟨b, hb, he⟩ := fm_lt_of (by omega) h
      have hwb : w = nI (b + 3) := by rw [← nI_add, ← he]; exact (Int32.sub_add_cancel _ _).symm
      rw [if_pos h]
      subst hwb
      refine fr_aload_n hB dX9_ofGate_67 rfl rfl ?_
      refine fr_getR hB dX9_ofGate_68 lf_X9_27 rfl rfl ?_
      refine fr_iconst (v := nI 4) hB dX9_ofGate_71 (by decide) ?_
      refine fr_iload_n hB dX9_ofGate_72 rfl rfl ?_
      refine fr_imulN hB dX9_ofGate_73 ?_
      refine fr_iload_n hB dX9_ofGate_74 rfl rfl ?_
      refine fr_iaddN hB dX9_ofGate_75 ?_
      refine fr_iconst (v := nI 3) hB dX9_ofGate_76 (by decide) ?_
      refine fr_isubN hB dX9_ofGate_77 (by omega) ?_
      refine fr_iald hB (_) dX9_ofGate_78 rfl (rfl) (by omega) (by decide) ?_
      refine fr_eqi (nI (P 7 (4 * a + b))) (by rw [hm.inp _ (by omega)]; rfl) ?_
      refine fr_goto (tgt := 83) hB dX9_ofGate_79 (by decide) ?_
      exact fr_ireturn hB dX9_ofGate_83 (⟨by rw [nI_clamp (by omega)]; rfl, rfl⟩)
theorem mm_of {E : fm_E} {s k w : Int32} {Z : fm_Z} {M : fm_M} (hm : fm_MR Z M) (hw : fm_WZ Z) : fm_C shM E mX9_of 2 [.ref (E.2.1 0), .int s, .int k, .int w] M (fun r M' => r = some (.int (sp_of Z.1 s k w)) ∧ M' = M) := by
  have h6 := hw.1.1.p6
  have h3 := hw.1.1.c3
  have h8 := hw.1.1.g8
  have out2 : ∀ w : Int32, fm_lt w 2 = false → ¬ w = nI 0 ∧ ¬ w = nI 1 := fun w h => ⟨fun q => by rw [q] at h; exact absurd h (by decide), fun q => by rw [q] at h; exact absurd h (by decide)⟩
  refine fm_C.of (by decide +kernel) (Nat.le_of_ble_eq_true rfl) ?_
  intro X hE hR hB
  subst hE
  have hB : fm_B _ X cX9_of 4 RX9 (some .int) := hB
  refine fr_lv [some (.ref (fm_rh X 0)), some (.int s), some (.int k), some (.int w)] ⟨rfl, rfl, rfl, rfl, trivial⟩ ?_
  refine fr_iload_n hB dX9_of_0 rfl rfl ?_
  rcases fm_cases s 3 (by decide) with ⟨i, hi, rfl⟩ | hout
  · rcases (show i = 0 ∨ i = 1 ∨ i = 2 by omega) with rfl | rfl | rfl
    · have es : sp_of Z.1 (nI 0) k w = fm_ofPart Z.1 k w := rfl
      rw [es]
      refine fr_tableIn (tgt := 28) hB dX9_of_1 (by decide) (by decide) (by rfl) (by decide) ?_
      refine fr_aload_n hB dX9_of_28 rfl rfl ?_
      refine fr_iload_n hB dX9_of_29 rfl rfl ?_
      refine fr_callV hB _ _ dX9_of_30 lm_X9_111 rfl (ct_X9_isPart hm.1.pl hw.1.1) rfl rfl (Nat.le_of_ble_eq_true rfl) (fm_room hR (by decide) (by decide)) ?_
      rintro _ M9 ⟨rfl, hM9⟩
      rw [hM9]
      clear hM9 M9
      refine fr_ret1 ?_
      refine fr_if_eqB (tgt := 45) hB dX9_of_33 (by decide) (fun h => ?_) (fun h => ?_)
      · refine fr_iconst (v := -1) hB dX9_of_45 (by decide) ?_
        refine fr_goto (tgt := 67) hB dX9_of_46 (by decide) ?_
        exact fr_ireturn hB dX9_of_67 (⟨by rw [fm_ofPart, h]; rfl, rfl⟩)
      · obtain ⟨a, ha, rfl⟩ := fm_lt_of (by omega) h
        have ea : (nI a).toNatClampNeg = a := nI_clamp (by omega)
        refine fr_iload_n hB dX9_of_36 rfl rfl ?_
        refine fr_iconst (v := nI 0) hB dX9_of_37 (by decide) ?_
        refine fr_iconst (v := nI 1) hB dX9_of_38 (by decide) ?_
        refine fr_callS hB _ _ dX9_of_39 lm_X9_93 (ct_X9_wto (c := 1) (by omega)) rfl rfl (Nat.le_of_ble_eq_true rfl) (fm_room hR (by decide) (by decide)) ?_
        rintro _ M9 ⟨rfl, hM9⟩
        rw [hM9]
        clear hM9 M9
        refine fr_ret1 ?_
        refine fr_if_neB (tgt := 49) hB dX9_of_42 (by decide) (fun h2 => ?_) (fun h2 => ?_)
        · obtain ⟨b, hb, rfl⟩ := fm_lt_of (by omega) h2
          refine fr_iload_n hB dX9_of_49 rfl rfl ?_
          refine fr_if_neN (tgt := 62) hB dX9_of_50 (by decide) (by omega) (fun h4 => ?_) (fun h4 => ?_)
          · have hb1 : b = 1 := by omega
            subst hb1
            refine fr_aload_n hB dX9_of_62 rfl rfl ?_
            refine fr_iload_n hB dX9_of_63 rfl rfl ?_
            refine fr_callV hB _ _ dX9_of_64 lm_X9_124 rfl (ct_X9_placeOf hm.1.pl hw.1.1 ha) rfl rfl (Nat.le_of_ble_eq_true rfl) (fm_room hR (by decide) (by decide)) ?_
            rintro _ M9 ⟨rfl, hM9⟩
            rw [hM9]
            clear hM9 M9
            refine fr_ret1 ?_
            exact fr_ireturn hB dX9_of_67 (⟨by rw [fm_ofPart, if_pos h, if_neg (by decide), if_pos rfl, ea], rfl⟩)
          · subst h4
            refine fr_aload_n hB dX9_of_53 rfl rfl ?_
            refine fr_getR hB dX9_of_54 lf_X9_9 rfl rfl ?_
            refine fr_iload_n hB dX9_of_57 rfl rfl ?_
            refine fr_iald hB (_) dX9_of_58 rfl (rfl) (by omega) (by decide) ?_
            refine fr_eqi _ (hm.1.pl.odds _ (by omega)) ?_
            refine fr_goto (tgt := 67) hB dX9_of_59 (by decide) ?_
            exact fr_ireturn hB dX9_of_67 (⟨by rw [fm_ofPart, if_pos h, if_pos rfl, ea], rfl⟩)
        · have h2 := out2 w h2
          refine fr_iconst (v := -1) hB dX9_of_45 (by decide) ?_
          refine fr_goto (tgt := 67) hB dX9_of_46 (by decide) ?_
          exact fr_ireturn hB dX9_of_67 (⟨by rw [fm_ofPart, if_pos h, if_neg h2.1, if_neg h2.2], rfl⟩)
    · have es : sp_of Z.1 (nI 1) k w = fm_ofGate Z.1 k w := rfl
      rw [es]
      refine fr_tableIn (tgt := 68) hB dX9_of_1 (by decide) (by decide) (by rfl) (by decide) ?_
      refine fr_aload_n hB dX9_of_68 rfl rfl ?_
      refine fr_iload_n hB dX9_of_69 rfl rfl ?_
      refine fr_callV hB _ _ dX9_of_70 lm_X9_108 rfl (ct_X9_isGate hm.1.pl hw.1.1) rfl rfl (Nat.le_of_ble_eq_true rfl) (fm_room hR (by decide) (by decide)) ?_
      rintro _ M9 ⟨rfl, hM9⟩
      rw [hM9]
      clear hM9 M9
      refine fr_ret1 ?_
      refine fr_if_eqB (tgt := 85) hB dX9_of_73 (by decide) (fun h => ?_) (fun h => ?_)
      · refine fr_iconst (v := -1) hB dX9_of_85 (by decide) ?_
        exact fr_ireturn hB dX9_of_86 (⟨by rw [fm_ofGate, h]; rfl, rfl⟩)
      · obtain ⟨a, ha, rfl⟩ := fm_lt_of (by omega) h
        have ea : (nI a).toNatClampNeg = a := nI_clamp (by omega)
        refine fr_aload_n hB dX9_of_76 rfl rfl ?_
        refine fr_iload_n hB dX9_of_77 rfl rfl ?_
        refine fr_iload_n hB dX9_of_78 rfl rfl ?_
        refine fr_callV hB _ _ dX9_of_79 lm_X9_128 rfl (ct_X9_ofGate hm.1.pl hw.1.1 ha) rfl rfl (Nat.le_of_ble_eq_true rfl) (fm_room hR (by decide) (by decide)) ?_
        rintro _ M9 ⟨rfl, hM9⟩
        rw [hM9]
        clear hM9 M9
        refine fr_ret1 ?_
        refine fr_goto (tgt := 86) hB dX9_of_82 (by decide) ?_
        exact fr_ireturn hB dX9_of_86 (⟨by rw [fm_ofGate, if_pos h, ea], rfl⟩)
    · have es : sp_of Z.1 (nI 2) k w = fm_ofCause Z.1 k w := rfl
      rw [es]
      refine fr_tableIn (tgt := 87) hB dX9_of_1 (by decide) (by decide) (by rfl) (by decide) ?_
      refine fr_iload_n hB dX9_of_87 rfl rfl ?_
      refine fr_iconst (v := nI 0) hB dX9_of_88 (by decide) ?_
      refine fr_aload_n hB dX9_of_89 rfl rfl ?_
      refine fr_getI hB dX9_of_90 lf_X9_121 rfl rfl ?_
      refine fr_eqi _ (hm.1.pl.causes) ?_
      refine fr_iconst (v := nI 1) hB dX9_of_93 (by decide) ?_
      refine fr_isub hB dX9_of_94 ?_
      refine fr_callS hB _ _ dX9_of_95 lm_X9_93 (ct_X9_win (show Z.1 9 0 < 2 ^ 31 by omega)) rfl rfl (Nat.le_of_ble_eq_true rfl) (fm_room hR (by decide) (by decide)) ?_
      rintro _ M9 ⟨rfl, hM9⟩
      rw [hM9]
      clear hM9 M9
      refine fr_ret1 ?_
      refine fr_if_eqB (tgt := 110) hB dX9_of_98 (by decide) (fun h => ?_) (fun h => ?_)
      · refine fr_iconst (v := -1) hB dX9_of_110 (by decide) ?_
        refine fr_goto (tgt := 133) hB dX9_of_111 (by decide) ?_
        exact fr_ireturn hB dX9_of_133 (⟨by rw [fm_ofCause, h]; rfl, rfl⟩)
      · obtain ⟨a, ha, rfl⟩ := fm_lt_of (by omega) h
        have ea : (nI a).toNatClampNeg = a := nI_clamp (by omega)
        refine fr_iload_n hB dX9_of_101 rfl rfl ?_
        refine fr_iconst (v := nI 0) hB dX9_of_102 (by decide) ?_
        refine fr_iconst (v := nI 1) hB dX9_of_103 (by decide) ?_
        refine fr_callS hB _ _ dX9_of_104 lm_X9_93 (ct_X9_wto (c := 1) (by omega)) rfl rfl (Nat.le_of_ble_eq_true rfl) (fm_room hR (by decide) (by decide)) ?_
        rintro _ M9 ⟨rfl, hM9⟩
        rw [hM9]
        clear hM9 M9
        refine fr_ret1 ?_
        refine fr_if_neB (tgt := 114) hB dX9_of_107 (by decide) (fun h2 => ?_) (fun h2 => ?_)
        · obtain ⟨b, hb, rfl⟩ := fm_lt_of (by omega) h2
          refine fr_iload_n hB dX9_of_114 rfl rfl ?_
          refine fr_if_neN (tgt := 127) hB dX9_of_115 (by decide) (by omega) (fun h4 => ?_) (fun h4 => ?_)
          · have hb1 : b = 1 := by omega
            subst hb1
            refine fr_aload_n hB dX9_of_127 rfl rfl ?_
            refine fr_getR hB dX9_of_128 lf_X9_37 rfl rfl ?_
            refine fr_iload_n hB dX9_of_131 rfl rfl ?_
            refine fr_iald hB (_) dX9_of_132 rfl (rfl) (by omega) (by decide) ?_
            refine fr_eqi _ (hm.1.pl.cbits _ (by omega)) ?_
            exact fr_ireturn hB dX9_of_133 (⟨by rw [fm_ofCause, if_pos h, if_neg (by decide), if_pos rfl, ea], rfl⟩)
          · subst h4
            refine fr_aload_n hB dX9_of_118 rfl rfl ?_
            refine fr_getR hB dX9_of_119 lf_X9_34 rfl rfl ?_
            refine fr_iload_n hB dX9_of_122 rfl rfl ?_
            refine fr_iald hB (_) dX9_of_123 rfl (rfl) (by omega) (by decide) ?_
            refine fr_eqi _ (hm.1.pl.codds _ (by omega)) ?_
            refine fr_goto (tgt := 133) hB dX9_of_124 (by decide) ?_
            exact fr_ireturn hB dX9_of_133 (⟨by rw [fm_ofCause, if_pos h, if_pos rfl, ea], rfl⟩)
        · have h2 := out2 w h2
          refine fr_iconst (v := -1) hB dX9_of_110 (by decide) ?_
          refine fr_goto (tgt := 133) hB dX9_of_111 (by decide) ?_
          exact fr_ireturn hB dX9_of_133 (⟨by rw [fm_ofCause, if_pos h, if_neg h2.1, if_neg h2.2], rfl⟩)
  · have e : ∀ i : Nat, i < 3 → ¬ s = nI i := fun i hi q => by
      rw [q, nI_toInt (by omega)] at hout
      omega
    refine fr_tableOut (tgt := 134) hB dX9_of_1 (by omega) (by decide) ?_
    refine fr_iconst (v := -1) hB dX9_of_134 (by decide) ?_
    exact fr_ireturn hB dX9_of_135 (⟨by rw [sp_of, if_neg (e 0 (by decide)), if_neg (e 1 (by decide)), if_neg (e 2 (by decide))], rfl⟩)
theorem mm_feed {E : fm_E} {n : Int32} {Z : fm_Z} {M : fm_M} (hm : fm_MR Z M) (hw : fm_WZ Z) : fm_C shM E mX9_feed 1 [.ref (E.2.1 0), .int n] M (fun r M' => r = some (.int (sp_feed Z n).1) ∧ fm_MR (sp_feed Z n).2 M') := by
  obtain ⟨h1, h2, h3, h4⟩ := hm
  have hz := h3.2.1
  have hm : fm_MR Z M := ⟨h1, h2, h3, h4⟩
  refine fm_C.of (by decide +kernel) (Nat.le_of_ble_eq_true rfl) ?_
  intro X hE hR hB
  subst hE
  have hB : fm_B _ X cX9_feed 2 RX9 (some .int) := hB
  refine fr_lv [some (.ref (fm_rh X 0)), some (.int n)] ⟨rfl, rfl, trivial⟩ ?_
  refine fr_iload_n hB dX9_feed_0 rfl rfl ?_
  refine fr_iconst (v := nI 0) hB dX9_feed_1 (by decide) ?_
  refine fr_bipush (v := nI 127) hB dX9_feed_2 (by decide) ?_
  refine fr_callS hB _ _ dX9_feed_4 lm_X9_93 (ct_X9_wto (c := 127) (by omega)) rfl rfl (Nat.le_of_ble_eq_true rfl) (fm_room hR (by decide) (by decide)) ?_
  rintro _ M9 ⟨rfl, hM9⟩
  rw [hM9]
  clear hM9 M9
  refine fr_ret1 ?_
  refine fr_if_neB (tgt := 13) hB dX9_feed_7 (by decide) (fun hl => ?_) (fun hl => ?_)
  · obtain ⟨a, ha, rfl⟩ := fm_lt_of (by omega) hl
    have ea : (nI a).toNatClampNeg = a := nI_clamp (by omega)
    refine fr_aload_n hB dX9_feed_13 rfl rfl ?_
    refine fr_getI hB dX9_feed_14 lf_X9_132 rfl rfl ?_
    refine fr_eqi _ (h3.1) ?_
    refine fr_bipush (v := nI 100) hB dX9_feed_17 (by decide) ?_
    refine fr_icmp_neN (tgt := 25) hB dX9_feed_19 (by decide) (by omega) (by omega) (fun hp => ?_) (fun hp => ?_)
    · have e : sp_feed Z (nI a) = (nI (Z.2.2.2.1 + 1), (Z.1, Z.2.1, fm_up Z.2.2.1 Z.2.2.2.1 a, Z.2.2.2.1 + 1, Z.2.2.2.2)) := by rw [sp_feed, if_pos hl, if_pos (by omega), ea]
      refine fr_aload_n hB dX9_feed_25 rfl rfl ?_
      refine fr_getR hB dX9_feed_26 lf_X9_52 rfl rfl ?_
      refine fr_aload_n hB dX9_feed_29 rfl rfl ?_
      refine fr_dup hB dX9_feed_30 rfl ?_
      refine fr_getI hB dX9_feed_31 lf_X9_132 rfl rfl ?_
      refine fr_eqi _ (h3.1) ?_
      refine fr_dup_x1 hB dX9_feed_34 rfl rfl ?_
      refine fr_iconst (v := nI 1) hB dX9_feed_35 (by decide) ?_
      refine fr_iaddN hB dX9_feed_36 ?_
      refine fr_putI hB dX9_feed_37 lp_X9_132 rfl rfl ?_
      refine fr_iload_n hB dX9_feed_40 rfl rfl ?_
      refine fr_iast hB (_) dX9_feed_41 rfl (rfl) (by omega) (by decide) ?_
      refine fr_aload_n hB dX9_feed_42 rfl rfl ?_
      refine fr_getI hB dX9_feed_43 lf_X9_132 rfl rfl ?_
      refine fr_eqi (nI (Z.2.2.2.1 + 1)) (by simp [fm_u]) ?_
      rw [e]
      refine fr_ireturn hB dX9_feed_46 ⟨rfl, h1.kept (fun b hb1 hb2 => ?_) (fun j hj => ?_), ?_, ⟨?_, ?_, fun j hj => ?_⟩, ?_⟩
      · simp [fm_u, show ¬ b = 0 by omega, show ¬ b = 13 by omega]
      · simp [fm_u_at]; omega
      · exact h2.mf (by simp [fm_u_at]) (by simp [fm_u])
      · simp [fm_u_at]
      · show Z.2.2.2.1 + 1 ≤ 100; omega
      · have hj : j < Z.2.2.2.1 + 1 := hj
        show fm_u (fm_u M.1 0 19 (nI (Z.2.2.2.1 + 1))) 13 Z.2.2.2.1 (nI a) 13 j = nI (fm_up Z.2.2.1 Z.2.2.2.1 a j) ∧ fm_up Z.2.2.1 Z.2.2.2.1 a j < 128
        by_cases q : j = Z.2.2.2.1
        · simp [fm_u, fm_up, q]; omega
        · have := h3.2.2 j (by omega)
          simpa [fm_u, fm_up, q] using this
      · exact h4.mf (by simp [fm_u]) (by simp [fm_u]) rfl
    · have e : sp_feed Z (nI a) = (-4, Z) := by rw [sp_feed, if_pos hl, if_neg (by omega)]
      refine fr_bipush (v := -4) hB dX9_feed_22 (by decide) ?_
      exact fr_ireturn hB dX9_feed_24 (⟨by rw [e], by rw [e]; exact hm⟩)
  · refine fr_bipush (v := -2) hB dX9_feed_10 (by decide) ?_
    exact fr_ireturn hB dX9_feed_12 (⟨by rw [sp_feed, hl]; rfl, by rw [sp_feed, hl]; exact hm⟩)
theorem mm_count {E : fm_E} {w : Int32} {Z : fm_Z} {M : fm_M} (hm : fm_MR Z M) (hw : fm_WZ Z) : fm_C shM E mX9_count 0 [.ref (E.2.1 0), .int w] M (fun r M' => r = some (.int (sp_count Z w)) ∧ M' = M) := by
  refine fm_C.of (by decide +kernel) (Nat.le_of_ble_eq_true rfl) ?_
  intro X hE hR hB
  subst hE
  have hB : fm_B _ X cX9_count 2 RX9 (some .int) := hB
  refine fr_lv [some (.ref (fm_rh X 0)), some (.int w)] ⟨rfl, rfl, trivial⟩ ?_
  refine fr_iload_n hB dX9_count_0 rfl rfl ?_
  rcases fm_cases w 4 (by decide) with ⟨i, hi, rfl⟩ | hout
  · rcases (show i = 0 ∨ i = 1 ∨ i = 2 ∨ i = 3 by omega) with rfl | rfl | rfl | rfl
    · refine fr_tableIn (tgt := 32) hB dX9_count_1 (by decide) (by decide) (by rfl) (by decide) ?_
      refine fr_aload_n hB dX9_count_32 rfl rfl ?_
      refine fr_getI hB dX9_count_33 lf_X9_268 rfl rfl ?_
      refine fr_eqi _ (hm.1.r12) ?_
      exact fr_ireturn hB dX9_count_36 (⟨rfl, rfl⟩)
    · refine fr_tableIn (tgt := 37) hB dX9_count_1 (by decide) (by decide) (by rfl) (by decide) ?_
      refine fr_aload_n hB dX9_count_37 rfl rfl ?_
      refine fr_getI hB dX9_count_38 lf_X9_275 rfl rfl ?_
      refine fr_eqi _ (hm.1.r15) ?_
      exact fr_ireturn hB dX9_count_41 (⟨rfl, rfl⟩)
    · refine fr_tableIn (tgt := 42) hB dX9_count_1 (by decide) (by decide) (by rfl) (by decide) ?_
      refine fr_aload_n hB dX9_count_42 rfl rfl ?_
      refine fr_getI hB dX9_count_43 lf_X9_278 rfl rfl ?_
      refine fr_eqi _ (hm.1.r18) ?_
      exact fr_ireturn hB dX9_count_46 (⟨rfl, rfl⟩)
    · refine fr_tableIn (tgt := 47) hB dX9_count_1 (by decide) (by decide) (by rfl) (by decide) ?_
      refine fr_aload_n hB dX9_count_47 rfl rfl ?_
      refine fr_getI hB dX9_count_48 lf_X9_132 rfl rfl ?_
      refine fr_eqi _ (hm.2.2.1.1) ?_
      exact fr_ireturn hB dX9_count_51 (⟨rfl, rfl⟩)
  · have e : ∀ i : Nat, i < 4 → ¬ w = nI i := fun i hi q => by
      rw [q, nI_toInt (by omega)] at hout
      omega
    refine fr_tableOut (tgt := 52) hB dX9_count_1 (by omega) (by decide) ?_
    refine fr_bipush (v := -2) hB dX9_count_52 (by decide) ?_
    exact fr_ireturn hB dX9_count_54 (⟨by rw [sp_count, if_neg (e 0 (by decide)), if_neg (e 1 (by decide)), if_neg (e 2 (by decide)), if_neg (e 3 (by decide))], rfl⟩)
theorem mm_at {E : fm_E} {n : Int32} {Z : fm_Z} {M : fm_M} (hm : fm_MR Z M) (hw : fm_WZ Z) : fm_C shM E mX9_at 1 [.ref (E.2.1 0), .int n] M (fun r M' => r = some (.int (sp_at Z.1 n)) ∧ M' = M) := by
  have h6 := hw.1.1.p6
  refine fm_C.of (by decide +kernel) (Nat.le_of_ble_eq_true rfl) ?_
  intro X hE hR hB
  subst hE
  have hB : fm_B _ X cX9_at 2 RX9 (some .int) := hB
  refine fr_lv [some (.ref (fm_rh X 0)), some (.int n)] ⟨rfl, rfl, trivial⟩ ?_
  refine fr_iload_n hB dX9_at_0 rfl rfl ?_
  refine fr_iconst (v := nI 0) hB dX9_at_1 (by decide) ?_
  refine fr_aload_n hB dX9_at_2 rfl rfl ?_
  refine fr_getI hB dX9_at_3 lf_X9_90 rfl rfl ?_
  refine fr_eqi _ (hm.1.pl.parts) ?_
  refine fr_iconst (v := nI 1) hB dX9_at_6 (by decide) ?_
  refine fr_isub hB dX9_at_7 ?_
  refine fr_callS hB _ _ dX9_at_8 lm_X9_93 (ct_X9_win (show Z.1 0 0 < 2 ^ 31 by omega)) rfl rfl (Nat.le_of_ble_eq_true rfl) (fm_room hR (by decide) (by decide)) ?_
  rintro _ M9 ⟨rfl, hM9⟩
  rw [hM9]
  clear hM9 M9
  refine fr_ret1 ?_
  refine fr_if_eqB (tgt := 23) hB dX9_at_11 (by decide) (fun h => ?_) (fun h => ?_)
  · refine fr_iconst (v := -1) hB dX9_at_23 (by decide) ?_
    exact fr_ireturn hB dX9_at_24 (⟨by rw [sp_at, h]; rfl, rfl⟩)
  · obtain ⟨a, ha, rfl⟩ := fm_lt_of (by omega) h
    refine fr_aload_n hB dX9_at_14 rfl rfl ?_
    refine fr_getR hB dX9_at_15 lf_X9_15 rfl rfl ?_
    refine fr_iload_n hB dX9_at_18 rfl rfl ?_
    refine fr_iald hB (_) dX9_at_19 rfl (rfl) (by omega) (by decide) ?_
    refine fr_eqi _ (hm.1.pl.order _ (by omega)) ?_
    refine fr_goto (tgt := 24) hB dX9_at_20 (by decide) ?_
    exact fr_ireturn hB dX9_at_24 (⟨by rw [sp_at, if_pos h, nI_clamp (show a < 2 ^ 31 by omega)], rfl⟩)
