/-! ===== FaultGraph: drop, top, cause, odds, of, feed, count, at, move, see, event, book ===== -/
def sp_drop (P : fm_P) (g : Int32) : Int32 × fm_P := if fm_lt g (P 3 0) then (if P 6 g.toNatClampNeg = 0 then (-3, P) else (nI (P 6 g.toNatClampNeg - 1), fm_u P 6 g.toNatClampNeg (P 6 g.toNatClampNeg - 1))) else (-1, P)
theorem cc_drop {E : fm_E} {g : Int32} {Z : fm_Z} {M : fm_M} (hc : fm_CR Z M) (hw : fm_WZ Z) : fm_C shC E mX8_drop 1 [.ref (E.2.1 0), .int g] M (fun r M' => r = some (.int (sp_drop Z.1 g).1) ∧ fm_CR ((sp_drop Z.1 g).2, Z.2) M') := by
  have h8 := hw.1.1.g8
  refine fm_C.of (by decide +kernel) (Nat.le_of_ble_eq_true rfl) ?_
  intro X hE hR hB
  subst hE
  have hB : fm_B _ X cX8_drop 3 RX8 (some .int) := hB
  refine fr_lv [some (.ref (fm_rh X 0)), some (.int g), none] ⟨rfl, rfl, trivial⟩ ?_
  refine fr_aload_n hB dX8_drop_0 rfl rfl ?_
  refine fr_getR hB dX8_drop_1 lf_X8_14 rfl rfl ?_
  refine fr_getR hB dX8_drop_4 lf_X8_67 rfl rfl ?_
  refine fr_astore_n hB dX8_drop_7 rfl (by decide) rfl ?_
  refine fr_aload_n hB dX8_drop_8 rfl rfl ?_
  refine fr_iload_n hB dX8_drop_9 rfl rfl ?_
  refine fr_callV hB _ _ dX8_drop_10 lm_X8_84 rfl (ct_X3_hasGate shC_Pl2 hc.1.pl.gates) rfl rfl (Nat.le_of_ble_eq_true rfl) (fm_room hR (by decide) (by decide)) ?_
  rintro _ M9 ⟨rfl, hM9⟩
  rw [hM9]
  clear hM9 M9
  refine fr_ret1 ?_
  refine fr_if_neB (tgt := 18) hB dX8_drop_13 (by decide) (fun h0 => ?_) (fun h0 => ?_)
  · obtain ⟨c, hcc, rfl⟩ := fm_lt_of (by omega) h0
    have ec : (nI c).toNatClampNeg = c := nI_clamp (by omega)
    have hi4 := hw.1.1.i4 c
    refine fr_aload_n hB dX8_drop_18 rfl rfl ?_
    refine fr_getR hB dX8_drop_19 lf_X8_100 rfl rfl ?_
    refine fr_iload_n hB dX8_drop_22 rfl rfl ?_
    refine fr_iald hB (_) dX8_drop_23 rfl (rfl) (by omega) (by decide) ?_
    refine fr_eqi _ (hc.1.pl.cnt _ (by omega)) ?_
    refine fr_if_neN (tgt := 30) hB dX8_drop_24 (by decide) (by omega) (fun h => ?_) (fun h => ?_)
    · have e : sp_drop Z.1 (nI c) = (nI (Z.1 6 c - 1), fm_u Z.1 6 c (Z.1 6 c - 1)) := by rw [sp_drop, if_pos h0, ec, if_neg (by omega)]
      refine fr_aload_n hB dX8_drop_30 rfl rfl ?_
      refine fr_getR hB dX8_drop_31 lf_X8_100 rfl rfl ?_
      refine fr_iload_n hB dX8_drop_34 rfl rfl ?_
      refine fr_dup2_11 hB dX8_drop_35 rfl rfl ?_
      refine fr_iald hB (_) dX8_drop_36 rfl (rfl) (by omega) (by decide) ?_
      refine fr_eqi _ (hc.1.pl.cnt _ (by omega)) ?_
      refine fr_iconst (v := nI 1) hB dX8_drop_37 (by decide) ?_
      refine fr_isubN hB dX8_drop_38 (by omega) ?_
      refine fr_iast hB (_) dX8_drop_39 rfl (rfl) (by omega) (by decide) ?_
      refine fr_aload_n hB dX8_drop_40 rfl rfl ?_
      refine fr_getR hB dX8_drop_41 lf_X8_100 rfl rfl ?_
      refine fr_iload_n hB dX8_drop_44 rfl rfl ?_
      refine fr_iald hB (_) dX8_drop_45 rfl (rfl) (by omega) (by decide) ?_
      refine fr_eqi (nI (Z.1 6 c - 1)) (by simp [fm_u_at]) ?_
      exact fr_ireturn hB dX8_drop_46 (⟨by rw [e], by rw [e]; exact hc.now hc.1.u_cnt (fun b hb => by simp [fm_u, show ¬ b = 8 by omega]) (fun _ _ => rfl)⟩)
    · have e : sp_drop Z.1 (nI c) = (-3, Z.1) := by rw [sp_drop, if_pos h0, ec, if_pos h]
      refine fr_bipush (v := -3) hB dX8_drop_27 (by decide) ?_
      exact fr_ireturn hB dX8_drop_29 (⟨by rw [e], by rw [e]; exact hc⟩)
  · have e : sp_drop Z.1 g = (-1, Z.1) := by rw [sp_drop, h0]; rfl
    refine fr_iconst (v := -1) hB dX8_drop_16 (by decide) ?_
    exact fr_ireturn hB dX8_drop_17 (⟨by rw [e], by rw [e]; exact hc⟩)
def sp_top (P : fm_P) (g : Int32) : Int32 × fm_P := if g = -1 then (fm_top (P 3 0) (P 8 0), fm_u P 8 0 0) else if fm_lt g (P 3 0) then (fm_top (P 3 0) (P 8 0), fm_u P 8 0 (g.toNatClampNeg + 1)) else (-1, P)
theorem cc_top {E : fm_E} {g : Int32} {Z : fm_Z} {M : fm_M} (hc : fm_CR Z M) (hw : fm_WZ Z) : fm_C shC E mX8_top 1 [.ref (E.2.1 0), .int g] M (fun r M' => r = some (.int (sp_top Z.1 g).1) ∧ fm_CR ((sp_top Z.1 g).2, Z.2) M') := by
  have h8 := hw.1.1.g8
  have ht := hw.1.1.t8
  refine fm_C.of (by decide +kernel) (Nat.le_of_ble_eq_true rfl) ?_
  intro X hE hR hB
  subst hE
  have hB : fm_B _ X cX8_top 4 RX8 (some .int) := hB
  refine fr_lv [some (.ref (fm_rh X 0)), some (.int g), none, none] ⟨rfl, rfl, trivial⟩ ?_
  have cut : ∀ v : Nat, g = nI v - 1 → sp_top Z.1 g = (fm_top (Z.1 3 0) (Z.1 8 0), fm_u Z.1 8 0 v) → fm_W shC X 4 23 [some (.ref (fm_rh X 0)), some (.int g), some (.ref (fm_rh X 2)), none] [] M (fm_Q shC X (fun r M' => r = some (.int (sp_top Z.1 g).1) ∧ fm_CR ((sp_top Z.1 g).2, Z.2) M')) := by
    intro v hv e
    refine fr_aload_n hB dX8_top_23 rfl rfl ?_
    refine fr_callV hB _ _ dX8_top_24 lm_X8_103 rfl (ct_X3_topGate shC_Pl2 hc.1.pl.gates h8 hc.1.pl.top (by omega)) rfl rfl (Nat.le_of_ble_eq_true rfl) (fm_room hR (by decide) (by decide)) ?_
    rintro _ M9 ⟨rfl, hM9⟩
    rw [hM9]
    clear hM9 M9
    refine fr_ret1 ?_
    refine fr_istore_n hB dX8_top_27 rfl (by decide) rfl ?_
    refine fr_aload_n hB dX8_top_28 rfl rfl ?_
    refine fr_iload_n hB dX8_top_29 rfl rfl ?_
    refine fr_putI hB dX8_top_30 lp_X8_107 rfl rfl ?_
    refine fr_iload_n hB dX8_top_33 rfl rfl ?_
    exact fr_ireturn hB dX8_top_34 (⟨by rw [e], by rw [e, hv]; exact hc.now hc.1.u_top (fun b hb => by simp [fm_u, show ¬ b = 2 by omega]) (fun _ _ => rfl)⟩)
  refine fr_aload_n hB dX8_top_0 rfl rfl ?_
  refine fr_getR hB dX8_top_1 lf_X8_14 rfl rfl ?_
  refine fr_getR hB dX8_top_4 lf_X8_67 rfl rfl ?_
  refine fr_astore_n hB dX8_top_7 rfl (by decide) rfl ?_
  refine fr_iload_n hB dX8_top_8 rfl rfl ?_
  refine fr_iconst (v := -1) hB dX8_top_9 (by decide) ?_
  refine fr_icmp_eq (tgt := 23) hB dX8_top_10 (by decide) (fun h => ?_) (fun h => ?_)
  · refine cut 0 (by rw [h]; decide) (by rw [sp_top, if_pos h])
  · refine fr_aload_n hB dX8_top_13 rfl rfl ?_
    refine fr_iload_n hB dX8_top_14 rfl rfl ?_
    refine fr_callV hB _ _ dX8_top_15 lm_X8_84 rfl (ct_X3_hasGate shC_Pl2 hc.1.pl.gates) rfl rfl (Nat.le_of_ble_eq_true rfl) (fm_room hR (by decide) (by decide)) ?_
    rintro _ M9 ⟨rfl, hM9⟩
    rw [hM9]
    clear hM9 M9
    refine fr_ret1 ?_
    refine fr_if_neB (tgt := 23) hB dX8_top_18 (by decide) (fun h0 => ?_) (fun h0 => ?_)
    · refine cut (g.toNatClampNeg + 1) ?_ (by rw [sp_top, if_neg h, if_pos h0])
      obtain ⟨c, hcc, rfl⟩ := fm_lt_of (by omega) h0
      rw [nI_clamp (show c < 2 ^ 31 by omega), nI_p1]
    · have e : sp_top Z.1 g = (-1, Z.1) := by rw [sp_top, if_neg h, h0]; rfl
      refine fr_iconst (v := -1) hB dX8_top_21 (by decide) ?_
      exact fr_ireturn hB dX8_top_22 (⟨by rw [e], by rw [e]; exact hc⟩)
def sp_cause (P : fm_P) (n b : Int32) : Int32 × fm_P := if (fm_lt n 101 && fm_lt b (2 ^ P 0 0)) then (if P 9 0 < 3 then (nI (P 9 0), fm_u (fm_u (fm_u P 10 (P 9 0) n.toNatClampNeg) 11 (P 9 0) b.toNatClampNeg) 9 0 (P 9 0 + 1)) else (-4, P)) else (-2, P)
theorem cc_cause {E : fm_E} {n b : Int32} {Z : fm_Z} {M : fm_M} (hc : fm_CR Z M) (hw : fm_WZ Z) : fm_C shC E mX8_cause 1 [.ref (E.2.1 0), .int n, .int b] M (fun r M' => r = some (.int (sp_cause Z.1 n b).1) ∧ fm_CR ((sp_cause Z.1 n b).2, Z.2) M') := by
  have h6 := hw.1.1.p6
  have h3 := hw.1.1.c3
  have h2c := fm_2c h6
  refine fm_C.of (by decide +kernel) (Nat.le_of_ble_eq_true rfl) ?_
  intro X hE hR hB
  subst hE
  have hB : fm_B _ X cX8_cause 3 RX8 (some .int) := hB
  refine fr_lv [some (.ref (fm_rh X 0)), some (.int n), some (.int b)] ⟨rfl, rfl, rfl, trivial⟩ ?_
  refine fr_iload_n hB dX8_cause_0 rfl rfl ?_
  refine fr_callS hB _ _ dX8_cause_1 lm_X8_63 (ct_X8_isOdds) rfl rfl (Nat.le_of_ble_eq_true rfl) (fm_room hR (by decide) (by decide)) ?_
  rintro _ M9 ⟨rfl, hM9⟩
  rw [hM9]
  clear hM9 M9
  refine fr_ret1 ?_
  refine fr_if_eqB (tgt := 21) hB dX8_cause_4 (by decide) (fun h => ?_) (fun h => ?_)
  · refine fr_bipush (v := -2) hB dX8_cause_21 (by decide) ?_
    exact fr_ireturn hB dX8_cause_23 (⟨by rw [sp_cause, h]; rfl, by rw [sp_cause, h]; exact hc⟩)
  · refine fr_aload_n hB dX8_cause_7 rfl rfl ?_
    refine fr_getR hB dX8_cause_8 lf_X8_14 rfl rfl ?_
    refine fr_getR hB dX8_cause_11 lf_X8_67 rfl rfl ?_
    refine fr_iload_n hB dX8_cause_14 rfl rfl ?_
    refine fr_callV hB _ _ dX8_cause_15 lm_X8_111 rfl (ct_X3_hasBits shC_Pl2 hc.1.pl.parts h6) rfl rfl (Nat.le_of_ble_eq_true rfl) (fm_room hR (by decide) (by decide)) ?_
    rintro _ M9 ⟨rfl, hM9⟩
    rw [hM9]
    clear hM9 M9
    refine fr_ret1 ?_
    refine fr_if_neB (tgt := 24) hB dX8_cause_18 (by decide) (fun h2 => ?_) (fun h2 => ?_)
    · obtain ⟨a, ha, rfl⟩ := fm_lt_of (by omega) h
      obtain ⟨d, hd, rfl⟩ := fm_lt_of (by omega) h2
      refine fr_aload_n hB dX8_cause_24 rfl rfl ?_
      refine fr_getR hB dX8_cause_25 lf_X8_14 rfl rfl ?_
      refine fr_getR hB dX8_cause_28 lf_X8_67 rfl rfl ?_
      refine fr_iload_n hB dX8_cause_31 rfl rfl ?_
      refine fr_iload_n hB dX8_cause_32 rfl rfl ?_
      refine fr_callV hB _ _ dX8_cause_33 lm_X8_114 rfl (ct_X3_addCause shC_Pl2 hc.1.pl.causes h3) rfl rfl (Nat.le_of_ble_eq_true rfl) (fm_room hR (by decide) (by decide)) ?_
      rintro _ M9 ⟨rfl, hM9⟩
      rw [hM9]
      clear hM9 M9
      refine fr_ret1 ?_
      unfold sp_cause
      rw [h, h2, nI_clamp (show a < 2 ^ 31 by omega), nI_clamp (show d < 2 ^ 31 by omega)]
      simp only [Bool.and_self, if_true]
      by_cases hp : Z.1 9 0 < 3
      · rw [if_pos hp, if_pos hp, if_pos hp]
        exact fr_ireturn hB dX8_cause_36 (⟨rfl, hc.now ((hc.1.u_codds.u_cbits).u_causes) (fun b hb => by simp [fm_u, show ¬ b = 2 by omega, show ¬ b = 9 by omega, show ¬ b = 10 by omega]) (fun _ _ => rfl)⟩)
      · rw [if_neg hp, if_neg hp, if_neg hp]
        exact fr_ireturn hB dX8_cause_36 (⟨rfl, hc⟩)
    · refine fr_bipush (v := -2) hB dX8_cause_21 (by decide) ?_
      exact fr_ireturn hB dX8_cause_23 (⟨by rw [sp_cause, h, h2]; rfl, by rw [sp_cause, h, h2]; exact hc⟩)
def sp_odds (P : fm_P) (s k v : Int32) : Int32 × fm_P := if s = nI 0 ∧ fm_lt k (P 0 0) = true then (if fm_lt v 101 then (nI (P 1 k.toNatClampNeg), fm_u P 1 k.toNatClampNeg v.toNatClampNeg) else (-2, P)) else if s = nI 1 ∧ fm_lt k (P 9 0) = true then (if fm_lt v 101 then (nI (P 10 k.toNatClampNeg), fm_u P 10 k.toNatClampNeg v.toNatClampNeg) else (-2, P)) else (-1, P)
theorem cc_odds {E : fm_E} {s k v : Int32} {Z : fm_Z} {M : fm_M} (hc : fm_CR Z M) (hw : fm_WZ Z) : fm_C shC E mX8_odds 1 [.ref (E.2.1 0), .int s, .int k, .int v] M (fun r M' => r = some (.int (sp_odds Z.1 s k v).1) ∧ fm_CR ((sp_odds Z.1 s k v).2, Z.2) M') := by
  have h6 := hw.1.1.p6
  have h3 := hw.1.1.c3
  refine fm_C.of (by decide +kernel) (Nat.le_of_ble_eq_true rfl) ?_
  intro X hE hR hB
  subst hE
  have hB : fm_B _ X cX8_odds 9 RX8 (some .int) := hB
  refine fr_lv [some (.ref (fm_rh X 0)), some (.int s), some (.int k), some (.int v), none, none, none, none, none] ⟨rfl, rfl, rfl, rfl, trivial⟩ ?_
  have none_ : sp_odds Z.1 s k v = (-1, Z.1) → fm_W shC X 9 60 [some (.ref (fm_rh X 0)), some (.int s), some (.int k), some (.int v), some (.ref (fm_rh X 2)), none, none, none, none] [] M (fm_Q shC X (fun r M' => r = some (.int (sp_odds Z.1 s k v).1) ∧ fm_CR ((sp_odds Z.1 s k v).2, Z.2) M')) := by
    intro e
    refine fr_iconst (v := -1) hB dX8_odds_60 (by decide) ?_
    exact fr_ireturn hB dX8_odds_61 (⟨by rw [e], by rw [e]; exact hc⟩)
  have bad_ : sp_odds Z.1 s k v = (-2, Z.1) → fm_W shC X 9 69 [some (.ref (fm_rh X 0)), some (.int s), some (.int k), some (.int v), some (.ref (fm_rh X 2)), none, none, none, none] [] M (fm_Q shC X (fun r M' => r = some (.int (sp_odds Z.1 s k v).1) ∧ fm_CR ((sp_odds Z.1 s k v).2, Z.2) M')) := by
    intro e
    refine fr_bipush (v := -2) hB dX8_odds_69 (by decide) ?_
    exact fr_ireturn hB dX8_odds_71 (⟨by rw [e], by rw [e]; exact hc⟩)
  have pt_ : fm_lt k (Z.1 0 0) = true → s = nI 0 → fm_W shC X 9 62 [some (.ref (fm_rh X 0)), some (.int s), some (.int k), some (.int v), some (.ref (fm_rh X 2)), some (.int (nI 1)), none, none, none] [] M (fm_Q shC X (fun r M' => r = some (.int (sp_odds Z.1 s k v).1) ∧ fm_CR ((sp_odds Z.1 s k v).2, Z.2) M')) := by
    intro hk hs
    refine fr_iload_n hB dX8_odds_62 rfl rfl ?_
    refine fr_callS hB _ _ dX8_odds_63 lm_X8_63 (ct_X8_isOdds) rfl rfl (Nat.le_of_ble_eq_true rfl) (fm_room hR (by decide) (by decide)) ?_
    rintro _ M9 ⟨rfl, hM9⟩
    rw [hM9]
    clear hM9 M9
    refine fr_ret1 ?_
    refine fr_if_neB (tgt := 72) hB dX8_odds_66 (by decide) (fun hv => ?_) (fun hv => ?_)
    · obtain ⟨a, ha, rfl⟩ := fm_lt_of (by omega) hk
      obtain ⟨b, hb, rfl⟩ := fm_lt_of (by omega) hv
      have e : sp_odds Z.1 s (nI a) (nI b) = (nI (Z.1 1 a), fm_u Z.1 1 a b) := by rw [sp_odds, if_pos ⟨hs, hk⟩, if_pos hv, nI_clamp (show a < 2 ^ 31 by omega), nI_clamp (show b < 2 ^ 31 by omega)]
      refine fr_iload hB dX8_odds_72 rfl ?_
      refine fr_if_eqN (tgt := 85) hB dX8_odds_74 (by decide) (by omega) (fun h9 => ?_) (fun h9 => ?_)
      · exact absurd h9 (by decide)
      · refine fr_aload hB dX8_odds_77 rfl ?_
        refine fr_getR hB dX8_odds_79 lf_X8_120 rfl rfl ?_
        refine fr_goto (tgt := 90) hB dX8_odds_82 (by decide) ?_
        refine fr_astore hB dX8_odds_90 (by decide) rfl ?_
        refine fr_aload hB dX8_odds_92 rfl ?_
        refine fr_iload_n hB dX8_odds_94 rfl rfl ?_
        refine fr_iald hB (_) dX8_odds_95 rfl (rfl) (by omega) (by decide) ?_
        refine fr_eqi _ (hc.1.pl.odds _ (by omega)) ?_
        refine fr_istore hB dX8_odds_96 (by decide) rfl ?_
        refine fr_aload hB dX8_odds_98 rfl ?_
        refine fr_iload_n hB dX8_odds_100 rfl rfl ?_
        refine fr_iload_n hB dX8_odds_101 rfl rfl ?_
        refine fr_iast hB (_) dX8_odds_102 rfl (rfl) (by omega) (by decide) ?_
        refine fr_iload hB dX8_odds_103 rfl ?_
        exact fr_ireturn hB dX8_odds_105 (⟨by rw [e], by rw [e]; exact hc.now hc.1.u_odds (fun b hb => by simp [fm_u, show ¬ b = 3 by omega]) (fun _ _ => rfl)⟩)
    · refine fr_lv [some (.ref (fm_rh X 0)), some (.int s), some (.int k), some (.int v), some (.ref (fm_rh X 2)), none, none, none, none] ⟨rfl, rfl, rfl, rfl, rfl, trivial⟩ ?_
      exact bad_ (by rw [sp_odds, if_pos ⟨hs, hk⟩, hv]; rfl)
  have ca_ : fm_lt k (Z.1 9 0) = true → s = nI 1 → fm_W shC X 9 62 [some (.ref (fm_rh X 0)), some (.int s), some (.int k), some (.int v), some (.ref (fm_rh X 2)), some (.int (nI 0)), none, none, none] [] M (fm_Q shC X (fun r M' => r = some (.int (sp_odds Z.1 s k v).1) ∧ fm_CR ((sp_odds Z.1 s k v).2, Z.2) M')) := by
    intro hk hs
    have hs0 : ¬ (s = nI 0 ∧ fm_lt k (Z.1 0 0) = true) := fun q => by rw [hs] at q; exact absurd q.1 (by decide)
    refine fr_iload_n hB dX8_odds_62 rfl rfl ?_
    refine fr_callS hB _ _ dX8_odds_63 lm_X8_63 (ct_X8_isOdds) rfl rfl (Nat.le_of_ble_eq_true rfl) (fm_room hR (by decide) (by decide)) ?_
    rintro _ M9 ⟨rfl, hM9⟩
    rw [hM9]
    clear hM9 M9
    refine fr_ret1 ?_
    refine fr_if_neB (tgt := 72) hB dX8_odds_66 (by decide) (fun hv => ?_) (fun hv => ?_)
    · obtain ⟨a, ha, rfl⟩ := fm_lt_of (by omega) hk
      obtain ⟨b, hb, rfl⟩ := fm_lt_of (by omega) hv
      have e : sp_odds Z.1 s (nI a) (nI b) = (nI (Z.1 10 a), fm_u Z.1 10 a b) := by rw [sp_odds, if_neg hs0, if_pos ⟨hs, hk⟩, if_pos hv, nI_clamp (show a < 2 ^ 31 by omega), nI_clamp (show b < 2 ^ 31 by omega)]
      refine fr_iload hB dX8_odds_72 rfl ?_
      refine fr_if_eqN (tgt := 85) hB dX8_odds_74 (by decide) (by omega) (fun h9 => ?_) (fun h9 => ?_)
      · refine fr_aload hB dX8_odds_85 rfl ?_
        refine fr_getR hB dX8_odds_87 lf_X8_123 rfl rfl ?_
        refine fr_astore hB dX8_odds_90 (by decide) rfl ?_
        refine fr_aload hB dX8_odds_92 rfl ?_
        refine fr_iload_n hB dX8_odds_94 rfl rfl ?_
        refine fr_iald hB (_) dX8_odds_95 rfl (rfl) (by omega) (by decide) ?_
        refine fr_eqi _ (hc.1.pl.codds _ (by omega)) ?_
        refine fr_istore hB dX8_odds_96 (by decide) rfl ?_
        refine fr_aload hB dX8_odds_98 rfl ?_
        refine fr_iload_n hB dX8_odds_100 rfl rfl ?_
        refine fr_iload_n hB dX8_odds_101 rfl rfl ?_
        refine fr_iast hB (_) dX8_odds_102 rfl (rfl) (by omega) (by decide) ?_
        refine fr_iload hB dX8_odds_103 rfl ?_
        exact fr_ireturn hB dX8_odds_105 (⟨by rw [e], by rw [e]; exact hc.now hc.1.u_codds (fun b hb => by simp [fm_u, show ¬ b = 9 by omega]) (fun _ _ => rfl)⟩)
      · exact absurd h9 (by omega)
    · refine fr_lv [some (.ref (fm_rh X 0)), some (.int s), some (.int k), some (.int v), some (.ref (fm_rh X 2)), none, none, none, none] ⟨rfl, rfl, rfl, rfl, rfl, trivial⟩ ?_
      exact bad_ (by rw [sp_odds, if_neg hs0, if_pos ⟨hs, hk⟩, hv]; rfl)
  have mid : fm_W shC X 9 26 [some (.ref (fm_rh X 0)), some (.int s), some (.int k), some (.int v), some (.ref (fm_rh X 2)), none, none, none, none] [] M (fm_Q shC X (fun r M' => r = some (.int (sp_odds Z.1 s k v).1) ∧ fm_CR ((sp_odds Z.1 s k v).2, Z.2) M')) ∨ (s = nI 0 ∧ fm_lt k (Z.1 0 0) = true) := by
    by_cases hq : s = nI 0 ∧ fm_lt k (Z.1 0 0) = true
    · exact Or.inr hq
    · left
      refine fr_iconst (v := nI 0) hB dX8_odds_26 (by decide) ?_
      refine fr_istore hB dX8_odds_27 (by decide) rfl ?_
      refine fr_iload_n hB dX8_odds_29 rfl rfl ?_
      refine fr_iconst (v := nI 1) hB dX8_odds_30 (by decide) ?_
      refine fr_icmp_ne (tgt := 47) hB dX8_odds_31 (by decide) (fun h1 => ?_) (fun h1 => ?_)
      · refine fr_iconst (v := nI 0) hB dX8_odds_47 (by decide) ?_
        refine fr_istore hB dX8_odds_48 (by decide) rfl ?_
        refine fr_iload hB dX8_odds_50 rfl ?_
        refine fr_if_neN (tgt := 62) hB dX8_odds_52 (by decide) (by omega) (fun h9 => ?_) (fun h9 => ?_)
        · exact absurd h9 (by omega)
        · refine fr_iload hB dX8_odds_55 rfl ?_
          refine fr_if_neN (tgt := 62) hB dX8_odds_57 (by decide) (by omega) (fun h9 => ?_) (fun h9 => ?_)
          · exact absurd h9 (by omega)
          · refine fr_lv [some (.ref (fm_rh X 0)), some (.int s), some (.int k), some (.int v), some (.ref (fm_rh X 2)), none, none, none, none] ⟨rfl, rfl, rfl, rfl, rfl, trivial⟩ ?_
            exact none_ (by rw [sp_odds, if_neg hq, if_neg (fun q => h1 q.1)])
      · have h1 : s = nI 1 := Decidable.not_not.mp h1
        refine fr_aload hB dX8_odds_34 rfl ?_
        refine fr_iload_n hB dX8_odds_36 rfl rfl ?_
        refine fr_callV hB _ _ dX8_odds_37 lm_X8_117 rfl (ct_X3_hasCause shC_Pl2 hc.1.pl.causes) rfl rfl (Nat.le_of_ble_eq_true rfl) (fm_room hR (by decide) (by decide)) ?_
        rintro _ M9 ⟨rfl, hM9⟩
        rw [hM9]
        clear hM9 M9
        refine fr_ret1 ?_
        refine fr_if_eqB (tgt := 47) hB dX8_odds_40 (by decide) (fun h2 => ?_) (fun h2 => ?_)
        · refine fr_iconst (v := nI 0) hB dX8_odds_47 (by decide) ?_
          refine fr_istore hB dX8_odds_48 (by decide) rfl ?_
          refine fr_iload hB dX8_odds_50 rfl ?_
          refine fr_if_neN (tgt := 62) hB dX8_odds_52 (by decide) (by omega) (fun h9 => ?_) (fun h9 => ?_)
          · exact absurd h9 (by omega)
          · refine fr_iload hB dX8_odds_55 rfl ?_
            refine fr_if_neN (tgt := 62) hB dX8_odds_57 (by decide) (by omega) (fun h9 => ?_) (fun h9 => ?_)
            · exact absurd h9 (by omega)
            · refine fr_lv [some (.ref (fm_rh X 0)), some (.int s), some (.int k), some (.int v), some (.ref (fm_rh X 2)), none, none, none, none] ⟨rfl, rfl, rfl, rfl, rfl, trivial⟩ ?_
              exact none_ (by rw [sp_odds, if_neg hq, if_neg (fun q => by rw [h2] at q; cases q.2)])
        · refine fr_iconst (v := nI 1) hB dX8_odds_43 (by decide) ?_
          refine fr_goto (tgt := 48) hB dX8_odds_44 (by decide) ?_
          refine fr_istore hB dX8_odds_48 (by decide) rfl ?_
          refine fr_iload hB dX8_odds_50 rfl ?_
          refine fr_if_neN (tgt := 62) hB dX8_odds_52 (by decide) (by omega) (fun h9 => ?_) (fun h9 => ?_)
          · exact absurd h9 (by omega)
          · refine fr_iload hB dX8_odds_55 rfl ?_
            refine fr_if_neN (tgt := 62) hB dX8_odds_57 (by decide) (by omega) (fun h9 => ?_) (fun h9 => ?_)
            · refine fr_lv [some (.ref (fm_rh X 0)), some (.int s), some (.int k), some (.int v), some (.ref (fm_rh X 2)), some (.int (nI 0)), none, none, none] ⟨rfl, rfl, rfl, rfl, rfl, rfl, trivial⟩ ?_
              exact ca_ h2 h1
            · exact absurd h9 (by omega)
  refine fr_aload_n hB dX8_odds_0 rfl rfl ?_
  refine fr_getR hB dX8_odds_1 lf_X8_14 rfl rfl ?_
  refine fr_getR hB dX8_odds_4 lf_X8_67 rfl rfl ?_
  refine fr_astore hB dX8_odds_7 (by decide) rfl ?_
  refine fr_iload_n hB dX8_odds_9 rfl rfl ?_
  refine fr_if_ne (tgt := 26) hB dX8_odds_10 (by decide) (fun h => ?_) (fun h => ?_)
  · rcases mid with q | q
    · refine fr_lv [some (.ref (fm_rh X 0)), some (.int s), some (.int k), some (.int v), some (.ref (fm_rh X 2)), none, none, none, none] ⟨rfl, rfl, rfl, rfl, rfl, trivial⟩ ?_
      exact q
    · exact absurd (by rw [q.1]; decide) h
  · have hs : s = nI 0 := by rw [nI_0]; exact Decidable.not_not.mp h
    refine fr_aload hB dX8_odds_13 rfl ?_
    refine fr_iload_n hB dX8_odds_15 rfl rfl ?_
    refine fr_callV hB _ _ dX8_odds_16 lm_X8_94 rfl (ct_X3_hasPart shC_Pl2 hc.1.pl.parts) rfl rfl (Nat.le_of_ble_eq_true rfl) (fm_room hR (by decide) (by decide)) ?_
    rintro _ M9 ⟨rfl, hM9⟩
    rw [hM9]
    clear hM9 M9
    refine fr_ret1 ?_
    refine fr_if_eqB (tgt := 26) hB dX8_odds_19 (by decide) (fun h2 => ?_) (fun h2 => ?_)
    · rcases mid with q | q
      · refine fr_lv [some (.ref (fm_rh X 0)), some (.int s), some (.int k), some (.int v), some (.ref (fm_rh X 2)), none, none, none, none] ⟨rfl, rfl, rfl, rfl, rfl, trivial⟩ ?_
        exact q
      · rw [h2] at q
        cases q.2
    · refine fr_iconst (v := nI 1) hB dX8_odds_22 (by decide) ?_
      refine fr_goto (tgt := 27) hB dX8_odds_23 (by decide) ?_
      refine fr_istore hB dX8_odds_27 (by decide) rfl ?_
      refine fr_iload_n hB dX8_odds_29 rfl rfl ?_
      refine fr_iconst (v := nI 1) hB dX8_odds_30 (by decide) ?_
      refine fr_icmp_ne (tgt := 47) hB dX8_odds_31 (by decide) (fun h1 => ?_) (fun h1 => ?_)
      · refine fr_iconst (v := nI 0) hB dX8_odds_47 (by decide) ?_
        refine fr_istore hB dX8_odds_48 (by decide) rfl ?_
        refine fr_iload hB dX8_odds_50 rfl ?_
        refine fr_if_neN (tgt := 62) hB dX8_odds_52 (by decide) (by omega) (fun h9 => ?_) (fun h9 => ?_)
        · refine fr_lv [some (.ref (fm_rh X 0)), some (.int s), some (.int k), some (.int v), some (.ref (fm_rh X 2)), some (.int (nI 1)), none, none, none] ⟨rfl, rfl, rfl, rfl, rfl, rfl, trivial⟩ ?_
          exact pt_ h2 hs
        · exact absurd h9 (by decide)
      · exact absurd (by rw [hs]; decide) h1
def sp_of (P : fm_P) (s k w : Int32) : Int32 := if s = nI 0 then fm_ofPart P k w else if s = nI 1 then fm_ofGate P k w else if s = nI 2 then fm_ofCause P k w else -1
theorem cc_of {E : fm_E} {s k w : Int32} {Z : fm_Z} {M : fm_M} (hc : fm_CR Z M) (hw : fm_WZ Z) : fm_C shC E mX8_of 2 [.ref (E.2.1 0), .int s, .int k, .int w] M (fun r M' => r = some (.int (sp_of Z.1 s k w)) ∧ M' = M) := by
  refine fm_C.of (by decide +kernel) (Nat.le_of_ble_eq_true rfl) ?_
  intro X hE hR hB
  subst hE
  have hB : fm_B _ X cX8_of 4 RX8 (some .int) := hB
  refine fr_lv [some (.ref (fm_rh X 0)), some (.int s), some (.int k), some (.int w)] ⟨rfl, rfl, rfl, rfl, trivial⟩ ?_
  refine fr_iload_n hB dX8_of_0 rfl rfl ?_
  rcases fm_cases s 3 (by decide) with ⟨i, hi, rfl⟩ | hout
  · rcases (show i = 0 ∨ i = 1 ∨ i = 2 by omega) with rfl | rfl | rfl
    · refine fr_tableIn (tgt := 28) hB dX8_of_1 (by decide) (by decide) (by rfl) (by decide) ?_
      refine fr_aload_n hB dX8_of_28 rfl rfl ?_
      refine fr_getR hB dX8_of_29 lf_X8_14 rfl rfl ?_
      refine fr_getR hB dX8_of_32 lf_X8_67 rfl rfl ?_
      refine fr_iload_n hB dX8_of_35 rfl rfl ?_
      refine fr_iload_n hB dX8_of_36 rfl rfl ?_
      refine fr_callV hB _ _ dX8_of_37 lm_X8_126 rfl (ct_X3_ofPart shC_Pl2 hc.1.pl hw.1.1) rfl rfl (Nat.le_of_ble_eq_true rfl) (fm_room hR (by decide) (by decide)) ?_
      rintro _ M9 ⟨rfl, hM9⟩
      rw [hM9]
      clear hM9 M9
      refine fr_ret1 ?_
      exact fr_ireturn hB dX8_of_40 (⟨rfl, rfl⟩)
    · refine fr_tableIn (tgt := 41) hB dX8_of_1 (by decide) (by decide) (by rfl) (by decide) ?_
      refine fr_aload_n hB dX8_of_41 rfl rfl ?_
      refine fr_getR hB dX8_of_42 lf_X8_14 rfl rfl ?_
      refine fr_getR hB dX8_of_45 lf_X8_67 rfl rfl ?_
      refine fr_iload_n hB dX8_of_48 rfl rfl ?_
      refine fr_iload_n hB dX8_of_49 rfl rfl ?_
      refine fr_callV hB _ _ dX8_of_50 lm_X8_129 rfl (ct_X3_ofGate shC_Pl2 hc.1.pl hw.1.1) rfl rfl (Nat.le_of_ble_eq_true rfl) (fm_room hR (by decide) (by decide)) ?_
      rintro _ M9 ⟨rfl, hM9⟩
      rw [hM9]
      clear hM9 M9
      refine fr_ret1 ?_
      exact fr_ireturn hB dX8_of_53 (⟨rfl, rfl⟩)
    · refine fr_tableIn (tgt := 54) hB dX8_of_1 (by decide) (by decide) (by rfl) (by decide) ?_
      refine fr_aload_n hB dX8_of_54 rfl rfl ?_
      refine fr_getR hB dX8_of_55 lf_X8_14 rfl rfl ?_
      refine fr_getR hB dX8_of_58 lf_X8_67 rfl rfl ?_
      refine fr_iload_n hB dX8_of_61 rfl rfl ?_
      refine fr_iload_n hB dX8_of_62 rfl rfl ?_
      refine fr_callV hB _ _ dX8_of_63 lm_X8_132 rfl (ct_X3_ofCause shC_Pl2 hc.1.pl hw.1.1) rfl rfl (Nat.le_of_ble_eq_true rfl) (fm_room hR (by decide) (by decide)) ?_
      rintro _ M9 ⟨rfl, hM9⟩
      rw [hM9]
      clear hM9 M9
      refine fr_ret1 ?_
      exact fr_ireturn hB dX8_of_66 (⟨rfl, rfl⟩)
  · have e : ∀ i : Nat, i < 3 → ¬ s = nI i := fun i hi q => by
      rw [q, nI_toInt (by omega)] at hout
      omega
    refine fr_tableOut (tgt := 67) hB dX8_of_1 (by omega) (by decide) ?_
    refine fr_iconst (v := -1) hB dX8_of_67 (by decide) ?_
    exact fr_ireturn hB dX8_of_68 (⟨by rw [sp_of, if_neg (e 0 (by decide)), if_neg (e 1 (by decide)), if_neg (e 2 (by decide))], rfl⟩)
