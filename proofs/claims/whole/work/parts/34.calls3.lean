/-! ===== FaultGraph: event, image, undo, tapes ===== -/
def sp_evok (P : fm_P) (w n : Int32) : Bool := ((decide (w = nI 0) || decide (w = nI 1)) && fm_lt n (P 0 0)) || ((decide (w = nI 2) || decide (w = nI 3)) && fm_lt n (P 3 0))
def sp_event (P : fm_P) (w n : Int32) : Int32 × fm_P := if w = -1 then (nI 0, fm_u P 15 0 0) else if sp_evok P w n then (if P 15 0 < 8 then (nI (P 15 0 + 1), fm_u (fm_u (fm_u P 16 (P 15 0) w.toNatClampNeg) 17 (P 15 0) n.toNatClampNeg) 15 0 (P 15 0 + 1)) else (-4, P)) else (-1, P)
theorem cc_event {E : fm_E} {w n : Int32} {Z : fm_Z} {M : fm_M} (hc : fm_CR Z M) (hw : fm_WZ Z) : fm_C shC E mX8_event 1 [.ref (E.2.1 0), .int w, .int n] M (fun r M' => r = some (.int (sp_event Z.1 w n).1) ∧ fm_CR ((sp_event Z.1 w n).2, Z.2) M') := by
  have h6 := hw.1.1.p6
  have h8 := hw.1.1.g8
  have hr8 := hw.1.2.2.1
  refine fm_C.of (by decide +kernel) (Nat.le_of_ble_eq_true rfl) ?_
  intro X hE hR hB
  subst hE
  have hB : fm_B _ X cX8_event 5 RX8 (some .int) := hB
  refine fr_lv [some (.ref (fm_rh X 0)), some (.int w), some (.int n), none, none] ⟨rfl, rfl, rfl, trivial⟩ ?_
  have good : ∀ a b : Nat, w = nI a → n = nI b → a < 4 → b < 8 → sp_evok Z.1 w n = true → fm_W shC X 5 87 [some (.ref (fm_rh X 0)), some (.int w), some (.int n), none, none] [] M (fm_Q shC X (fun r M' => r = some (.int (sp_event Z.1 w n).1) ∧ fm_CR ((sp_event Z.1 w n).2, Z.2) M')) := by
    intro a b ha hb ha4 hb8 hok
    have hne : ¬ w = -1 := by
      rw [ha]
      rcases (show a = 0 ∨ a = 1 ∨ a = 2 ∨ a = 3 by omega) with rfl | rfl | rfl | rfl <;> decide
    have ea : w.toNatClampNeg = a := by rw [ha]; exact nI_clamp (by omega)
    have eb : n.toNatClampNeg = b := by rw [hb]; exact nI_clamp (by omega)
    refine fr_aload_n hB dX8_event_87 rfl rfl ?_
    refine fr_getR hB dX8_event_88 lf_X8_14 rfl rfl ?_
    refine fr_getR hB dX8_event_91 lf_X8_288 rfl rfl ?_
    refine fr_iload_n hB dX8_event_94 rfl rfl ?_
    refine fr_iload_n hB dX8_event_95 rfl rfl ?_
    refine fr_callV hB _ _ dX8_event_96 lm_X8_275 rfl (ct_X4_add shC_Ro16 (by omega) hc.1.2.2.2.2.1 hr8) rfl rfl (Nat.le_of_ble_eq_true rfl) (fm_room hR (by decide) (by decide)) ?_
    rintro _ M9 ⟨rfl, hM9⟩
    rw [hM9]
    clear hM9 M9
    refine fr_ret1 ?_
    unfold sp_event
    rw [if_neg hne, if_pos hok, ea, eb, ha, hb]
    by_cases hp : Z.1 15 0 < 8
    · rw [if_pos hp, if_pos hp, if_pos hp]
      exact fr_ireturn hB dX8_event_99 (⟨rfl, hc.now hc.1.event (fun b hb => by simp [fm_u, show ¬ b = 16 by omega, show ¬ b = 17 by omega, show ¬ b = 18 by omega]) (fun _ _ => rfl)⟩)
    · rw [if_neg hp, if_neg hp, if_neg hp]
      exact fr_ireturn hB dX8_event_99 (⟨rfl, hc⟩)
  have bad : ¬ w = -1 → sp_evok Z.1 w n = false → fm_W shC X 5 85 [some (.ref (fm_rh X 0)), some (.int w), some (.int n), none, none] [] M (fm_Q shC X (fun r M' => r = some (.int (sp_event Z.1 w n).1) ∧ fm_CR ((sp_event Z.1 w n).2, Z.2) M')) := by
    intro hne hok
    refine fr_iconst (v := -1) hB dX8_event_85 (by decide) ?_
    exact fr_ireturn hB dX8_event_86 (⟨by rw [sp_event, if_neg hne, hok]; rfl, by rw [sp_event, if_neg hne, hok]; exact hc⟩)
  have p3 : (w = nI 2 ∨ w = nI 3) → fm_W shC X 5 55 [some (.ref (fm_rh X 0)), some (.int w), some (.int n), some (.int (nI 0)), none] [] M (fm_Q shC X (fun r M' => r = some (.int (sp_event Z.1 w n).1) ∧ fm_CR ((sp_event Z.1 w n).2, Z.2) M')) := by
    intro hw3
    have hne : ¬ w = -1 := by rcases hw3 with rfl | rfl <;> decide
    refine fr_aload_n hB dX8_event_55 rfl rfl ?_
    refine fr_getR hB dX8_event_56 lf_X8_14 rfl rfl ?_
    refine fr_getR hB dX8_event_59 lf_X8_67 rfl rfl ?_
    refine fr_iload_n hB dX8_event_62 rfl rfl ?_
    refine fr_callV hB _ _ dX8_event_63 lm_X8_84 rfl (ct_X3_hasGate shC_Pl2 hc.1.pl.gates) rfl rfl (Nat.le_of_ble_eq_true rfl) (fm_room hR (by decide) (by decide)) ?_
    rintro _ M9 ⟨rfl, hM9⟩
    rw [hM9]
    clear hM9 M9
    refine fr_ret1 ?_
    refine fr_if_eqB (tgt := 73) hB dX8_event_66 (by decide) (fun h => ?_) (fun h => ?_)
    · have hok : sp_evok Z.1 w n = false := by
        unfold sp_evok
        rcases hw3 with rfl | rfl <;> simp [h, show ¬ nI 2 = nI 0 by decide, show ¬ nI 2 = nI 1 by decide, show ¬ nI 3 = nI 0 by decide, show ¬ nI 3 = nI 1 by decide]
      refine fr_iconst (v := nI 0) hB dX8_event_73 (by decide) ?_
      refine fr_istore hB dX8_event_74 (by decide) rfl ?_
      refine fr_iload_n hB dX8_event_76 rfl rfl ?_
      refine fr_if_neN (tgt := 87) hB dX8_event_77 (by decide) (by omega) (fun h9 => ?_) (fun h9 => ?_)
      · exact absurd h9 (by omega)
      · refine fr_iload hB dX8_event_80 rfl ?_
        refine fr_if_neN (tgt := 87) hB dX8_event_82 (by decide) (by omega) (fun h9 => ?_) (fun h9 => ?_)
        · exact absurd h9 (by omega)
        · refine fr_lv [some (.ref (fm_rh X 0)), some (.int w), some (.int n), none, none] ⟨rfl, rfl, rfl, trivial⟩ ?_
          exact bad hne hok
    · obtain ⟨b, hb, hb2⟩ := fm_lt_of (by omega) h
      have hok : sp_evok Z.1 w n = true := by
        unfold sp_evok
        rcases hw3 with rfl | rfl <;> simp [h]
      refine fr_iconst (v := nI 1) hB dX8_event_69 (by decide) ?_
      refine fr_goto (tgt := 74) hB dX8_event_70 (by decide) ?_
      refine fr_istore hB dX8_event_74 (by decide) rfl ?_
      refine fr_iload_n hB dX8_event_76 rfl rfl ?_
      refine fr_if_neN (tgt := 87) hB dX8_event_77 (by decide) (by omega) (fun h9 => ?_) (fun h9 => ?_)
      · exact absurd h9 (by omega)
      · refine fr_iload hB dX8_event_80 rfl ?_
        refine fr_if_neN (tgt := 87) hB dX8_event_82 (by decide) (by omega) (fun h9 => ?_) (fun h9 => ?_)
        · refine fr_lv [some (.ref (fm_rh X 0)), some (.int w), some (.int n), none, none] ⟨rfl, rfl, rfl, trivial⟩ ?_
          rcases hw3 with q | q
          · exact good 2 b q hb2 (by omega) (by omega) hok
          · exact good 3 b q hb2 (by omega) (by omega) hok
        · exact absurd h9 (by omega)
  have p2 : (w = nI 0 ∨ w = nI 1) → fm_W shC X 5 25 [some (.ref (fm_rh X 0)), some (.int w), some (.int n), none, none] [] M (fm_Q shC X (fun r M' => r = some (.int (sp_event Z.1 w n).1) ∧ fm_CR ((sp_event Z.1 w n).2, Z.2) M')) := by
    intro hw3
    have hne : ¬ w = -1 := by rcases hw3 with rfl | rfl <;> decide
    have hn2 : ¬ w = nI 2 := by rcases hw3 with rfl | rfl <;> decide
    have hn3 : ¬ w = nI 3 := by rcases hw3 with rfl | rfl <;> decide
    refine fr_aload_n hB dX8_event_25 rfl rfl ?_
    refine fr_getR hB dX8_event_26 lf_X8_14 rfl rfl ?_
    refine fr_getR hB dX8_event_29 lf_X8_67 rfl rfl ?_
    refine fr_iload_n hB dX8_event_32 rfl rfl ?_
    refine fr_callV hB _ _ dX8_event_33 lm_X8_94 rfl (ct_X3_hasPart shC_Pl2 hc.1.pl.parts) rfl rfl (Nat.le_of_ble_eq_true rfl) (fm_room hR (by decide) (by decide)) ?_
    rintro _ M9 ⟨rfl, hM9⟩
    rw [hM9]
    clear hM9 M9
    refine fr_ret1 ?_
    refine fr_if_eqB (tgt := 43) hB dX8_event_36 (by decide) (fun h => ?_) (fun h => ?_)
    · have hok : sp_evok Z.1 w n = false := by
        unfold sp_evok
        simp [h, hn2, hn3]
      refine fr_iconst (v := nI 0) hB dX8_event_43 (by decide) ?_
      refine fr_istore_n hB dX8_event_44 rfl (by decide) rfl ?_
      refine fr_iload_n hB dX8_event_45 rfl rfl ?_
      refine fr_iconst (v := nI 2) hB dX8_event_46 (by decide) ?_
      refine fr_icmp_eq (tgt := 55) hB dX8_event_47 (by decide) (fun h5 => ?_) (fun h5 => ?_)
      · exact absurd h5 hn2
      · refine fr_iload_n hB dX8_event_50 rfl rfl ?_
        refine fr_iconst (v := nI 3) hB dX8_event_51 (by decide) ?_
        refine fr_icmp_ne (tgt := 73) hB dX8_event_52 (by decide) (fun h5 => ?_) (fun h5 => ?_)
        · refine fr_iconst (v := nI 0) hB dX8_event_73 (by decide) ?_
          refine fr_istore hB dX8_event_74 (by decide) rfl ?_
          refine fr_iload_n hB dX8_event_76 rfl rfl ?_
          refine fr_if_neN (tgt := 87) hB dX8_event_77 (by decide) (by omega) (fun h9 => ?_) (fun h9 => ?_)
          · exact absurd h9 (by omega)
          · refine fr_iload hB dX8_event_80 rfl ?_
            refine fr_if_neN (tgt := 87) hB dX8_event_82 (by decide) (by omega) (fun h9 => ?_) (fun h9 => ?_)
            · exact absurd h9 (by omega)
            · refine fr_lv [some (.ref (fm_rh X 0)), some (.int w), some (.int n), none, none] ⟨rfl, rfl, rfl, trivial⟩ ?_
              exact bad hne hok
        · exact absurd (Decidable.not_not.mp h5) hn3
    · obtain ⟨b, hb, hb2⟩ := fm_lt_of (by omega) h
      have hok : sp_evok Z.1 w n = true := by
        unfold sp_evok
        rcases hw3 with rfl | rfl <;> simp [h]
      refine fr_iconst (v := nI 1) hB dX8_event_39 (by decide) ?_
      refine fr_goto (tgt := 44) hB dX8_event_40 (by decide) ?_
      refine fr_istore_n hB dX8_event_44 rfl (by decide) rfl ?_
      refine fr_iload_n hB dX8_event_45 rfl rfl ?_
      refine fr_iconst (v := nI 2) hB dX8_event_46 (by decide) ?_
      refine fr_icmp_eq (tgt := 55) hB dX8_event_47 (by decide) (fun h5 => ?_) (fun h5 => ?_)
      · exact absurd h5 hn2
      · refine fr_iload_n hB dX8_event_50 rfl rfl ?_
        refine fr_iconst (v := nI 3) hB dX8_event_51 (by decide) ?_
        refine fr_icmp_ne (tgt := 73) hB dX8_event_52 (by decide) (fun h5 => ?_) (fun h5 => ?_)
        · refine fr_iconst (v := nI 0) hB dX8_event_73 (by decide) ?_
          refine fr_istore hB dX8_event_74 (by decide) rfl ?_
          refine fr_iload_n hB dX8_event_76 rfl rfl ?_
          refine fr_if_neN (tgt := 87) hB dX8_event_77 (by decide) (by omega) (fun h9 => ?_) (fun h9 => ?_)
          · refine fr_lv [some (.ref (fm_rh X 0)), some (.int w), some (.int n), none, none] ⟨rfl, rfl, rfl, trivial⟩ ?_
            rcases hw3 with q | q
            · exact good 0 b q hb2 (by omega) (by omega) hok
            · exact good 1 b q hb2 (by omega) (by omega) hok
          · exact absurd h9 (by omega)
        · exact absurd (Decidable.not_not.mp h5) hn3
  refine fr_iload_n hB dX8_event_0 rfl rfl ?_
  refine fr_iconst (v := -1) hB dX8_event_1 (by decide) ?_
  refine fr_icmp_ne (tgt := 16) hB dX8_event_2 (by decide) (fun h => ?_) (fun h => ?_)
  · refine fr_iload_n hB dX8_event_16 rfl rfl ?_
    refine fr_if_eq (tgt := 25) hB dX8_event_17 (by decide) (fun h1 => ?_) (fun h1 => ?_)
    · refine fr_lv [some (.ref (fm_rh X 0)), some (.int w), some (.int n), none, none] ⟨rfl, rfl, rfl, trivial⟩ ?_
      exact p2 (Or.inl (by rw [nI_0]; exact h1))
    · refine fr_iload_n hB dX8_event_20 rfl rfl ?_
      refine fr_iconst (v := nI 1) hB dX8_event_21 (by decide) ?_
      refine fr_icmp_ne (tgt := 43) hB dX8_event_22 (by decide) (fun h2 => ?_) (fun h2 => ?_)
      · refine fr_iconst (v := nI 0) hB dX8_event_43 (by decide) ?_
        refine fr_istore_n hB dX8_event_44 rfl (by decide) rfl ?_
        refine fr_iload_n hB dX8_event_45 rfl rfl ?_
        refine fr_iconst (v := nI 2) hB dX8_event_46 (by decide) ?_
        refine fr_icmp_eq (tgt := 55) hB dX8_event_47 (by decide) (fun h3 => ?_) (fun h3 => ?_)
        · refine fr_lv [some (.ref (fm_rh X 0)), some (.int w), some (.int n), some (.int (nI 0)), none] ⟨rfl, rfl, rfl, rfl, trivial⟩ ?_
          exact p3 (Or.inl h3)
        · refine fr_iload_n hB dX8_event_50 rfl rfl ?_
          refine fr_iconst (v := nI 3) hB dX8_event_51 (by decide) ?_
          refine fr_icmp_ne (tgt := 73) hB dX8_event_52 (by decide) (fun h4 => ?_) (fun h4 => ?_)
          · have hok : sp_evok Z.1 w n = false := by
              have h1 : ¬ w = nI 0 := by rw [nI_0]; exact h1
              unfold sp_evok
              simp [h1, h2, h3, h4]
            refine fr_iconst (v := nI 0) hB dX8_event_73 (by decide) ?_
            refine fr_istore hB dX8_event_74 (by decide) rfl ?_
            refine fr_iload_n hB dX8_event_76 rfl rfl ?_
            refine fr_if_neN (tgt := 87) hB dX8_event_77 (by decide) (by omega) (fun h9 => ?_) (fun h9 => ?_)
            · exact absurd h9 (by omega)
            · refine fr_iload hB dX8_event_80 rfl ?_
              refine fr_if_neN (tgt := 87) hB dX8_event_82 (by decide) (by omega) (fun h9 => ?_) (fun h9 => ?_)
              · exact absurd h9 (by omega)
              · refine fr_lv [some (.ref (fm_rh X 0)), some (.int w), some (.int n), none, none] ⟨rfl, rfl, rfl, trivial⟩ ?_
                exact bad h hok
          · refine fr_lv [some (.ref (fm_rh X 0)), some (.int w), some (.int n), some (.int (nI 0)), none] ⟨rfl, rfl, rfl, rfl, trivial⟩ ?_
            exact p3 (Or.inr (Decidable.not_not.mp h4))
      · refine fr_lv [some (.ref (fm_rh X 0)), some (.int w), some (.int n), none, none] ⟨rfl, rfl, rfl, trivial⟩ ?_
        exact p2 (Or.inr (Decidable.not_not.mp h2))
  · have h : w = -1 := Decidable.not_not.mp h
    refine fr_aload_n hB dX8_event_5 rfl rfl ?_
    refine fr_getR hB dX8_event_6 lf_X8_14 rfl rfl ?_
    refine fr_getR hB dX8_event_9 lf_X8_288 rfl rfl ?_
    refine fr_callV hB _ _ dX8_event_12 lm_X8_270 rfl (ct_X4_empty shC_Ro16) rfl rfl (Nat.le_of_ble_eq_true rfl) (fm_room hR (by decide) (by decide)) ?_
    rintro _ M9 ⟨rfl, hM9⟩
    rw [hM9]
    clear hM9 M9
    refine fr_ret1 ?_
    exact fr_ireturn hB dX8_event_15 (⟨by rw [sp_event, if_pos h], by rw [sp_event, if_pos h]; exact hc.now hc.1.event0 (fun b hb => by simp [fm_u, show ¬ b = 16 by omega]) (fun _ _ => rfl)⟩)
theorem shC_Ro22a : fm_Ro shC (22 + 12) 6 := shC_Ro34
theorem shC_Ro22b : fm_Ro shC (22 + 15) 8 := shC_Ro37
theorem shC_Ro22c : fm_Ro shC (22 + 18) 8 := shC_Ro40
theorem shC_Ro1a : fm_Ro shC (1 + 12) 6 := shC_Ro13
theorem shC_Ro1b : fm_Ro shC (1 + 15) 8 := shC_Ro16
theorem shC_Ro1c : fm_Ro shC (1 + 18) 8 := shC_Ro19
theorem ct_X6_copyFrom_22 {E : fm_E} {P : fm_P} {M : fm_M} (hr : fm_SR 1 P M) (hw : fm_wF P) : fm_C shC E mX6_copyFrom 2 [.ref (E.2.1 22), .ref (E.2.1 1)] M (fun r M' => r = none ∧ fm_SR 22 P M' ∧ (∀ a, a ≤ 22 ∨ 22 + 21 ≤ a → M'.1 a = M.1 a) ∧ M'.2 = M.2) := by
  obtain ⟨r0, r1, r2, r3, r4, r5, r6, r7, r8⟩ := hr
  obtain ⟨w1, w2, w3, -⟩ := hw.2
  refine fm_C.of (by decide +kernel) (Nat.le_of_ble_eq_true rfl) ?_
  intro X hE hR hB
  subst hE
  have hB : fm_B _ X cX6_copyFrom 2 RX6 none := hB
  refine fr_lv [some (.ref (fm_rh X 22)), some (.ref (fm_rh X 1))] ⟨rfl, rfl, trivial⟩ ?_
  refine fr_aload_n hB dX6_copyFrom_0 rfl rfl ?_
  refine fr_getR hB dX6_copyFrom_1 lf_X6_12 rfl rfl ?_
  refine fr_aload_n hB dX6_copyFrom_4 rfl rfl ?_
  refine fr_getR hB dX6_copyFrom_5 lf_X6_12 rfl rfl ?_
  refine fr_callV hB _ _ dX6_copyFrom_8 lm_X6_33 rfl (ct_X3_copyFrom_23_2 r0) rfl rfl (Nat.le_of_ble_eq_true rfl) (fm_room hR (by decide) (by decide)) ?_
  rintro _ _ ⟨rfl, a1, a2, a3⟩
  refine fr_ret0 ?_
  rename_i M1
  refine fr_aload_n hB dX6_copyFrom_11 rfl rfl ?_
  refine fr_getR hB dX6_copyFrom_12 lf_X6_23 rfl rfl ?_
  refine fr_aload_n hB dX6_copyFrom_15 rfl rfl ?_
  refine fr_getR hB dX6_copyFrom_16 lf_X6_23 rfl rfl ?_
  refine fr_callV hB _ _ dX6_copyFrom_19 lm_X6_37 rfl (ct_X4_copyFrom (k := 22 + 12) (k2 := 1 + 12) (c := P 12 0) shC_Ro22a shC_Ro1a (by omega) (by omega) (by rw [a2 _ (by omega)]; exact r1) w1) rfl rfl (Nat.le_of_ble_eq_true rfl) (fm_room hR (by decide) (by decide)) ?_
  rintro _ _ ⟨rfl, b1, b2, b3, b4, b5⟩
  refine fr_ret0 ?_
  rename_i M2
  refine fr_aload_n hB dX6_copyFrom_22 rfl rfl ?_
  refine fr_getR hB dX6_copyFrom_23 lf_X6_27 rfl rfl ?_
  refine fr_aload_n hB dX6_copyFrom_26 rfl rfl ?_
  refine fr_getR hB dX6_copyFrom_27 lf_X6_27 rfl rfl ?_
  refine fr_callV hB _ _ dX6_copyFrom_30 lm_X6_37 rfl (ct_X4_copyFrom (k := 22 + 15) (k2 := 1 + 15) (c := P 15 0) shC_Ro22b shC_Ro1b (by omega) (by omega) (by rw [b4 _ (by omega) (by omega) (by omega), a2 _ (by omega)]; exact r4) w2) rfl rfl (Nat.le_of_ble_eq_true rfl) (fm_room hR (by decide) (by decide)) ?_
  rintro _ _ ⟨rfl, c1, c2, c3, c4, c5⟩
  refine fr_ret0 ?_
  rename_i M3
  refine fr_aload_n hB dX6_copyFrom_33 rfl rfl ?_
  refine fr_getR hB dX6_copyFrom_34 lf_X6_30 rfl rfl ?_
  refine fr_aload_n hB dX6_copyFrom_37 rfl rfl ?_
  refine fr_getR hB dX6_copyFrom_38 lf_X6_30 rfl rfl ?_
  refine fr_callV hB _ _ dX6_copyFrom_41 lm_X6_37 rfl (ct_X4_copyFrom (k := 22 + 18) (k2 := 1 + 18) (c := P 18 0) shC_Ro22c shC_Ro1c (by omega) (by omega) (by rw [c4 _ (by omega) (by omega) (by omega), b4 _ (by omega) (by omega) (by omega), a2 _ (by omega)]; exact r7) w3) rfl rfl (Nat.le_of_ble_eq_true rfl) (fm_room hR (by decide) (by decide)) ?_
  rintro _ _ ⟨rfl, d1, d2, d3, d4, d5⟩
  refine fr_ret0 ?_
  rename_i M4
  have keep : ∀ a, a ≤ 22 + 11 ∨ 22 + 21 ≤ a → M4.1 a = M1.1 a := fun a ha => by
    rw [d4 a (by omega) (by omega) (by omega), c4 a (by omega) (by omega) (by omega), b4 a (by omega) (by omega) (by omega)]
  refine fr_return hB dX6_copyFrom_44 ⟨rfl, ⟨a1.kept (fun a h1 h2 => keep a (by omega)), ?_, fun j hj => ?_, fun j hj => ?_, ?_, fun j hj => ?_, fun j hj => ?_, ?_, fun j hj => ?_⟩, fun a ha => ?_, ?_⟩
  · rw [d4 _ (by omega) (by omega) (by omega), c4 _ (by omega) (by omega) (by omega)]; exact b1
  · rw [d4 _ (by omega) (by omega) (by omega), c4 _ (by omega) (by omega) (by omega)]
    have := b2 j hj
    rw [a2 _ (by omega)] at this
    exact this.trans (r2 j hj)
  · rw [d4 _ (by omega) (by omega) (by omega), c4 _ (by omega) (by omega) (by omega)]
    have := b3 j hj
    rw [a2 _ (by omega)] at this
    exact this.trans (r3 j hj)
  · rw [d4 _ (by omega) (by omega) (by omega)]; exact c1
  · rw [d4 _ (by omega) (by omega) (by omega)]
    have := c2 j hj
    rw [b4 _ (by omega) (by omega) (by omega), a2 _ (by omega)] at this
    exact this.trans (r5 j hj)
  · rw [d4 _ (by omega) (by omega) (by omega)]
    have := c3 j hj
    rw [b4 _ (by omega) (by omega) (by omega), a2 _ (by omega)] at this
    exact this.trans (r6 j hj)
  · exact d1
  · have := d2 j hj
    rw [c4 _ (by omega) (by omega) (by omega), b4 _ (by omega) (by omega) (by omega), a2 _ (by omega)] at this
    exact this.trans (r8 j hj)
  · rw [keep a (by omega), a2 a (by omega)]
  · rw [d5, c5, b5, a3]
theorem ct_X6_copyFrom_1 {E : fm_E} {P : fm_P} {M : fm_M} (hr : fm_SR 22 P M) (hw : fm_wF P) : fm_C shC E mX6_copyFrom 2 [.ref (E.2.1 1), .ref (E.2.1 22)] M (fun r M' => r = none ∧ fm_SR 1 P M' ∧ (∀ a, a ≤ 1 ∨ 1 + 21 ≤ a → M'.1 a = M.1 a) ∧ M'.2 = M.2) := by
  obtain ⟨r0, r1, r2, r3, r4, r5, r6, r7, r8⟩ := hr
  obtain ⟨w1, w2, w3, -⟩ := hw.2
  refine fm_C.of (by decide +kernel) (Nat.le_of_ble_eq_true rfl) ?_
  intro X hE hR hB
  subst hE
  have hB : fm_B _ X cX6_copyFrom 2 RX6 none := hB
  refine fr_lv [some (.ref (fm_rh X 1)), some (.ref (fm_rh X 22))] ⟨rfl, rfl, trivial⟩ ?_
  refine fr_aload_n hB dX6_copyFrom_0 rfl rfl ?_
  refine fr_getR hB dX6_copyFrom_1 lf_X6_12 rfl rfl ?_
  refine fr_aload_n hB dX6_copyFrom_4 rfl rfl ?_
  refine fr_getR hB dX6_copyFrom_5 lf_X6_12 rfl rfl ?_
  refine fr_callV hB _ _ dX6_copyFrom_8 lm_X6_33 rfl (ct_X3_copyFrom_2_23 r0) rfl rfl (Nat.le_of_ble_eq_true rfl) (fm_room hR (by decide) (by decide)) ?_
  rintro _ _ ⟨rfl, a1, a2, a3⟩
  refine fr_ret0 ?_
  rename_i M1
  refine fr_aload_n hB dX6_copyFrom_11 rfl rfl ?_
  refine fr_getR hB dX6_copyFrom_12 lf_X6_23 rfl rfl ?_
  refine fr_aload_n hB dX6_copyFrom_15 rfl rfl ?_
  refine fr_getR hB dX6_copyFrom_16 lf_X6_23 rfl rfl ?_
  refine fr_callV hB _ _ dX6_copyFrom_19 lm_X6_37 rfl (ct_X4_copyFrom (k := 1 + 12) (k2 := 22 + 12) (c := P 12 0) shC_Ro1a shC_Ro22a (by omega) (by omega) (by rw [a2 _ (by omega)]; exact r1) w1) rfl rfl (Nat.le_of_ble_eq_true rfl) (fm_room hR (by decide) (by decide)) ?_
  rintro _ _ ⟨rfl, b1, b2, b3, b4, b5⟩
  refine fr_ret0 ?_
  rename_i M2
  refine fr_aload_n hB dX6_copyFrom_22 rfl rfl ?_
  refine fr_getR hB dX6_copyFrom_23 lf_X6_27 rfl rfl ?_
  refine fr_aload_n hB dX6_copyFrom_26 rfl rfl ?_
  refine fr_getR hB dX6_copyFrom_27 lf_X6_27 rfl rfl ?_
  refine fr_callV hB _ _ dX6_copyFrom_30 lm_X6_37 rfl (ct_X4_copyFrom (k := 1 + 15) (k2 := 22 + 15) (c := P 15 0) shC_Ro1b shC_Ro22b (by omega) (by omega) (by rw [b4 _ (by omega) (by omega) (by omega), a2 _ (by omega)]; exact r4) w2) rfl rfl (Nat.le_of_ble_eq_true rfl) (fm_room hR (by decide) (by decide)) ?_
  rintro _ _ ⟨rfl, c1, c2, c3, c4, c5⟩
  refine fr_ret0 ?_
  rename_i M3
  refine fr_aload_n hB dX6_copyFrom_33 rfl rfl ?_
  refine fr_getR hB dX6_copyFrom_34 lf_X6_30 rfl rfl ?_
  refine fr_aload_n hB dX6_copyFrom_37 rfl rfl ?_
  refine fr_getR hB dX6_copyFrom_38 lf_X6_30 rfl rfl ?_
  refine fr_callV hB _ _ dX6_copyFrom_41 lm_X6_37 rfl (ct_X4_copyFrom (k := 1 + 18) (k2 := 22 + 18) (c := P 18 0) shC_Ro1c shC_Ro22c (by omega) (by omega) (by rw [c4 _ (by omega) (by omega) (by omega), b4 _ (by omega) (by omega) (by omega), a2 _ (by omega)]; exact r7) w3) rfl rfl (Nat.le_of_ble_eq_true rfl) (fm_room hR (by decide) (by decide)) ?_
  rintro _ _ ⟨rfl, d1, d2, d3, d4, d5⟩
  refine fr_ret0 ?_
  rename_i M4
  have keep : ∀ a, a ≤ 1 + 11 ∨ 1 + 21 ≤ a → M4.1 a = M1.1 a := fun a ha => by
    rw [d4 a (by omega) (by omega) (by omega), c4 a (by omega) (by omega) (by omega), b4 a (by omega) (by omega) (by omega)]
  refine fr_return hB dX6_copyFrom_44 ⟨rfl, ⟨a1.kept (fun a h1 h2 => keep a (by omega)), ?_, fun j hj => ?_, fun j hj => ?_, ?_, fun j hj => ?_, fun j hj => ?_, ?_, fun j hj => ?_⟩, fun a ha => ?_, ?_⟩
  · rw [d4 _ (by omega) (by omega) (by omega), c4 _ (by omega) (by omega) (by omega)]; exact b1
  · rw [d4 _ (by omega) (by omega) (by omega), c4 _ (by omega) (by omega) (by omega)]
    have := b2 j hj
    rw [a2 _ (by omega)] at this
    exact this.trans (r2 j hj)
  · rw [d4 _ (by omega) (by omega) (by omega), c4 _ (by omega) (by omega) (by omega)]
    have := b3 j hj
    rw [a2 _ (by omega)] at this
    exact this.trans (r3 j hj)
  · rw [d4 _ (by omega) (by omega) (by omega)]; exact c1
  · rw [d4 _ (by omega) (by omega) (by omega)]
    have := c2 j hj
    rw [b4 _ (by omega) (by omega) (by omega), a2 _ (by omega)] at this
    exact this.trans (r5 j hj)
  · rw [d4 _ (by omega) (by omega) (by omega)]
    have := c3 j hj
    rw [b4 _ (by omega) (by omega) (by omega), a2 _ (by omega)] at this
    exact this.trans (r6 j hj)
  · exact d1
  · have := d2 j hj
    rw [c4 _ (by omega) (by omega) (by omega), b4 _ (by omega) (by omega) (by omega), a2 _ (by omega)] at this
    exact this.trans (r8 j hj)
  · rw [keep a (by omega), a2 a (by omega)]
  · rw [d5, c5, b5, a3]
