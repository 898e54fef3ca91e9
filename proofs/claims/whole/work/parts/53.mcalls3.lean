/-! ===== the reference: goes, move, see, event, book, tapes ===== -/
theorem ct_X9_goes {E : fm_E} {w b : Nat} {M : fm_M} (hw6 : w < 6) (hb6 : b < 6) : fm_C shM E mX9_goes 0 [.ref (E.2.1 0), .int (nI w), .int (nI b)] M (fun r M' => r = none ∧ M' = (fm_row M.1 2 (fm_mv (M.1 2) w b), M.2)) := by
  obtain ⟨f, hf⟩ : ∃ f, f = M.1 2 := ⟨_, rfl⟩
  refine fm_C.of (by decide +kernel) (Nat.le_of_ble_eq_true rfl) ?_
  intro X hE hR hB
  subst hE
  have hB : fm_B _ X cX9_goes 5 RX9 none := hB
  refine fr_lv [some (.ref (fm_rh X 0)), some (.int (nI w)), some (.int (nI b)), none, none] ⟨rfl, rfl, rfl, trivial⟩ ?_
  rw [← hf]
  have l2 : ∀ d i : Nat, b + d = i → i ≤ w → fm_W shM X 5 41 [some (.ref (fm_rh X 0)), some (.int (nI w)), some (.int (nI b)), some (.int (f w)), some (.int (nI i))] [] (fm_row M.1 2 (fm_s2 f w b i), M.2) (fm_Q shM X (fun r M' => r = none ∧ M' = (fm_row M.1 2 (fm_mv f w b), M.2))) := by
    intro d
    induction d with
    | zero =>
      intro i hi hiw
      refine fr_iload hB dX9_goes_41 rfl ?_
      refine fr_iload_n hB dX9_goes_43 rfl rfl ?_
      refine fr_icmp_leN (tgt := 69) hB dX9_goes_44 (by decide) (by omega) (by omega) (fun h => ?_) (fun h => ?_)
      · refine fr_aload_n hB dX9_goes_69 rfl rfl ?_
        refine fr_getR hB dX9_goes_70 lf_X9_15 rfl rfl ?_
        refine fr_iload_n hB dX9_goes_73 rfl rfl ?_
        refine fr_iload_n hB dX9_goes_74 rfl rfl ?_
        refine fr_iast hB (_) dX9_goes_75 rfl (rfl) (by omega) (by decide) ?_
        refine fr_mem (fm_row M.1 2 (fm_mv f w b), M.2) (fm_pi_row (fun j => ?_)) ?_
        · unfold fm_mv fm_s2 fm_s1
          by_cases e1 : j = b
          · simp [e1]
          · by_cases e2 : w ≤ j ∧ j < b
            · have : ¬ (b < j ∧ j ≤ w) := by omega
              have : ¬ (i < j ∧ j ≤ w) := by omega
              simp [e1, e2, this]
            · by_cases e3 : b < j ∧ j ≤ w
              · have : i < j ∧ j ≤ w := by omega
                simp [e1, e2, e3, this]
              · have : ¬ (i < j ∧ j ≤ w) := by omega
                simp [e1, e2, e3, this]
        · exact fr_return hB dX9_goes_76 (⟨rfl, rfl⟩)
      · exact absurd h (by omega)
    | succ d ih =>
      intro i hi hiw
      obtain ⟨i', rfl⟩ : ∃ i', i = i' + 1 := ⟨i - 1, by omega⟩
      refine fr_iload hB dX9_goes_41 rfl ?_
      refine fr_iload_n hB dX9_goes_43 rfl rfl ?_
      refine fr_icmp_leN (tgt := 69) hB dX9_goes_44 (by decide) (by omega) (by omega) (fun h => ?_) (fun h => ?_)
      · exact absurd h (by omega)
      · refine fr_aload_n hB dX9_goes_47 rfl rfl ?_
        refine fr_getR hB dX9_goes_48 lf_X9_15 rfl rfl ?_
        refine fr_iload hB dX9_goes_51 rfl ?_
        refine fr_aload_n hB dX9_goes_53 rfl rfl ?_
        refine fr_getR hB dX9_goes_54 lf_X9_15 rfl rfl ?_
        refine fr_iload hB dX9_goes_57 rfl ?_
        refine fr_iconst (v := nI 1) hB dX9_goes_59 (by decide) ?_
        refine fr_isubN hB dX9_goes_60 (by omega) ?_
        refine fr_iald hB (_) dX9_goes_61 rfl (rfl) (by omega) (by decide) ?_
        refine fr_eqi (f i') (by simp only [fm_row_same, fm_s2, fm_s1]; rw [if_neg (by omega), if_neg (by omega), Nat.add_sub_cancel]) ?_
        refine fr_iast hB (_) dX9_goes_62 rfl (rfl) (by omega) (by decide) ?_
        refine fr_iincP hB dX9_goes_63 rfl (by decide) rfl ?_
        refine fr_goto (tgt := 41) hB dX9_goes_66 (by decide) ?_
        refine fr_mem (fm_row M.1 2 (fm_s2 f w b i'), M.2) (fm_pi_row (fun j => ?_)) (ih i' (by omega) (by omega))
        unfold fm_s2
        by_cases e1 : j = i' + 1
        · have : i' < j ∧ j ≤ w := by omega
          simp [e1, this]
          omega
        · by_cases e2 : i' + 1 < j ∧ j ≤ w
          · have : i' < j ∧ j ≤ w := by omega
            simp [e1, e2, this]
          · have : ¬ (i' < j ∧ j ≤ w) := by omega
            simp [e1, e2, this]
  have l42 : fm_W shM X 5 38 [some (.ref (fm_rh X 0)), some (.int (nI w)), some (.int (nI b)), some (.int (f w)), none] [] (fm_row M.1 2 (fm_s1 f w b), M.2) (fm_Q shM X (fun r M' => r = none ∧ M' = (fm_row M.1 2 (fm_mv f w b), M.2))) := by
    refine fr_iload_n hB dX9_goes_38 rfl rfl ?_
    refine fr_istore hB dX9_goes_39 (by decide) rfl ?_
    have e : fm_s2 f w b w = fm_s1 f w b := by
      funext j
      unfold fm_s2
      rw [if_neg (by omega)]
    rcases Nat.lt_or_ge b w with q | q
    · rw [← e]
      exact l2 (w - b) w (by omega) (Nat.le_refl w)
    · refine fr_iload hB dX9_goes_41 rfl ?_
      refine fr_iload_n hB dX9_goes_43 rfl rfl ?_
      refine fr_icmp_leN (tgt := 69) hB dX9_goes_44 (by decide) (by omega) (by omega) (fun h => ?_) (fun h => ?_)
      · refine fr_aload_n hB dX9_goes_69 rfl rfl ?_
        refine fr_getR hB dX9_goes_70 lf_X9_15 rfl rfl ?_
        refine fr_iload_n hB dX9_goes_73 rfl rfl ?_
        refine fr_iload_n hB dX9_goes_74 rfl rfl ?_
        refine fr_iast hB (_) dX9_goes_75 rfl (rfl) (by omega) (by decide) ?_
        refine fr_mem (fm_row M.1 2 (fm_mv f w b), M.2) (fm_pi_row (fun j => ?_)) ?_
        · unfold fm_mv fm_s1
          by_cases e1 : j = b
          · simp [e1]
          · by_cases e2 : w ≤ j ∧ j < b
            · simp [e1, e2]
            · have : ¬ (b < j ∧ j ≤ w) := by omega
              simp [e1, e2, this]
        · exact fr_return hB dX9_goes_76 (⟨rfl, rfl⟩)
      · exact absurd h (by omega)
  have l1 : ∀ d i : Nat, i + d = b ∨ (i = w ∧ b ≤ w ∧ d = 0) → w ≤ i → i < 6 → fm_W shM X 5 10 [some (.ref (fm_rh X 0)), some (.int (nI w)), some (.int (nI b)), some (.int (f w)), some (.int (nI i))] [] (fm_row M.1 2 (fm_s1 f w i), M.2) (fm_Q shM X (fun r M' => r = none ∧ M' = (fm_row M.1 2 (fm_mv f w b), M.2))) := by
    intro d
    induction d using Nat.strongRecOn with
    | ind d ih =>
      intro i hi hwi hi6
      refine fr_iload hB dX9_goes_10 rfl ?_
      refine fr_iload_n hB dX9_goes_12 rfl rfl ?_
      refine fr_icmp_geN (tgt := 38) hB dX9_goes_13 (by decide) (by omega) (by omega) (fun h => ?_) (fun h => ?_)
      · refine fr_lv [some (.ref (fm_rh X 0)), some (.int (nI w)), some (.int (nI b)), some (.int (f w)), none] ⟨rfl, rfl, rfl, rfl, trivial⟩ ?_
        have e : fm_s1 f w i = fm_s1 f w b := by
          funext j
          unfold fm_s1
          by_cases e1 : w ≤ j ∧ j < b
          · have : w ≤ j ∧ j < i := by omega
            simp [e1, this]
          · have : ¬ (w ≤ j ∧ j < i) := by omega
            simp [e1, this]
        rw [e]
        exact l42
      · refine fr_aload_n hB dX9_goes_16 rfl rfl ?_
        refine fr_getR hB dX9_goes_17 lf_X9_15 rfl rfl ?_
        refine fr_iload hB dX9_goes_20 rfl ?_
        refine fr_aload_n hB dX9_goes_22 rfl rfl ?_
        refine fr_getR hB dX9_goes_23 lf_X9_15 rfl rfl ?_
        refine fr_iload hB dX9_goes_26 rfl ?_
        refine fr_iconst (v := nI 1) hB dX9_goes_28 (by decide) ?_
        refine fr_iaddN hB dX9_goes_29 ?_
        refine fr_iald hB (_) dX9_goes_30 rfl (rfl) (by omega) (by decide) ?_
        refine fr_eqi (f (i + 1)) (by simp only [fm_row_same, fm_s1]; rw [if_neg (by omega)]) ?_
        refine fr_iast hB (_) dX9_goes_31 rfl (rfl) (by omega) (by decide) ?_
        refine fr_iincN (b := 1) hB dX9_goes_32 rfl (by decide) (by decide) rfl ?_
        refine fr_goto (tgt := 10) hB dX9_goes_35 (by decide) ?_
        refine fr_mem (fm_row M.1 2 (fm_s1 f w (i + 1)), M.2) (fm_pi_row (fun j => ?_)) (ih (d - 1) (by omega) (i + 1) (by omega) (by omega) (by omega))
        unfold fm_s1
        by_cases e1 : j = i
        · have : w ≤ j ∧ j < i + 1 := by omega
          simp [e1, this]
          omega
        · by_cases e2 : w ≤ j ∧ j < i
          · have : w ≤ j ∧ j < i + 1 := by omega
            simp [e1, e2, this]
          · have : ¬ (w ≤ j ∧ j < i + 1) := by omega
            simp [e1, e2, this]
  have e0 : M = (fm_row M.1 2 (fm_s1 f w w), M.2) := by
    have : fm_s1 f w w = M.1 2 := by
      funext j
      unfold fm_s1
      rw [if_neg (by omega), hf]
    rw [this, fm_row_self]
  refine fr_aload_n hB dX9_goes_0 rfl rfl ?_
  refine fr_getR hB dX9_goes_1 lf_X9_15 rfl rfl ?_
  refine fr_iload_n hB dX9_goes_4 rfl rfl ?_
  refine fr_iald hB (_) dX9_goes_5 rfl (rfl) (by omega) (by decide) ?_
  refine fr_eqi (f w) (by rw [hf]) ?_
  refine fr_istore_n hB dX9_goes_6 rfl (by decide) rfl ?_
  refine fr_iload_n hB dX9_goes_7 rfl rfl ?_
  refine fr_istore hB dX9_goes_8 (by decide) rfl ?_
  refine fr_mem _ e0 ?_
  exact l1 (b - w) w (by omega) (Nat.le_refl w) (by omega)
theorem fm_NP.mv {P : fm_P} {M : fm_M} (h : fm_NP P M) {a b : Nat} (ha : a < 6) (hb : b < 6) : fm_NP (fm_row P 2 (fm_mv (P 2) a b)) (fm_row M.1 2 (fm_mv (M.1 2) a b), M.2) := by
  refine ⟨?_, ?_, ?_, ?_, ?_, ?_, ?_, ?_, ?_, ?_, ?_, ?_⟩
  · simpa [fm_row] using h.parts
  · simpa [fm_row] using h.odds
  · simpa [fm_row] using fm_mv_nI h.order ha hb
  · simpa [fm_row] using h.gates
  · simpa [fm_row] using h.kind
  · simpa [fm_row] using h.need
  · simpa [fm_row] using h.cnt
  · simpa [fm_row] using h.inp
  · simpa [fm_row] using h.top
  · simpa [fm_row] using h.causes
  · simpa [fm_row] using h.codds
  · simpa [fm_row] using h.cbits
theorem fm_NR.mv {P : fm_P} {M : fm_M} (h : fm_NR P M) {a b : Nat} (ha : a < 6) (hb : b < 6) : fm_NR (fm_row P 2 (fm_mv (P 2) a b)) (fm_row M.1 2 (fm_mv (M.1 2) a b), M.2) := by
  refine ⟨h.1.mv ha hb, ?_, ?_, ?_, ?_, ?_, ?_, ?_, ?_⟩
  · simpa [fm_row] using h.r12
  · simpa [fm_row] using h.r13
  · simpa [fm_row] using h.r14
  · simpa [fm_row] using h.r15
  · simpa [fm_row] using h.r16
  · simpa [fm_row] using h.r17
  · simpa [fm_row] using h.r18
  · simpa [fm_row] using h.r19
theorem mm_move {E : fm_E} {n m : Int32} {Z : fm_Z} {M : fm_M} (hm : fm_MR Z M) (hw : fm_WZ Z) : fm_C shM E mX9_move 2 [.ref (E.2.1 0), .int n, .int m] M (fun r M' => r = some (.int (sp_move Z.1 n m).1) ∧ fm_MR ((sp_move Z.1 n m).2, Z.2) M') := by
  have h6 := hw.1.1.p6
  refine fm_C.of (by decide +kernel) (Nat.le_of_ble_eq_true rfl) ?_
  intro X hE hR hB
  subst hE
  have hB : fm_B _ X cX9_move 4 RX9 (some .int) := hB
  refine fr_lv [some (.ref (fm_rh X 0)), some (.int n), some (.int m), none] ⟨rfl, rfl, rfl, trivial⟩ ?_
  refine fr_aload_n hB dX9_move_0 rfl rfl ?_
  refine fr_iload_n hB dX9_move_1 rfl rfl ?_
  refine fr_callV hB _ _ dX9_move_2 lm_X9_111 rfl (ct_X9_isPart hm.1.pl hw.1.1) rfl rfl (Nat.le_of_ble_eq_true rfl) (fm_room hR (by decide) (by decide)) ?_
  rintro _ M9 ⟨rfl, hM9⟩
  rw [hM9]
  clear hM9 M9
  refine fr_ret1 ?_
  refine fr_if_neB (tgt := 10) hB dX9_move_5 (by decide) (fun h => ?_) (fun h => ?_)
  · refine fr_iload_n hB dX9_move_10 rfl rfl ?_
    refine fr_iconst (v := nI 0) hB dX9_move_11 (by decide) ?_
    refine fr_aload_n hB dX9_move_12 rfl rfl ?_
    refine fr_getI hB dX9_move_13 lf_X9_90 rfl rfl ?_
    refine fr_eqi _ (hm.1.pl.parts) ?_
    refine fr_iconst (v := nI 1) hB dX9_move_16 (by decide) ?_
    refine fr_isub hB dX9_move_17 ?_
    refine fr_callS hB _ _ dX9_move_18 lm_X9_93 (ct_X9_win (show Z.1 0 0 < 2 ^ 31 by omega)) rfl rfl (Nat.le_of_ble_eq_true rfl) (fm_room hR (by decide) (by decide)) ?_
    rintro _ M9 ⟨rfl, hM9⟩
    rw [hM9]
    clear hM9 M9
    refine fr_ret1 ?_
    refine fr_if_neB (tgt := 27) hB dX9_move_21 (by decide) (fun h2 => ?_) (fun h2 => ?_)
    · obtain ⟨a, ha, rfl⟩ := fm_lt_of (by omega) h
      obtain ⟨b, hb, rfl⟩ := fm_lt_of (by omega) h2
      have hpos := hw.1.1.ord.pos h6 ha
      have e : sp_move Z.1 (nI a) (nI b) = (nI (fm_pos (Z.1 2) a), sp_mv Z.1 a b) := by rw [sp_move, if_pos h, if_pos h2, nI_clamp (show a < 2 ^ 31 by omega), nI_clamp (show b < 2 ^ 31 by omega)]
      refine fr_aload_n hB dX9_move_27 rfl rfl ?_
      refine fr_iload_n hB dX9_move_28 rfl rfl ?_
      refine fr_callV hB _ _ dX9_move_29 lm_X9_124 rfl (ct_X9_placeOf hm.1.pl hw.1.1 ha) rfl rfl (Nat.le_of_ble_eq_true rfl) (fm_room hR (by decide) (by decide)) ?_
      rintro _ M9 ⟨rfl, hM9⟩
      rw [hM9]
      clear hM9 M9
      refine fr_ret1 ?_
      refine fr_istore_n hB dX9_move_32 rfl (by decide) rfl ?_
      refine fr_aload_n hB dX9_move_33 rfl rfl ?_
      refine fr_iload_n hB dX9_move_34 rfl rfl ?_
      refine fr_iload_n hB dX9_move_35 rfl rfl ?_
      refine fr_callV hB _ _ dX9_move_36 lm_X9_178 rfl (ct_X9_goes (show fm_pos (Z.1 2) a < 6 by omega) (show b < 6 by omega)) rfl rfl (Nat.le_of_ble_eq_true rfl) (fm_room hR (by decide) (by decide)) ?_
      rintro _ M9 ⟨rfl, hM9⟩
      rw [hM9]
      clear hM9 M9
      refine fr_ret0 ?_
      refine fr_iload_n hB dX9_move_39 rfl rfl ?_
      exact fr_ireturn hB dX9_move_40 (⟨by rw [e], by rw [e]; exact hm.now (hm.1.mv (by omega) (by omega)) (fun j hj => rfl) (fun c hcc => fm_row_ne _ _ (by omega)) rfl⟩)
    · refine fr_bipush (v := -2) hB dX9_move_24 (by decide) ?_
      exact fr_ireturn hB dX9_move_26 (⟨by rw [sp_move, if_pos h, h2]; rfl, by rw [sp_move, if_pos h, h2]; exact hm⟩)
  · refine fr_iconst (v := -1) hB dX9_move_8 (by decide) ?_
    exact fr_ireturn hB dX9_move_9 (⟨by rw [sp_move, h]; rfl, by rw [sp_move, h]; exact hm⟩)
theorem mm_see {E : fm_E} {n : Int32} {b : Bool} {Z : fm_Z} {M : fm_M} (hm : fm_MR Z M) (hw : fm_WZ Z) : fm_C shM E mX9_see 2 [.ref (E.2.1 0), .int n, .int (fm_ib b)] M (fun r M' => r = some (.int (sp_see Z.1 n b).1) ∧ fm_MR ((sp_see Z.1 n b).2, Z.2) M') := by
  have h2c := fm_2c hw.1.1.p6
  have hr6 := hw.1.2.1
  refine fm_C.of (by decide +kernel) (Nat.le_of_ble_eq_true rfl) ?_
  intro X hE hR hB
  subst hE
  have hB : fm_B _ X cX9_see 3 RX9 (some .int) := hB
  refine fr_lv [some (.ref (fm_rh X 0)), some (.int n), some (.int (fm_ib b))] ⟨rfl, rfl, rfl, trivial⟩ ?_
  refine fr_iload_n hB dX9_see_0 rfl rfl ?_
  refine fr_iconst (v := -1) hB dX9_see_1 (by decide) ?_
  refine fr_icmp_ne (tgt := 12) hB dX9_see_2 (by decide) (fun h => ?_) (fun h => ?_)
  · refine fr_aload_n hB dX9_see_12 rfl rfl ?_
    refine fr_iload_n hB dX9_see_13 rfl rfl ?_
    refine fr_callV hB _ _ dX9_see_14 lm_X9_118 rfl (ct_X9_isSet hm.1.pl hw.1.1) rfl rfl (Nat.le_of_ble_eq_true rfl) (fm_room hR (by decide) (by decide)) ?_
    rintro _ M9 ⟨rfl, hM9⟩
    rw [hM9]
    clear hM9 M9
    refine fr_ret1 ?_
    refine fr_if_neB (tgt := 23) hB dX9_see_17 (by decide) (fun h2 => ?_) (fun h2 => ?_)
    · obtain ⟨a, ha, rfl⟩ := fm_lt_of (by omega) h2
      have ea : (nI a).toNatClampNeg = a := nI_clamp (by omega)
      refine fr_aload_n hB dX9_see_23 rfl rfl ?_
      refine fr_getI hB dX9_see_24 lf_X9_268 rfl rfl ?_
      refine fr_eqi _ (hm.1.r12) ?_
      refine fr_bipush (v := nI 6) hB dX9_see_27 (by decide) ?_
      refine fr_icmp_neN (tgt := 35) hB dX9_see_29 (by decide) (by omega) (by omega) (fun hp => ?_) (fun hp => ?_)
      · have e : sp_see Z.1 (nI a) b = (nI (Z.1 12 0 + 1), fm_u (fm_u (fm_u Z.1 13 (Z.1 12 0) a) 14 (Z.1 12 0) (fm_bn b)) 12 0 (Z.1 12 0 + 1)) := by rw [sp_see, if_neg h, if_pos h2, if_pos (by omega), ea]
        rw [e]
        have fin := hm.now (hm.1.see (x := a) (y := fm_bn b)) (fun j hj => by simp [fm_u_at]; omega) (fun c hb => by simp [fm_u, show ¬ c = 0 by omega, show ¬ c = 9 by omega, show ¬ c = 10 by omega]) rfl
        refine fr_aload_n hB dX9_see_35 rfl rfl ?_
        refine fr_getR hB dX9_see_36 lf_X9_40 rfl rfl ?_
        refine fr_aload_n hB dX9_see_39 rfl rfl ?_
        refine fr_getI hB dX9_see_40 lf_X9_268 rfl rfl ?_
        refine fr_eqi _ (hm.1.r12) ?_
        refine fr_iload_n hB dX9_see_43 rfl rfl ?_
        refine fr_iast hB (_) dX9_see_44 rfl (rfl) (by omega) (by decide) ?_
        refine fr_aload_n hB dX9_see_45 rfl rfl ?_
        refine fr_getR hB dX9_see_46 lf_X9_43 rfl rfl ?_
        refine fr_aload_n hB dX9_see_49 rfl rfl ?_
        refine fr_getI hB dX9_see_50 lf_X9_268 rfl rfl ?_
        refine fr_eqi _ (hm.1.r12) ?_
        refine fr_iload_n hB dX9_see_53 rfl rfl ?_
        refine fr_if_eqB (tgt := 61) hB dX9_see_54 (by decide) (fun hb => ?_) (fun hb => ?_)
        · rw [hb] at fin ⊢
          refine fr_iconst (v := nI 0) hB dX9_see_61 (by decide) ?_
          refine fr_iast hB (_) dX9_see_62 rfl (rfl) (by omega) (by decide) ?_
          refine fr_aload_n hB dX9_see_63 rfl rfl ?_
          refine fr_dup hB dX9_see_64 rfl ?_
          refine fr_getI hB dX9_see_65 lf_X9_268 rfl rfl ?_
          refine fr_eqi _ (hm.1.r12) ?_
          refine fr_iconst (v := nI 1) hB dX9_see_68 (by decide) ?_
          refine fr_iaddN hB dX9_see_69 ?_
          refine fr_putI hB dX9_see_70 lp_X9_268 rfl rfl ?_
          refine fr_aload_n hB dX9_see_73 rfl rfl ?_
          refine fr_getI hB dX9_see_74 lf_X9_268 rfl rfl ?_
          refine fr_eqi (nI (Z.1 12 0 + 1)) (by simp [fm_u]) ?_
          exact fr_ireturn hB dX9_see_77 (⟨rfl, fin⟩)
        · rw [hb] at fin ⊢
          refine fr_iconst (v := nI 1) hB dX9_see_57 (by decide) ?_
          refine fr_goto (tgt := 62) hB dX9_see_58 (by decide) ?_
          refine fr_iast hB (_) dX9_see_62 rfl (rfl) (by omega) (by decide) ?_
          refine fr_aload_n hB dX9_see_63 rfl rfl ?_
          refine fr_dup hB dX9_see_64 rfl ?_
          refine fr_getI hB dX9_see_65 lf_X9_268 rfl rfl ?_
          refine fr_eqi _ (hm.1.r12) ?_
          refine fr_iconst (v := nI 1) hB dX9_see_68 (by decide) ?_
          refine fr_iaddN hB dX9_see_69 ?_
          refine fr_putI hB dX9_see_70 lp_X9_268 rfl rfl ?_
          refine fr_aload_n hB dX9_see_73 rfl rfl ?_
          refine fr_getI hB dX9_see_74 lf_X9_268 rfl rfl ?_
          refine fr_eqi (nI (Z.1 12 0 + 1)) (by simp [fm_u]) ?_
          exact fr_ireturn hB dX9_see_77 (⟨rfl, fin⟩)
      · have e : sp_see Z.1 (nI a) b = (-4, Z.1) := by rw [sp_see, if_neg h, if_pos h2, if_neg (by omega)]
        refine fr_bipush (v := -4) hB dX9_see_32 (by decide) ?_
        exact fr_ireturn hB dX9_see_34 (⟨by rw [e], by rw [e]; exact hm⟩)
    · refine fr_bipush (v := -2) hB dX9_see_20 (by decide) ?_
      exact fr_ireturn hB dX9_see_22 (⟨by rw [sp_see, if_neg h, h2]; rfl, by rw [sp_see, if_neg h, h2]; exact hm⟩)
  · have h : n = -1 := Decidable.not_not.mp h
    refine fr_aload_n hB dX9_see_5 rfl rfl ?_
    refine fr_iconst (v := nI 0) hB dX9_see_6 (by decide) ?_
    refine fr_putI hB dX9_see_7 lp_X9_268 rfl rfl ?_
    refine fr_iconst (v := nI 0) hB dX9_see_10 (by decide) ?_
    exact fr_ireturn hB dX9_see_11 (⟨by rw [sp_see, if_pos h], by rw [sp_see, if_pos h]; exact hm.now hm.1.see0 (fun j hj => by simp [fm_u_at]; omega) (fun b hb => by simp [fm_u, show ¬ b = 0 by omega]) rfl⟩)
theorem mm_book {E : fm_E} {n : Int32} {Z : fm_Z} {M : fm_M} (hm : fm_MR Z M) (hw : fm_WZ Z) : fm_C shM E mX9_book 2 [.ref (E.2.1 0), .int n] M (fun r M' => r = some (.int (sp_book Z.1 n).1) ∧ fm_MR ((sp_book Z.1 n).2, Z.2) M') := by
  have h2c := fm_2c hw.1.1.p6
  have hr8 := hw.1.2.2.2.1
  refine fm_C.of (by decide +kernel) (Nat.le_of_ble_eq_true rfl) ?_
  intro X hE hR hB
  subst hE
  have hB : fm_B _ X cX9_book 2 RX9 (some .int) := hB
  refine fr_lv [some (.ref (fm_rh X 0)), some (.int n)] ⟨rfl, rfl, trivial⟩ ?_
  refine fr_iload_n hB dX9_book_0 rfl rfl ?_
  refine fr_iconst (v := -1) hB dX9_book_1 (by decide) ?_
  refine fr_icmp_ne (tgt := 12) hB dX9_book_2 (by decide) (fun h => ?_) (fun h => ?_)
  · refine fr_aload_n hB dX9_book_12 rfl rfl ?_
    refine fr_iload_n hB dX9_book_13 rfl rfl ?_
    refine fr_callV hB _ _ dX9_book_14 lm_X9_118 rfl (ct_X9_isSet hm.1.pl hw.1.1) rfl rfl (Nat.le_of_ble_eq_true rfl) (fm_room hR (by decide) (by decide)) ?_
    rintro _ M9 ⟨rfl, hM9⟩
    rw [hM9]
    clear hM9 M9
    refine fr_ret1 ?_
    refine fr_if_neB (tgt := 23) hB dX9_book_17 (by decide) (fun h2 => ?_) (fun h2 => ?_)
    · obtain ⟨a, ha, rfl⟩ := fm_lt_of (by omega) h2
      have ea : (nI a).toNatClampNeg = a := nI_clamp (by omega)
      refine fr_aload_n hB dX9_book_23 rfl rfl ?_
      refine fr_getI hB dX9_book_24 lf_X9_278 rfl rfl ?_
      refine fr_eqi _ (hm.1.r18) ?_
      refine fr_bipush (v := nI 8) hB dX9_book_27 (by decide) ?_
      refine fr_icmp_neN (tgt := 35) hB dX9_book_29 (by decide) (by omega) (by omega) (fun hp => ?_) (fun hp => ?_)
      · have e : sp_book Z.1 (nI a) = (nI (Z.1 18 0 + 1), fm_u (fm_u Z.1 19 (Z.1 18 0) a) 18 0 (Z.1 18 0 + 1)) := by rw [sp_book, if_neg h, if_pos h2, if_pos (by omega), ea]
        rw [e]
        refine fr_aload_n hB dX9_book_35 rfl rfl ?_
        refine fr_getR hB dX9_book_36 lf_X9_49 rfl rfl ?_
        refine fr_aload_n hB dX9_book_39 rfl rfl ?_
        refine fr_dup hB dX9_book_40 rfl ?_
        refine fr_getI hB dX9_book_41 lf_X9_278 rfl rfl ?_
        refine fr_eqi _ (hm.1.r18) ?_
        refine fr_dup_x1 hB dX9_book_44 rfl rfl ?_
        refine fr_iconst (v := nI 1) hB dX9_book_45 (by decide) ?_
        refine fr_iaddN hB dX9_book_46 ?_
        refine fr_putI hB dX9_book_47 lp_X9_278 rfl rfl ?_
        refine fr_iload_n hB dX9_book_50 rfl rfl ?_
        refine fr_iast hB (_) dX9_book_51 rfl (rfl) (by omega) (by decide) ?_
        refine fr_aload_n hB dX9_book_52 rfl rfl ?_
        refine fr_getI hB dX9_book_53 lf_X9_278 rfl rfl ?_
        refine fr_eqi (nI (Z.1 18 0 + 1)) (by simp [fm_u]) ?_
        exact fr_ireturn hB dX9_book_56 (⟨rfl, hm.now hm.1.book (fun j hj => by simp [fm_u_at]; omega) (fun c hb => by simp [fm_u, show ¬ c = 0 by omega, show ¬ c = 12 by omega]) rfl⟩)
      · have e : sp_book Z.1 (nI a) = (-4, Z.1) := by rw [sp_book, if_neg h, if_pos h2, if_neg (by omega)]
        refine fr_bipush (v := -4) hB dX9_book_32 (by decide) ?_
        exact fr_ireturn hB dX9_book_34 (⟨by rw [e], by rw [e]; exact hm⟩)
    · refine fr_bipush (v := -2) hB dX9_book_20 (by decide) ?_
      exact fr_ireturn hB dX9_book_22 (⟨by rw [sp_book, if_neg h, h2]; rfl, by rw [sp_book, if_neg h, h2]; exact hm⟩)
  · have h : n = -1 := Decidable.not_not.mp h
    refine fr_aload_n hB dX9_book_5 rfl rfl ?_
    refine fr_iconst (v := nI 0) hB dX9_book_6 (by decide) ?_
    refine fr_putI hB dX9_book_7 lp_X9_278 rfl rfl ?_
    refine fr_iconst (v := nI 0) hB dX9_book_10 (by decide) ?_
    exact fr_ireturn hB dX9_book_11 (⟨by rw [sp_book, if_pos h], by rw [sp_book, if_pos h]; exact hm.now hm.1.book0 (fun j hj => by simp [fm_u_at]; omega) (fun b hb => by simp [fm_u, show ¬ b = 0 by omega]) rfl⟩)
theorem mm_event {E : fm_E} {w n : Int32} {Z : fm_Z} {M : fm_M} (hm : fm_MR Z M) (hw : fm_WZ Z) : fm_C shM E mX9_event 2 [.ref (E.2.1 0), .int w, .int n] M (fun r M' => r = some (.int (sp_event Z.1 w n).1) ∧ fm_MR ((sp_event Z.1 w n).2, Z.2) M') := by
  have h6 := hw.1.1.p6
  have h8 := hw.1.1.g8
  have hr8 := hw.1.2.2.1
  refine fm_C.of (by decide +kernel) (Nat.le_of_ble_eq_true rfl) ?_
  intro X hE hR hB
  subst hE
  have hB : fm_B _ X cX9_event 3 RX9 (some .int) := hB
  refine fr_lv [some (.ref (fm_rh X 0)), some (.int w), some (.int n)] ⟨rfl, rfl, rfl, trivial⟩ ?_
  have no : sp_evok Z.1 w n = false → ¬ w = -1 → fm_W shM X 3 45 [some (.ref (fm_rh X 0)), some (.int w), some (.int n)] [] M (fm_Q shM X (fun r M' => r = some (.int (sp_event Z.1 w n).1) ∧ fm_MR ((sp_event Z.1 w n).2, Z.2) M')) := by
    intro h1 h2
    have e : sp_event Z.1 w n = (-1, Z.1) := by rw [sp_event, if_neg h2, h1]; rfl
    refine fr_iconst (v := -1) hB dX9_event_45 (by decide) ?_
    exact fr_ireturn hB dX9_event_46 (⟨by rw [e], by rw [e]; exact hm⟩)
  have yes : ∀ a b : Nat, w = nI a → n = nI b → a < 4 → b < 8 → sp_evok Z.1 w n = true → ¬ w = -1 → fm_W shM X 3 47 [some (.ref (fm_rh X 0)), some (.int w), some (.int n)] [] M (fm_Q shM X (fun r M' => r = some (.int (sp_event Z.1 w n).1) ∧ fm_MR ((sp_event Z.1 w n).2, Z.2) M')) := by
    intro a b ea eb ha hb h1 h2
    subst ea eb
    have ea : (nI a).toNatClampNeg = a := nI_clamp (by omega)
    have eb : (nI b).toNatClampNeg = b := nI_clamp (by omega)
    refine fr_aload_n hB dX9_event_47 rfl rfl ?_
    refine fr_getI hB dX9_event_48 lf_X9_275 rfl rfl ?_
    refine fr_eqi _ (hm.1.r15) ?_
    refine fr_bipush (v := nI 8) hB dX9_event_51 (by decide) ?_
    refine fr_icmp_neN (tgt := 59) hB dX9_event_53 (by decide) (by omega) (by omega) (fun hp => ?_) (fun hp => ?_)
    · have e : sp_event Z.1 (nI a) (nI b) = (nI (Z.1 15 0 + 1), fm_u (fm_u (fm_u Z.1 16 (Z.1 15 0) a) 17 (Z.1 15 0) b) 15 0 (Z.1 15 0 + 1)) := by rw [sp_event, if_neg h2, if_pos h1, if_pos (by omega), ea, eb]
      rw [e]
      refine fr_aload_n hB dX9_event_59 rfl rfl ?_
      refine fr_getR hB dX9_event_60 lf_X9_46 rfl rfl ?_
      refine fr_iconst (v := nI 2) hB dX9_event_63 (by decide) ?_
      refine fr_aload_n hB dX9_event_64 rfl rfl ?_
      refine fr_getI hB dX9_event_65 lf_X9_275 rfl rfl ?_
      refine fr_eqi _ (hm.1.r15) ?_
      refine fr_imulN hB dX9_event_68 ?_
      refine fr_iload_n hB dX9_event_69 rfl rfl ?_
      refine fr_iast hB (_) dX9_event_70 rfl (rfl) (by omega) (by decide) ?_
      refine fr_aload_n hB dX9_event_71 rfl rfl ?_
      refine fr_getR hB dX9_event_72 lf_X9_46 rfl rfl ?_
      refine fr_iconst (v := nI 2) hB dX9_event_75 (by decide) ?_
      refine fr_aload_n hB dX9_event_76 rfl rfl ?_
      refine fr_getI hB dX9_event_77 lf_X9_275 rfl rfl ?_
      refine fr_eqi _ (hm.1.r15) ?_
      refine fr_imulN hB dX9_event_80 ?_
      refine fr_iconst (v := nI 1) hB dX9_event_81 (by decide) ?_
      refine fr_iaddN hB dX9_event_82 ?_
      refine fr_iload_n hB dX9_event_83 rfl rfl ?_
      refine fr_iast hB (_) dX9_event_84 rfl (rfl) (by omega) (by decide) ?_
      refine fr_aload_n hB dX9_event_85 rfl rfl ?_
      refine fr_dup hB dX9_event_86 rfl ?_
      refine fr_getI hB dX9_event_87 lf_X9_275 rfl rfl ?_
      refine fr_eqi _ (hm.1.r15) ?_
      refine fr_iconst (v := nI 1) hB dX9_event_90 (by decide) ?_
      refine fr_iaddN hB dX9_event_91 ?_
      refine fr_putI hB dX9_event_92 lp_X9_275 rfl rfl ?_
      refine fr_aload_n hB dX9_event_95 rfl rfl ?_
      refine fr_getI hB dX9_event_96 lf_X9_275 rfl rfl ?_
      refine fr_eqi (nI (Z.1 15 0 + 1)) (by simp [fm_u]) ?_
      exact fr_ireturn hB dX9_event_99 (⟨rfl, hm.now hm.1.event (fun j hj => by simp [fm_u_at]; omega) (fun c hb => by simp [fm_u, show ¬ c = 0 by omega, show ¬ c = 11 by omega]) rfl⟩)
    · have e : sp_event Z.1 (nI a) (nI b) = (-4, Z.1) := by rw [sp_event, if_neg h2, if_pos h1, if_neg (by omega)]
      refine fr_bipush (v := -4) hB dX9_event_56 (by decide) ?_
      exact fr_ireturn hB dX9_event_58 (⟨by rw [e], by rw [e]; exact hm⟩)
  refine fr_iload_n hB dX9_event_0 rfl rfl ?_
  refine fr_iconst (v := -1) hB dX9_event_1 (by decide) ?_
  refine fr_icmp_ne (tgt := 12) hB dX9_event_2 (by decide) (fun h => ?_) (fun h => ?_)
  · refine fr_iload_n hB dX9_event_12 rfl rfl ?_
    refine fr_iconst (v := nI 0) hB dX9_event_13 (by decide) ?_
    refine fr_iconst (v := nI 3) hB dX9_event_14 (by decide) ?_
    refine fr_callS hB _ _ dX9_event_15 lm_X9_93 (ct_X9_wto (c := 3) (by omega)) rfl rfl (Nat.le_of_ble_eq_true rfl) (fm_room hR (by decide) (by decide)) ?_
    rintro _ M9 ⟨rfl, hM9⟩
    rw [hM9]
    clear hM9 M9
    refine fr_ret1 ?_
    refine fr_if_eqB (tgt := 45) hB dX9_event_18 (by decide) (fun h2 => ?_) (fun h2 => ?_)
    · have q : ∀ i : Nat, i < 4 → ¬ w = nI i := fun i hi q => by
        rw [q, fm_lt_nat (by omega) (by omega)] at h2
        exact absurd h2 (by simp; omega)
      exact no (by simp [sp_evok, q 0 (by omega), q 1 (by omega), q 2 (by omega), q 3 (by omega)]) h
    · obtain ⟨a, ha, rfl⟩ := fm_lt_of (by omega) h2
      refine fr_iload_n hB dX9_event_21 rfl rfl ?_
      refine fr_iconst (v := nI 2) hB dX9_event_22 (by decide) ?_
      refine fr_icmp_geN (tgt := 37) hB dX9_event_23 (by decide) (by omega) (by omega) (fun h3 => ?_) (fun h3 => ?_)
      · have ev : sp_evok Z.1 (nI a) n = fm_lt n (Z.1 3 0) := by
          rcases (show a = 2 ∨ a = 3 by omega) with rfl | rfl
          · simp [sp_evok, show ¬ nI 2 = nI 0 by decide, show ¬ nI 2 = nI 1 by decide]
          · simp [sp_evok, show ¬ nI 3 = nI 0 by decide, show ¬ nI 3 = nI 1 by decide]
        refine fr_aload_n hB dX9_event_37 rfl rfl ?_
        refine fr_iload_n hB dX9_event_38 rfl rfl ?_
        refine fr_callV hB _ _ dX9_event_39 lm_X9_108 rfl (ct_X9_isGate hm.1.pl hw.1.1) rfl rfl (Nat.le_of_ble_eq_true rfl) (fm_room hR (by decide) (by decide)) ?_
        rintro _ M9 ⟨rfl, hM9⟩
        rw [hM9]
        clear hM9 M9
        refine fr_ret1 ?_
        refine fr_if_neB (tgt := 47) hB dX9_event_42 (by decide) (fun h4 => ?_) (fun h4 => ?_)
        · obtain ⟨b, hb, e⟩ := fm_lt_of (by omega) h4
          exact yes a b rfl e (by omega) (by omega) (by rw [ev]; exact h4) h
        · exact no (by rw [ev]; exact h4) h
      · have ev : sp_evok Z.1 (nI a) n = fm_lt n (Z.1 0 0) := by
          rcases (show a = 0 ∨ a = 1 by omega) with rfl | rfl
          · simp [sp_evok, show ¬ nI 0 = nI 2 by decide, show ¬ nI 0 = nI 3 by decide]
          · simp [sp_evok, show ¬ nI 1 = nI 2 by decide, show ¬ nI 1 = nI 3 by decide]
        refine fr_aload_n hB dX9_event_26 rfl rfl ?_
        refine fr_iload_n hB dX9_event_27 rfl rfl ?_
        refine fr_callV hB _ _ dX9_event_28 lm_X9_111 rfl (ct_X9_isPart hm.1.pl hw.1.1) rfl rfl (Nat.le_of_ble_eq_true rfl) (fm_room hR (by decide) (by decide)) ?_
        rintro _ M9 ⟨rfl, hM9⟩
        rw [hM9]
        clear hM9 M9
        refine fr_ret1 ?_
        refine fr_if_neB (tgt := 47) hB dX9_event_31 (by decide) (fun h4 => ?_) (fun h4 => ?_)
        · obtain ⟨b, hb, e⟩ := fm_lt_of (by omega) h4
          exact yes a b rfl e (by omega) (by omega) (by rw [ev]; exact h4) h
        · refine fr_goto (tgt := 45) hB dX9_event_34 (by decide) ?_
          exact no (by rw [ev]; exact h4) h
  · have h : w = -1 := Decidable.not_not.mp h
    refine fr_aload_n hB dX9_event_5 rfl rfl ?_
    refine fr_iconst (v := nI 0) hB dX9_event_6 (by decide) ?_
    refine fr_putI hB dX9_event_7 lp_X9_275 rfl rfl ?_
    refine fr_iconst (v := nI 0) hB dX9_event_10 (by decide) ?_
    exact fr_ireturn hB dX9_event_11 (⟨by rw [sp_event, if_pos h], by rw [sp_event, if_pos h]; exact hm.now hm.1.event0 (fun j hj => by simp [fm_u_at]; omega) (fun b hb => by simp [fm_u, show ¬ b = 0 by omega]) rfl⟩)
