/-! ===== the reference: least sets listed; cut, path, looked, judge ===== -/
theorem fm_kp_lt {S : fm_SS} {x : Nat} (h : S.1 < 64) : fm_kp S x = (S.1 + 1, fm_up S.2 S.1 (nI x)) := by rw [fm_kp, if_pos h]
theorem ct_X9_sets {E : fm_E} {b : Bool} {P : fm_P} {M : fm_M} (hm : fm_NP P M) (hw : fm_wf P) (hg : 0 < P 3 0) : fm_C shM E mX9_sets 5 [.ref (E.2.1 0), .int (fm_ib b)] M (fun r M' => r = none ∧ ∃ F, M' = fm_km (fm_row M.1 14 F, M.2) (fm_lst (fm_tb2 P b) (P 0 0) (M.1 19))) := by
  have h6 := hw.p6
  have h2c := fm_2c h6
  refine fm_C.of (by decide +kernel) (Nat.le_of_ble_eq_true rfl) ?_
  intro X hE hR hB
  subst hE
  have hB : fm_B _ X cX9_sets 4 RX9 none := hB
  refine fr_lv [some (.ref (fm_rh X 0)), some (.int (fm_ib b)), none, none] ⟨rfl, rfl, trivial⟩ ?_
  generalize hR0 : fm_lst (fm_tb2 P b) (P 0 0) (M.1 19) = R0
  have hlow : ∀ m, fm_cnt (fun s => decide (fm_bc s < m)) (2 ^ P 0 0) ≤ 64 := fun m => by
    have := fm_cnt_le (fun s => decide (fm_bc s < m)) (2 ^ P 0 0)
    omega
  have lo : ∀ (d m : Nat) (F : Nat → Int32) (S : fm_SS), m + d = P 0 0 + 1 → S.1 ≤ fm_cnt (fun s => decide (fm_bc s < m)) (2 ^ P 0 0) → fm_out (fm_ls (fm_tb2 P b) (P 0 0)) (2 ^ P 0 0) d m S = R0 → fm_W shM X 4 7 [some (.ref (fm_rh X 0)), some (.int (fm_ib b)), some (.int (nI m)), none] [] (fm_km (fm_row M.1 14 F, M.2) S) (fm_Q shM X (fun r M' => r = none ∧ ∃ F, M' = fm_km (fm_row M.1 14 F, M.2) R0)) := by
    intro d
    induction d with
    | zero =>
      intro m F S hmd hS hZ
      have hZ : S = R0 := hZ
      have hmF := (hm.r14 F).mf (fm_mf.km _ S)
      refine fr_iload_n hB dX9_sets_7 rfl rfl ?_
      refine fr_aload_n hB dX9_sets_8 rfl rfl ?_
      refine fr_getI hB dX9_sets_9 lf_X9_90 rfl rfl ?_
      refine fr_eqi _ (hmF.parts) ?_
      refine fr_icmp_gtN (tgt := 73) hB dX9_sets_12 (by decide) (by omega) (by omega) (fun h => ?_) (fun h => ?_)
      · exact fr_return hB dX9_sets_73 (⟨rfl, F, by rw [hZ]⟩)
      · exact absurd h (by omega)
    | succ d ih =>
      intro m F S hmd hS hZ
      have li : ∀ (e i : Nat) (F : Nat → Int32) (S : fm_SS), i + e = 2 ^ P 0 0 → S.1 ≤ fm_cnt (fun s => decide (fm_bc s < m)) (2 ^ P 0 0) + fm_cnt (fun s => decide (fm_bc s = m)) i → fm_out (fm_ls (fm_tb2 P b) (P 0 0)) (2 ^ P 0 0) d (m + 1) (fm_inn (fm_ls (fm_tb2 P b) (P 0 0)) m e i S) = R0 → fm_W shM X 4 17 [some (.ref (fm_rh X 0)), some (.int (fm_ib b)), some (.int (nI m)), some (.int (nI i))] [] (fm_km (fm_row M.1 14 F, M.2) S) (fm_Q shM X (fun r M' => r = none ∧ ∃ F, M' = fm_km (fm_row M.1 14 F, M.2) R0)) := by
        intro e
        induction e with
        | zero =>
          intro i F S hi hS hZ
          have hi : i = 2 ^ P 0 0 := by omega
          have hZ : fm_out (fm_ls (fm_tb2 P b) (P 0 0)) (2 ^ P 0 0) d (m + 1) S = R0 := hZ
          have hmF := (hm.r14 F).mf (fm_mf.km _ S)
          refine fr_iload_n hB dX9_sets_17 rfl rfl ?_
          refine fr_iconst (v := nI 1) hB dX9_sets_18 (by decide) ?_
          refine fr_aload_n hB dX9_sets_19 rfl rfl ?_
          refine fr_getI hB dX9_sets_20 lf_X9_90 rfl rfl ?_
          refine fr_eqi _ (hmF.parts) ?_
          refine fr_ishl hB dX9_sets_23 ?_
          refine fr_eqi (nI (2 ^ P 0 0)) (fm_shl1 h6) ?_
          refine fr_icmp_geN (tgt := 67) hB dX9_sets_24 (by decide) (by omega) (by omega) (fun h => ?_) (fun h => ?_)
          · refine fr_iincN (b := 1) hB dX9_sets_67 rfl (by decide) (by decide) rfl ?_
            refine fr_goto (tgt := 7) hB dX9_sets_70 (by decide) ?_
            refine fr_lv [some (.ref (fm_rh X 0)), some (.int (fm_ib b)), some (.int (nI (m + 1))), none] ⟨rfl, rfl, rfl, trivial⟩ ?_
            rw [hi, fm_cnt_lt1 m] at hS
            exact ih (m + 1) F S (by omega) hS hZ
          · exact absurd h (by omega)
        | succ e ihe =>
          intro i F S hi hS hZ
          have hZ : fm_out (fm_ls (fm_tb2 P b) (P 0 0)) (2 ^ P 0 0) d (m + 1) (fm_inn (fm_ls (fm_tb2 P b) (P 0 0)) m e (i + 1) (if decide (fm_bc i = m) && fm_ls (fm_tb2 P b) (P 0 0) i then fm_kp S i else S)) = R0 := hZ
          have hbc := fm_bc_le i (by omega)
          have hmF := (hm.r14 F).mf (fm_mf.km _ S)
          have hct : fm_cnt (fun s => decide (fm_bc s = m)) (i + 1) = fm_cnt (fun s => decide (fm_bc s = m)) i + (if decide (fm_bc i = m) = true then 1 else 0) := rfl
          refine fr_iload_n hB dX9_sets_17 rfl rfl ?_
          refine fr_iconst (v := nI 1) hB dX9_sets_18 (by decide) ?_
          refine fr_aload_n hB dX9_sets_19 rfl rfl ?_
          refine fr_getI hB dX9_sets_20 lf_X9_90 rfl rfl ?_
          refine fr_eqi _ (hmF.parts) ?_
          refine fr_ishl hB dX9_sets_23 ?_
          refine fr_eqi (nI (2 ^ P 0 0)) (fm_shl1 h6) ?_
          refine fr_icmp_geN (tgt := 67) hB dX9_sets_24 (by decide) (by omega) (by omega) (fun h => ?_) (fun h => ?_)
          · exact absurd h (by omega)
          · refine fr_iload_n hB dX9_sets_27 rfl rfl ?_
            refine fr_callS hB _ _ dX9_sets_28 lm_X9_212 (ct_X9_many (by omega)) rfl rfl (Nat.le_of_ble_eq_true rfl) (fm_room hR (by decide) (by decide)) ?_
            rintro _ M9 ⟨rfl, hM9⟩
            rw [hM9]
            clear hM9 M9
            refine fr_ret1 ?_
            refine fr_iload_n hB dX9_sets_31 rfl rfl ?_
            refine fr_icmp_neN (tgt := 61) hB dX9_sets_32 (by decide) (by omega) (by omega) (fun h2 => ?_) (fun h2 => ?_)
            · refine fr_iincN (b := 1) hB dX9_sets_61 rfl (by decide) (by decide) rfl ?_
              refine fr_goto (tgt := 17) hB dX9_sets_64 (by decide) ?_
              rw [show (decide (fm_bc i = m) && fm_ls (fm_tb2 P b) (P 0 0) i) = false by simp [h2]] at hZ
              exact ihe (i + 1) F S (by omega) (by omega) hZ
            · have hc1 : fm_cnt (fun s => decide (fm_bc s = m)) (i + 1) = fm_cnt (fun s => decide (fm_bc s = m)) i + 1 := by rw [hct, if_pos (decide_eq_true h2)]
              have h64 : S.1 < 64 := by
                have q1 := fm_cnt_mono (fun s => decide (fm_bc s = m)) e (i + 1)
                rw [show i + 1 + e = 2 ^ P 0 0 by omega] at q1
                have q2 := fm_cnt_lt1 m (2 ^ P 0 0)
                have q3 := hlow (m + 1)
                omega
              refine fr_aload_n hB dX9_sets_35 rfl rfl ?_
              refine fr_iload_n hB dX9_sets_36 rfl rfl ?_
              refine fr_iload_n hB dX9_sets_37 rfl rfl ?_
              refine fr_callV hB _ _ dX9_sets_38 lm_X9_215 rfl (ct_X9_isLeast hmF hw hg (show i < 2 ^ P 0 0 by omega)) rfl rfl (Nat.le_of_ble_eq_true rfl) (fm_room hR (by decide) (by decide)) ?_
              rintro _ _ ⟨rfl, F2, rfl⟩
              refine fr_ret1 ?_
              rw [km_r14, show fm_row (fm_row M.1 14 F) 14 F2 = fm_row M.1 14 F2 from fm_row_row _ _ _ _]
              refine fr_if_eqB (tgt := 61) hB dX9_sets_41 (by decide) (fun h3 => ?_) (fun h3 => ?_)
              · refine fr_iincN (b := 1) hB dX9_sets_61 rfl (by decide) (by decide) rfl ?_
                refine fr_goto (tgt := 17) hB dX9_sets_64 (by decide) ?_
                rw [show (decide (fm_bc i = m) && fm_ls (fm_tb2 P b) (P 0 0) i) = false by simp [h3]] at hZ
                exact ihe (i + 1) F2 S (by omega) (by omega) hZ
              · rw [show (decide (fm_bc i = m) && fm_ls (fm_tb2 P b) (P 0 0) i) = true by simp [h2, h3], if_pos rfl, fm_kp_lt h64] at hZ
                refine fr_aload_n hB dX9_sets_44 rfl rfl ?_
                refine fr_getR hB dX9_sets_45 lf_X9_72 rfl rfl ?_
                refine fr_aload_n hB dX9_sets_48 rfl rfl ?_
                refine fr_dup hB dX9_sets_49 rfl ?_
                refine fr_getI hB dX9_sets_50 lf_X9_209 rfl rfl ?_
                refine fr_eqi _ (km_size (fm_row M.1 14 F2, M.2) S) ?_
                refine fr_dup_x1 hB dX9_sets_53 rfl rfl ?_
                refine fr_iconst (v := nI 1) hB dX9_sets_54 (by decide) ?_
                refine fr_iaddN hB dX9_sets_55 ?_
                refine fr_putI hB dX9_sets_56 lp_X9_209 rfl rfl ?_
                rw [km_n]
                refine fr_iload_n hB dX9_sets_59 rfl rfl ?_
                refine fr_iast hB (_) dX9_sets_60 rfl (rfl) (by omega) (by decide) ?_
                rw [km_u]
                refine fr_iincN (b := 1) hB dX9_sets_61 rfl (by decide) (by decide) rfl ?_
                refine fr_goto (tgt := 17) hB dX9_sets_64 (by decide) ?_
                exact ihe (i + 1) F2 (S.1 + 1, fm_up S.2 S.1 (nI i)) (by omega) (by show S.1 + 1 ≤ _; omega) hZ
      have hmF := (hm.r14 F).mf (fm_mf.km _ S)
      refine fr_iload_n hB dX9_sets_7 rfl rfl ?_
      refine fr_aload_n hB dX9_sets_8 rfl rfl ?_
      refine fr_getI hB dX9_sets_9 lf_X9_90 rfl rfl ?_
      refine fr_eqi _ (hmF.parts) ?_
      refine fr_icmp_gtN (tgt := 73) hB dX9_sets_12 (by decide) (by omega) (by omega) (fun h => ?_) (fun h => ?_)
      · exact absurd h (by omega)
      · refine fr_iconst (v := nI 0) hB dX9_sets_15 (by decide) ?_
        refine fr_istore_n hB dX9_sets_16 rfl (by decide) rfl ?_
        exact li (2 ^ P 0 0) 0 F S (by omega) (by show S.1 ≤ _ + 0; omega) hZ
  refine fr_aload_n hB dX9_sets_0 rfl rfl ?_
  refine fr_iconst (v := nI 0) hB dX9_sets_1 (by decide) ?_
  refine fr_putI hB dX9_sets_2 lp_X9_209 rfl rfl ?_
  rw [km_0]
  refine fr_mem (fm_km (fm_row M.1 14 (M.1 14), M.2) (0, M.1 19)) (by rw [fm_row_self]) ?_
  refine fr_iconst (v := nI 0) hB dX9_sets_5 (by decide) ?_
  refine fr_istore_n hB dX9_sets_6 rfl (by decide) rfl ?_
  exact lo (P 0 0 + 1) 0 (M.1 14) (0, M.1 19) (by omega) (Nat.zero_le _) hR0
/-- the list that stands is the list of least sets, as far as it goes -/
def fm_K (T : Int64) (c : Nat) (M M' : fm_M) : Prop := fm_mf M M' ∧ ∃ S : fm_SS, M'.1 0 27 = nI S.1 ∧ M'.1 19 = S.2 ∧ fm_sq S (fm_LS T c) ∧ S.1 ≤ 64
theorem ct_X9_setsK {E : fm_E} {b : Bool} {P : fm_P} {M : fm_M} (hm : fm_NP P M) (hw : fm_wf P) (hg : 0 < P 3 0) : fm_C shM E mX9_sets 5 [.ref (E.2.1 0), .int (fm_ib b)] M (fun r M' => r = none ∧ fm_K (fm_tb2 P b) (P 0 0) M M') :=
  (ct_X9_sets hm hw hg).mono (fun r M' h => by
    obtain ⟨h1, F, rfl⟩ := h
    exact ⟨h1, (fm_mf.r14 M F).tr (fm_mf.km _ _), _, km_size _ _, km_row _ _, fm_lst_sq _ _ _, fm_LS_le _ _ _⟩)
theorem ct_X9_many_ {E : fm_E} {b : Bool} {P : fm_P} {M : fm_M} (hm : fm_NP P M) (hw : fm_wf P) (hg : 0 < P 3 0) : fm_C shM E mX9_many_ 6 [.ref (E.2.1 0), .int (fm_ib b)] M (fun r M' => r = some (.int (nI (fm_LS (fm_tb2 P b) (P 0 0)).1)) ∧ fm_K (fm_tb2 P b) (P 0 0) M M') := by
  refine fm_C.of (by decide +kernel) (Nat.le_of_ble_eq_true rfl) ?_
  intro X hE hR hB
  subst hE
  have hB : fm_B _ X cX9_many_ 2 RX9 (some .int) := hB
  refine fr_lv [some (.ref (fm_rh X 0)), some (.int (fm_ib b))] ⟨rfl, rfl, trivial⟩ ?_
  refine fr_aload_n hB dX9_many__0 rfl rfl ?_
  refine fr_iload_n hB dX9_many__1 rfl rfl ?_
  refine fr_callV hB _ _ dX9_many__2 lm_X9_218 rfl (ct_X9_setsK hm hw hg) rfl rfl (Nat.le_of_ble_eq_true rfl) (fm_room hR (by decide) (by decide)) ?_
  rintro _ _ ⟨rfl, hk⟩
  refine fr_ret0 ?_
  have hk0 := hk
  obtain ⟨hmf, S, e1, e2, e3, e4⟩ := hk
  refine fr_aload_n hB dX9_many__5 rfl rfl ?_
  refine fr_getI hB dX9_many__6 lf_X9_209 rfl rfl ?_
  refine fr_eqi _ (e1) ?_
  exact fr_ireturn hB dX9_many__9 (⟨by rw [e3.1], hk0⟩)
theorem mm_setAt {E : fm_E} {b : Bool} {n : Int32} {Z : fm_Z} {M : fm_M} (hm : fm_MR Z M) (hw : fm_WZ Z) : fm_C shM E mX9_setAt 6 [.ref (E.2.1 0), .int n, .int (fm_ib b)] M (fun r M' => r = some (.int (if Z.1 3 0 = 0 then -3 else fm_kth (fm_LS (fm_tb2 Z.1 b) (Z.1 0 0)) n)) ∧ fm_mf M M') := by
  have h8 := hw.1.1.g8
  refine fm_C.of (by decide +kernel) (Nat.le_of_ble_eq_true rfl) ?_
  intro X hE hR hB
  subst hE
  have hB : fm_B _ X cX9_setAt 3 RX9 (some .int) := hB
  refine fr_lv [some (.ref (fm_rh X 0)), some (.int n), some (.int (fm_ib b))] ⟨rfl, rfl, rfl, trivial⟩ ?_
  refine fr_aload_n hB dX9_setAt_0 rfl rfl ?_
  refine fr_getI hB dX9_setAt_1 lf_X9_97 rfl rfl ?_
  refine fr_eqi _ (hm.1.pl.gates) ?_
  refine fr_if_neN (tgt := 10) hB dX9_setAt_4 (by decide) (by omega) (fun h => ?_) (fun h => ?_)
  · rw [if_neg (show ¬ Z.1 3 0 = 0 by omega)]
    refine fr_aload_n hB dX9_setAt_10 rfl rfl ?_
    refine fr_iload_n hB dX9_setAt_11 rfl rfl ?_
    refine fr_callV hB _ _ dX9_setAt_12 lm_X9_218 rfl (ct_X9_setsK hm.1.pl hw.1.1 h) rfl rfl (Nat.le_of_ble_eq_true rfl) (fm_room hR (by decide) (by decide)) ?_
    rintro _ _ ⟨rfl, hmf, S, e1, e2, e3, e4⟩
    refine fr_ret0 ?_
    rw [← e3.kth e4 n]
    refine fr_iload_n hB dX9_setAt_15 rfl rfl ?_
    refine fr_iconst (v := nI 0) hB dX9_setAt_16 (by decide) ?_
    refine fr_aload_n hB dX9_setAt_17 rfl rfl ?_
    refine fr_getI hB dX9_setAt_18 lf_X9_209 rfl rfl ?_
    refine fr_eqi _ (e1) ?_
    refine fr_iconst (v := nI 1) hB dX9_setAt_21 (by decide) ?_
    refine fr_isub hB dX9_setAt_22 ?_
    refine fr_callS hB _ _ dX9_setAt_23 lm_X9_93 (ct_X9_win (show S.1 < 2 ^ 31 by omega)) rfl rfl (Nat.le_of_ble_eq_true rfl) (fm_room hR (by decide) (by decide)) ?_
    rintro _ M9 ⟨rfl, hM9⟩
    rw [hM9]
    clear hM9 M9
    refine fr_ret1 ?_
    refine fr_if_eqB (tgt := 38) hB dX9_setAt_26 (by decide) (fun h2 => ?_) (fun h2 => ?_)
    · refine fr_iconst (v := -1) hB dX9_setAt_38 (by decide) ?_
      exact fr_ireturn hB dX9_setAt_39 (⟨by rw [fm_kth, h2]; rfl, hmf⟩)
    · obtain ⟨a, ha, rfl⟩ := fm_lt_of (by omega) h2
      have ea : (nI a).toNatClampNeg = a := nI_clamp (by omega)
      refine fr_aload_n hB dX9_setAt_29 rfl rfl ?_
      refine fr_getR hB dX9_setAt_30 lf_X9_72 rfl rfl ?_
      refine fr_iload_n hB dX9_setAt_33 rfl rfl ?_
      refine fr_iald hB (_) dX9_setAt_34 rfl (rfl) (by omega) (by decide) ?_
      refine fr_eqi (S.2 a) (congrFun e2 a) ?_
      refine fr_goto (tgt := 39) hB dX9_setAt_35 (by decide) ?_
      exact fr_ireturn hB dX9_setAt_39 (⟨by rw [fm_kth, if_pos h2, ea], hmf⟩)
  · refine fr_bipush (v := -3) hB dX9_setAt_7 (by decide) ?_
    exact fr_ireturn hB dX9_setAt_9 (⟨by rw [if_pos h], fm_mf.rf M⟩)
theorem mm_cut {E : fm_E} {n : Int32} {Z : fm_Z} {M : fm_M} (hm : fm_MR Z M) (hw : fm_WZ Z) : fm_C shM E mX9_cut 7 [.ref (E.2.1 0), .int n] M (fun r M' => r = some (.int (sp_cut Z.1 n)) ∧ fm_mf M M') := by
  refine fm_C.of (by decide +kernel) (Nat.le_of_ble_eq_true rfl) ?_
  intro X hE hR hB
  subst hE
  have hB : fm_B _ X cX9_cut 2 RX9 (some .int) := hB
  refine fr_lv [some (.ref (fm_rh X 0)), some (.int n)] ⟨rfl, rfl, trivial⟩ ?_
  refine fr_aload_n hB dX9_cut_0 rfl rfl ?_
  refine fr_iload_n hB dX9_cut_1 rfl rfl ?_
  refine fr_iconst (v := nI 1) hB dX9_cut_2 (by decide) ?_
  refine fr_eqi (fm_ib true) rfl ?_
  refine fr_callV hB _ _ dX9_cut_3 lm_X9_221 rfl (mm_setAt (b := true) hm hw) rfl rfl (Nat.le_of_ble_eq_true rfl) (fm_room hR (by decide) (by decide)) ?_
  rintro _ _ ⟨rfl, hmf⟩
  refine fr_ret1 ?_
  exact fr_ireturn hB dX9_cut_6 (⟨rfl, hmf⟩)
theorem mm_path {E : fm_E} {n : Int32} {Z : fm_Z} {M : fm_M} (hm : fm_MR Z M) (hw : fm_WZ Z) : fm_C shM E mX9_path 7 [.ref (E.2.1 0), .int n] M (fun r M' => r = some (.int (sp_path Z.1 n)) ∧ fm_mf M M') := by
  refine fm_C.of (by decide +kernel) (Nat.le_of_ble_eq_true rfl) ?_
  intro X hE hR hB
  subst hE
  have hB : fm_B _ X cX9_path 2 RX9 (some .int) := hB
  refine fr_lv [some (.ref (fm_rh X 0)), some (.int n)] ⟨rfl, rfl, trivial⟩ ?_
  refine fr_aload_n hB dX9_path_0 rfl rfl ?_
  refine fr_iload_n hB dX9_path_1 rfl rfl ?_
  refine fr_iconst (v := nI 0) hB dX9_path_2 (by decide) ?_
  refine fr_eqi (fm_ib false) rfl ?_
  refine fr_callV hB _ _ dX9_path_3 lm_X9_221 rfl (mm_setAt (b := false) hm hw) rfl rfl (Nat.le_of_ble_eq_true rfl) (fm_room hR (by decide) (by decide)) ?_
  rintro _ _ ⟨rfl, hmf⟩
  refine fr_ret1 ?_
  exact fr_ireturn hB dX9_path_6 (⟨rfl, hmf⟩)
theorem ct_X9_isTold {E : fm_E} {x : Int32} {S : fm_SS} {M : fm_M} (e1 : M.1 0 27 = nI S.1) (e2 : M.1 19 = S.2) (h64 : S.1 ≤ 64) : fm_C shM E mX9_isTold 0 [.ref (E.2.1 0), .int x] M (fun r M' => r = some (.int (fm_ib (fm_hs S.2 x S.1 0))) ∧ M' = M) := by
  refine fm_C.of (by decide +kernel) (Nat.le_of_ble_eq_true rfl) ?_
  intro X hE hR hB
  subst hE
  have hB : fm_B _ X cX9_isTold 3 RX9 (some .boolean) := hB
  refine fr_lv [some (.ref (fm_rh X 0)), some (.int x), none] ⟨rfl, rfl, trivial⟩ ?_
  have l1 : ∀ (d i : Nat), i + d = S.1 → fm_W shM X 3 2 [some (.ref (fm_rh X 0)), some (.int x), some (.int (nI i))] [] M (fm_Q shM X (fun r M' => r = some (.int (fm_ib (fm_hs S.2 x d i))) ∧ M' = M)) := by
    intro d
    induction d with
    | zero =>
      intro i hi
      refine fr_iload_n hB dX9_isTold_2 rfl rfl ?_
      refine fr_aload_n hB dX9_isTold_3 rfl rfl ?_
      refine fr_getI hB dX9_isTold_4 lf_X9_209 rfl rfl ?_
      refine fr_eqi _ (e1) ?_
      refine fr_icmp_geN (tgt := 28) hB dX9_isTold_7 (by decide) (by omega) (by omega) (fun h => ?_) (fun h => ?_)
      · refine fr_iconst (v := nI 0) hB dX9_isTold_28 (by decide) ?_
        exact fr_zreturn hB dX9_isTold_29 (by first | exact fm_nar0 | exact fm_nar1 | exact fm_nar _) (⟨rfl, rfl⟩)
      · exact absurd h (by omega)
    | succ d ih =>
      intro i hi
      refine fr_iload_n hB dX9_isTold_2 rfl rfl ?_
      refine fr_aload_n hB dX9_isTold_3 rfl rfl ?_
      refine fr_getI hB dX9_isTold_4 lf_X9_209 rfl rfl ?_
      refine fr_eqi _ (e1) ?_
      refine fr_icmp_geN (tgt := 28) hB dX9_isTold_7 (by decide) (by omega) (by omega) (fun h => ?_) (fun h => ?_)
      · exact absurd h (by omega)
      · refine fr_aload_n hB dX9_isTold_10 rfl rfl ?_
        refine fr_getR hB dX9_isTold_11 lf_X9_72 rfl rfl ?_
        refine fr_iload_n hB dX9_isTold_14 rfl rfl ?_
        refine fr_iald hB (_) dX9_isTold_15 rfl (rfl) (by omega) (by decide) ?_
        refine fr_eqi (S.2 i) (congrFun e2 i) ?_
        refine fr_iload_n hB dX9_isTold_16 rfl rfl ?_
        refine fr_icmp_ne (tgt := 22) hB dX9_isTold_17 (by decide) (fun h2 => ?_) (fun h2 => ?_)
        · refine fr_iincN (b := 1) hB dX9_isTold_22 rfl (by decide) (by decide) rfl ?_
          refine fr_goto (tgt := 2) hB dX9_isTold_25 (by decide) ?_
          rw [show fm_hs S.2 x (d + 1) i = fm_hs S.2 x d (i + 1) from by rw [fm_hs, if_neg h2]]
          exact ih (i + 1) (by omega)
        · have h2 := Decidable.not_not.mp h2
          refine fr_iconst (v := nI 1) hB dX9_isTold_20 (by decide) ?_
          exact fr_zreturn hB dX9_isTold_21 (by first | exact fm_nar0 | exact fm_nar1 | exact fm_nar _) (⟨by rw [fm_hs, if_pos h2]; rfl, rfl⟩)
  refine fr_iconst (v := nI 0) hB dX9_isTold_0 (by decide) ?_
  refine fr_istore_n hB dX9_isTold_1 rfl (by decide) rfl ?_
  exact l1 S.1 0 (by omega)
theorem mm_looked {E : fm_E} {Z : fm_Z} {M : fm_M} (hm : fm_MR Z M) (hw : fm_WZ Z) : fm_C shM E mX9_looked 6 [.ref (E.2.1 0)] M (fun r M' => r = some (.int (sp_looked Z.1)) ∧ fm_mf M M') := by
  have h8 := hw.1.1.g8
  have hr8 := hw.1.2.2.2.1
  refine fm_C.of (by decide +kernel) (Nat.le_of_ble_eq_true rfl) ?_
  intro X hE hR hB
  subst hE
  have hB : fm_B _ X cX9_looked 2 RX9 (some .int) := hB
  refine fr_lv [some (.ref (fm_rh X 0)), none] ⟨rfl, trivial⟩ ?_
  refine fr_aload_n hB dX9_looked_0 rfl rfl ?_
  refine fr_getI hB dX9_looked_1 lf_X9_97 rfl rfl ?_
  refine fr_eqi _ (hm.1.pl.gates) ?_
  refine fr_if_neN (tgt := 10) hB dX9_looked_4 (by decide) (by omega) (fun h => ?_) (fun h => ?_)
  · refine fr_aload_n hB dX9_looked_10 rfl rfl ?_
    refine fr_iconst (v := nI 1) hB dX9_looked_11 (by decide) ?_
    refine fr_eqi (fm_ib true) rfl ?_
    refine fr_callV hB _ _ dX9_looked_12 lm_X9_218 rfl (ct_X9_setsK (b := true) hm.1.pl hw.1.1 h) rfl rfl (Nat.le_of_ble_eq_true rfl) (fm_room hR (by decide) (by decide)) ?_
    rintro _ _ ⟨rfl, hmf, S, e1, e2, hsq, h64⟩
    refine fr_ret0 ?_
    refine fr_iconst (v := nI 0) hB dX9_looked_15 (by decide) ?_
    refine fr_istore_n hB dX9_looked_16 rfl (by decide) rfl ?_
    rename_i M1
    have hm2 := hm.1.mf hmf
    have e : sp_looked Z.1 = fm_lo (fun i => fm_hs S.2 (nI (Z.1 19 i)) S.1 0) (Z.1 18 0) 0 := by
      rw [sp_looked, if_neg (by omega)]
      congr 1
      funext i
      exact (hsq.hs _).symm
    rw [e]
    have l1 : ∀ (d i : Nat), i + d = Z.1 18 0 → fm_W shM X 2 17 [some (.ref (fm_rh X 0)), some (.int (nI i))] [] M1 (fm_Q shM X (fun r M' => r = some (.int (fm_lo (fun i => fm_hs S.2 (nI (Z.1 19 i)) S.1 0) d i)) ∧ fm_mf M M')) := by
      intro d
      induction d with
      | zero =>
        intro i hi
        refine fr_iload_n hB dX9_looked_17 rfl rfl ?_
        refine fr_aload_n hB dX9_looked_18 rfl rfl ?_
        refine fr_getI hB dX9_looked_19 lf_X9_278 rfl rfl ?_
        refine fr_eqi _ (hm2.r18) ?_
        refine fr_icmp_geN (tgt := 46) hB dX9_looked_22 (by decide) (by omega) (by omega) (fun h2 => ?_) (fun h2 => ?_)
        · refine fr_bipush (v := -5) hB dX9_looked_46 (by decide) ?_
          exact fr_ireturn hB dX9_looked_48 (⟨rfl, hmf⟩)
        · exact absurd h2 (by omega)
      | succ d ih =>
        intro i hi
        refine fr_iload_n hB dX9_looked_17 rfl rfl ?_
        refine fr_aload_n hB dX9_looked_18 rfl rfl ?_
        refine fr_getI hB dX9_looked_19 lf_X9_278 rfl rfl ?_
        refine fr_eqi _ (hm2.r18) ?_
        refine fr_icmp_geN (tgt := 46) hB dX9_looked_22 (by decide) (by omega) (by omega) (fun h2 => ?_) (fun h2 => ?_)
        · exact absurd h2 (by omega)
        · have hbk := hm2.r19 i h2
          refine fr_aload_n hB dX9_looked_25 rfl rfl ?_
          refine fr_aload_n hB dX9_looked_26 rfl rfl ?_
          refine fr_getR hB dX9_looked_27 lf_X9_49 rfl rfl ?_
          refine fr_iload_n hB dX9_looked_30 rfl rfl ?_
          refine fr_iald hB (_) dX9_looked_31 rfl (rfl) (by omega) (by decide) ?_
          refine fr_eqi (nI (Z.1 19 i)) (hbk) ?_
          refine fr_callV hB _ _ dX9_looked_32 lm_X9_281 rfl (ct_X9_isTold e1 e2 h64) rfl rfl (Nat.le_of_ble_eq_true rfl) (fm_room hR (by decide) (by decide)) ?_
          rintro _ M9 ⟨rfl, hM9⟩
          rw [hM9]
          clear hM9 M9
          refine fr_ret1 ?_
          refine fr_if_neB (tgt := 40) hB dX9_looked_35 (by decide) (fun h3 => ?_) (fun h3 => ?_)
          · refine fr_iincN (b := 1) hB dX9_looked_40 rfl (by decide) (by decide) rfl ?_
            refine fr_goto (tgt := 17) hB dX9_looked_43 (by decide) ?_
            have e2 : fm_lo (fun i => fm_hs S.2 (nI (Z.1 19 i)) S.1 0) (d + 1) i = fm_lo (fun i => fm_hs S.2 (nI (Z.1 19 i)) S.1 0) d (i + 1) := by
              show (if fm_hs S.2 (nI (Z.1 19 i)) S.1 0 = true then _ else _) = _
              rw [h3]; rfl
            rw [e2]
            exact ih (i + 1) (by omega)
          · refine fr_iload_n hB dX9_looked_38 rfl rfl ?_
            have e2 : fm_lo (fun i => fm_hs S.2 (nI (Z.1 19 i)) S.1 0) (d + 1) i = nI i := by
              show (if fm_hs S.2 (nI (Z.1 19 i)) S.1 0 = true then _ else _) = _
              rw [h3]; rfl
            exact fr_ireturn hB dX9_looked_39 (⟨by rw [e2], hmf⟩)
    exact l1 (Z.1 18 0) 0 (by omega)
  · refine fr_bipush (v := -3) hB dX9_looked_7 (by decide) ?_
    exact fr_ireturn hB dX9_looked_9 (⟨by rw [sp_looked, if_pos h], fm_mf.rf M⟩)
