/-! ===== the reference: what fails ===== -/
theorem ct_X9_fallsBy {E : fm_E} {g many : Nat} {P : fm_P} {M : fm_M} (hm : fm_NP P M) (hw : fm_wf P) (hg : g < 8) (h4 : many ≤ 4) : fm_C shM E mX9_fallsBy 0 [.ref (E.2.1 0), .int (nI g), .int (nI many)] M (fun r M' => r = some (.int (fm_ib (fm_by P g many))) ∧ M' = M) := by
  have k2 := hw.k2 g
  have n5 := hw.n5 g
  have i4 := hw.i4 g
  refine fm_C.of (by decide +kernel) (Nat.le_of_ble_eq_true rfl) ?_
  intro X hE hR hB
  subst hE
  have hB : fm_B _ X cX9_fallsBy 3 RX9 (some .boolean) := hB
  refine fr_lv [some (.ref (fm_rh X 0)), some (.int (nI g)), some (.int (nI many))] ⟨rfl, rfl, rfl, trivial⟩ ?_
  refine fr_aload_n hB dX9_fallsBy_0 rfl rfl ?_
  refine fr_getR hB dX9_fallsBy_1 lf_X9_18 rfl rfl ?_
  refine fr_iload_n hB dX9_fallsBy_4 rfl rfl ?_
  refine fr_iald hB (_) dX9_fallsBy_5 rfl (rfl) (by omega) (by decide) ?_
  refine fr_eqi _ (hm.kind _ (by omega)) ?_
  refine fr_if_neN (tgt := 27) hB dX9_fallsBy_6 (by decide) (by omega) (fun h => ?_) (fun h => ?_)
  · refine fr_aload_n hB dX9_fallsBy_27 rfl rfl ?_
    refine fr_getR hB dX9_fallsBy_28 lf_X9_18 rfl rfl ?_
    refine fr_iload_n hB dX9_fallsBy_31 rfl rfl ?_
    refine fr_iald hB (_) dX9_fallsBy_32 rfl (rfl) (by omega) (by decide) ?_
    refine fr_eqi _ (hm.kind _ (by omega)) ?_
    refine fr_iconst (v := nI 1) hB dX9_fallsBy_33 (by decide) ?_
    refine fr_icmp_neN (tgt := 49) hB dX9_fallsBy_34 (by decide) (by omega) (by omega) (fun h2 => ?_) (fun h2 => ?_)
    · have e : fm_by P g many = decide (P 5 g ≤ many) := by rw [fm_by, if_neg (by omega), if_neg h2]
      refine fr_iload_n hB dX9_fallsBy_49 rfl rfl ?_
      refine fr_aload_n hB dX9_fallsBy_50 rfl rfl ?_
      refine fr_getR hB dX9_fallsBy_51 lf_X9_21 rfl rfl ?_
      refine fr_iload_n hB dX9_fallsBy_54 rfl rfl ?_
      refine fr_iald hB (_) dX9_fallsBy_55 rfl (rfl) (by omega) (by decide) ?_
      refine fr_eqi _ (hm.need _ (by omega)) ?_
      refine fr_icmp_ltN (tgt := 63) hB dX9_fallsBy_56 (by decide) (by omega) (by omega) (fun h3 => ?_) (fun h3 => ?_)
      · refine fr_iconst (v := nI 0) hB dX9_fallsBy_63 (by decide) ?_
        exact fr_zreturn hB dX9_fallsBy_64 (by first | exact fm_nar0 | exact fm_nar1 | exact fm_nar _) (⟨by rw [e, decide_eq_false (by omega)]; rfl, rfl⟩)
      · refine fr_iconst (v := nI 1) hB dX9_fallsBy_59 (by decide) ?_
        refine fr_goto (tgt := 64) hB dX9_fallsBy_60 (by decide) ?_
        exact fr_zreturn hB dX9_fallsBy_64 (by first | exact fm_nar0 | exact fm_nar1 | exact fm_nar _) (⟨by rw [e, decide_eq_true h3]; rfl, rfl⟩)
    · have e : fm_by P g many = decide (0 < many) := by rw [fm_by, if_neg (by omega), if_pos h2]
      refine fr_iload_n hB dX9_fallsBy_37 rfl rfl ?_
      refine fr_if_leN (tgt := 45) hB dX9_fallsBy_38 (by decide) (by omega) (fun h3 => ?_) (fun h3 => ?_)
      · refine fr_iconst (v := nI 0) hB dX9_fallsBy_45 (by decide) ?_
        refine fr_goto (tgt := 64) hB dX9_fallsBy_46 (by decide) ?_
        exact fr_zreturn hB dX9_fallsBy_64 (by first | exact fm_nar0 | exact fm_nar1 | exact fm_nar _) (⟨by rw [e, decide_eq_false (by omega)]; rfl, rfl⟩)
      · refine fr_iconst (v := nI 1) hB dX9_fallsBy_41 (by decide) ?_
        refine fr_goto (tgt := 64) hB dX9_fallsBy_42 (by decide) ?_
        exact fr_zreturn hB dX9_fallsBy_64 (by first | exact fm_nar0 | exact fm_nar1 | exact fm_nar _) (⟨by rw [e, decide_eq_true (by omega)]; rfl, rfl⟩)
  · have e : fm_by P g many = decide (many = P 6 g) := by rw [fm_by, if_pos h]
    refine fr_iload_n hB dX9_fallsBy_9 rfl rfl ?_
    refine fr_aload_n hB dX9_fallsBy_10 rfl rfl ?_
    refine fr_getR hB dX9_fallsBy_11 lf_X9_24 rfl rfl ?_
    refine fr_iload_n hB dX9_fallsBy_14 rfl rfl ?_
    refine fr_iald hB (_) dX9_fallsBy_15 rfl (rfl) (by omega) (by decide) ?_
    refine fr_eqi _ (hm.cnt _ (by omega)) ?_
    refine fr_icmp_neN (tgt := 23) hB dX9_fallsBy_16 (by decide) (by omega) (by omega) (fun h2 => ?_) (fun h2 => ?_)
    · refine fr_iconst (v := nI 0) hB dX9_fallsBy_23 (by decide) ?_
      refine fr_goto (tgt := 64) hB dX9_fallsBy_24 (by decide) ?_
      exact fr_zreturn hB dX9_fallsBy_64 (by first | exact fm_nar0 | exact fm_nar1 | exact fm_nar _) (⟨by rw [e, decide_eq_false h2]; rfl, rfl⟩)
    · refine fr_iconst (v := nI 1) hB dX9_fallsBy_19 (by decide) ?_
      refine fr_goto (tgt := 64) hB dX9_fallsBy_20 (by decide) ?_
      exact fr_zreturn hB dX9_fallsBy_64 (by first | exact fm_nar0 | exact fm_nar1 | exact fm_nar _) (⟨by rw [e, decide_eq_true h2]; rfl, rfl⟩)
theorem fm_shr1 : ∀ s : Nat, s < 64 → ∀ x : Nat, x < 6 → nI s >>> (nI x &&& 31) &&& nI 1 = nI (fm_bn (s.testBit x)) := by decide +kernel
theorem fm_vnar (b : Bool) : vp_nar .boolean (fm_ib b) = fm_ib b := by cases b <;> decide
theorem fm_bn1 (b : Bool) : fm_bn b = 1 ↔ b = true := by cases b <;> decide
theorem fm_bn_le (b : Bool) : fm_bn b ≤ 1 := by cases b <;> decide
theorem fm_NP.r14 {P : fm_P} {M : fm_M} (h : fm_NP P M) (F : Nat → Int32) : fm_NP P (fm_row M.1 14 F, M.2) := h.kept (fun a h1 h2 => fm_row_ne _ _ (by omega)) (fun j hj => by show fm_row M.1 14 F 0 j = _; rw [fm_row_ne _ _ (by omega)])
theorem ct_X9_fallsAt {E : fm_E} {g0 s : Nat} {P : fm_P} {M : fm_M} (hm : fm_NP P M) (hw : fm_wf P) (hg0 : g0 < P 3 0) (hs : s < 64) : fm_C shM E mX9_fallsAt 1 [.ref (E.2.1 0), .int (nI g0), .int (nI s)] M (fun r M' => r = some (.int (fm_ib (fm_down P g0 s))) ∧ ∃ F, M' = (fm_row M.1 14 F, M.2)) := by
  have h8 := hw.g8
  have h6 := hw.p6
  refine fm_C.of (by decide +kernel) (Nat.le_of_ble_eq_true rfl) ?_
  intro X hE hR hB
  subst hE
  have hB : fm_B _ X cX9_fallsAt 7 RX9 (some .boolean) := hB
  refine fr_lv [some (.ref (fm_rh X 0)), some (.int (nI g0)), some (.int (nI s)), none, none, none, none] ⟨rfl, rfl, rfl, trivial⟩ ?_
  have l1 : ∀ (d g : Nat) (F : Nat → Int32), g + d = g0 + 1 → (∀ q, q < g → F q = fm_ib (fm_down P q s)) → fm_W shM X 7 2 [some (.ref (fm_rh X 0)), some (.int (nI g0)), some (.int (nI s)), some (.int (nI g)), none, none, none] [] (fm_row M.1 14 F, M.2) (fm_Q shM X (fun r M' => r = some (.int (fm_ib (fm_down P g0 s))) ∧ ∃ F, M' = (fm_row M.1 14 F, M.2))) := by
    intro d
    induction d with
    | zero =>
      intro g F hgd hF
      refine fr_iload_n hB dX9_fallsAt_2 rfl rfl ?_
      refine fr_iload_n hB dX9_fallsAt_3 rfl rfl ?_
      refine fr_icmp_gtN (tgt := 98) hB dX9_fallsAt_4 (by decide) (by omega) (by omega) (fun h => ?_) (fun h => ?_)
      · refine fr_aload_n hB dX9_fallsAt_98 rfl rfl ?_
        refine fr_getR hB dX9_fallsAt_99 lf_X9_55 rfl rfl ?_
        refine fr_iload_n hB dX9_fallsAt_102 rfl rfl ?_
        refine fr_zald hB (g0) dX9_fallsAt_103 rfl (rfl) (by omega) (by decide) ?_
        refine fr_eqi (fm_ib (fm_down P g0 s)) ((congrFun (fm_row_same M.1 14 F) g0).trans (hF g0 (by omega))) ?_
        exact fr_zreturn hB dX9_fallsAt_104 (by first | exact fm_nar0 | exact fm_nar1 | exact fm_nar _) (⟨rfl, F, rfl⟩)
      · exact absurd h (by omega)
    | succ d ih =>
      intro g F hgd hF
      have hgg : g < P 3 0 := by omega
      have hi4 := hw.i4 g
      have hmF := hm.r14 F
      have l2 : ∀ (c i many : Nat), i + c = P 6 g → many = fm_ct P g s i → fm_W shM X 7 13 [some (.ref (fm_rh X 0)), some (.int (nI g0)), some (.int (nI s)), some (.int (nI g)), some (.int (nI many)), some (.int (nI i)), none] [] (fm_row M.1 14 F, M.2) (fm_Q shM X (fun r M' => r = some (.int (fm_ib (fm_down P g0 s))) ∧ ∃ F, M' = (fm_row M.1 14 F, M.2))) := by
        intro c
        induction c with
        | zero =>
          intro i many hi hmany
          have hi : i = P 6 g := by omega
          subst hi
          have hcl := fm_cnt_le (fun i => fm_in1 (fun q => fm_down P q s) s (P 7 (4 * g + i))) (P 6 g)
          have hml : many ≤ 4 := by rw [hmany, fm_ct]; omega
          have hdn : fm_by P g many = fm_down P g s := by rw [fm_down_eq hw hgg s, hmany]; rfl
          refine fr_iload hB dX9_fallsAt_13 rfl ?_
          refine fr_aload_n hB dX9_fallsAt_15 rfl rfl ?_
          refine fr_getR hB dX9_fallsAt_16 lf_X9_24 rfl rfl ?_
          refine fr_iload_n hB dX9_fallsAt_19 rfl rfl ?_
          refine fr_iald hB (_) dX9_fallsAt_20 rfl (rfl) (by omega) (by decide) ?_
          refine fr_eqi _ (hmF.cnt _ (by omega)) ?_
          refine fr_icmp_geN (tgt := 79) hB dX9_fallsAt_21 (by decide) (by omega) (by omega) (fun h => ?_) (fun h => ?_)
          · refine fr_aload_n hB dX9_fallsAt_79 rfl rfl ?_
            refine fr_getR hB dX9_fallsAt_80 lf_X9_55 rfl rfl ?_
            refine fr_iload_n hB dX9_fallsAt_83 rfl rfl ?_
            refine fr_aload_n hB dX9_fallsAt_84 rfl rfl ?_
            refine fr_iload_n hB dX9_fallsAt_85 rfl rfl ?_
            refine fr_iload hB dX9_fallsAt_86 rfl ?_
            refine fr_callV hB _ _ dX9_fallsAt_88 lm_X9_172 rfl (ct_X9_fallsBy hmF hw (by omega) hml) rfl rfl (Nat.le_of_ble_eq_true rfl) (fm_room hR (by decide) (by decide)) ?_
            rintro _ M9 ⟨rfl, hM9⟩
            rw [hM9]
            clear hM9 M9
            refine fr_ret1 ?_
            rw [hdn]
            refine fr_zast hB (_) dX9_fallsAt_91 rfl (rfl) (by omega) (by decide) ?_
            refine fr_iincN (b := 1) hB dX9_fallsAt_92 rfl (by decide) (by decide) rfl ?_
            refine fr_goto (tgt := 2) hB dX9_fallsAt_95 (by decide) ?_
            refine fr_mem (fm_row M.1 14 (fun b => if b = g then fm_ib (fm_down P g s) else F b), M.2) (fm_pi_row (fun j => by rw [fm_vnar])) ?_
            refine fr_lv [some (.ref (fm_rh X 0)), some (.int (nI g0)), some (.int (nI s)), some (.int (nI (g + 1))), none, none, none] ⟨rfl, rfl, rfl, rfl, trivial⟩ ?_
            refine ih (g + 1) _ (by omega) (fun q hq => ?_)
            show (if q = g then fm_ib (fm_down P g s) else F q) = _
            by_cases e : q = g
            · rw [if_pos e, e]
            · rw [if_neg e]; exact hF q (by omega)
          · exact absurd h (by omega)
        | succ c ih2 =>
          intro i many hi hmany
          have hcl := fm_cnt_le (fun i => fm_in1 (fun q => fm_down P q s) s (P 7 (4 * g + i))) i
          have hml : many ≤ 4 := by rw [hmany, fm_ct]; omega
          have hin := hw.inp g i hgg (by omega)
          have hst : fm_ct P g s (i + 1) = fm_ct P g s i + (if fm_in1 (fun q => fm_down P q s) s (P 7 (4 * g + i)) then 1 else 0) := rfl
          have yes : fm_in1 (fun q => fm_down P q s) s (P 7 (4 * g + i)) = true → fm_W shM X 7 70 [some (.ref (fm_rh X 0)), some (.int (nI g0)), some (.int (nI s)), some (.int (nI g)), some (.int (nI many)), some (.int (nI i)), none] [] (fm_row M.1 14 F, M.2) (fm_Q shM X (fun r M' => r = some (.int (fm_ib (fm_down P g0 s))) ∧ ∃ F, M' = (fm_row M.1 14 F, M.2))) := by
            intro hy
            refine fr_iincN (b := 1) hB dX9_fallsAt_70 rfl (by decide) (by decide) rfl ?_
            refine fr_iincN (b := 1) hB dX9_fallsAt_73 rfl (by decide) (by decide) rfl ?_
            refine fr_goto (tgt := 13) hB dX9_fallsAt_76 (by decide) ?_
            exact ih2 (i + 1) (many + 1) (by omega) (by rw [hst, hy, hmany]; rfl)
          have no : fm_in1 (fun q => fm_down P q s) s (P 7 (4 * g + i)) = false → fm_W shM X 7 73 [some (.ref (fm_rh X 0)), some (.int (nI g0)), some (.int (nI s)), some (.int (nI g)), some (.int (nI many)), some (.int (nI i)), none] [] (fm_row M.1 14 F, M.2) (fm_Q shM X (fun r M' => r = some (.int (fm_ib (fm_down P g0 s))) ∧ ∃ F, M' = (fm_row M.1 14 F, M.2))) := by
            intro hy
            refine fr_iincN (b := 1) hB dX9_fallsAt_73 rfl (by decide) (by decide) rfl ?_
            refine fr_goto (tgt := 13) hB dX9_fallsAt_76 (by decide) ?_
            exact ih2 (i + 1) many (by omega) (by rw [hst, hy, hmany]; rfl)
          refine fr_iload hB dX9_fallsAt_13 rfl ?_
          refine fr_aload_n hB dX9_fallsAt_15 rfl rfl ?_
          refine fr_getR hB dX9_fallsAt_16 lf_X9_24 rfl rfl ?_
          refine fr_iload_n hB dX9_fallsAt_19 rfl rfl ?_
          refine fr_iald hB (_) dX9_fallsAt_20 rfl (rfl) (by omega) (by decide) ?_
          refine fr_eqi _ (hmF.cnt _ (by omega)) ?_
          refine fr_icmp_geN (tgt := 79) hB dX9_fallsAt_21 (by decide) (by omega) (by omega) (fun h => ?_) (fun h => ?_)
          · exact absurd h (by omega)
          · refine fr_aload_n hB dX9_fallsAt_24 rfl rfl ?_
            refine fr_getR hB dX9_fallsAt_25 lf_X9_27 rfl rfl ?_
            refine fr_iconst (v := nI 4) hB dX9_fallsAt_28 (by decide) ?_
            refine fr_iload_n hB dX9_fallsAt_29 rfl rfl ?_
            refine fr_imulN hB dX9_fallsAt_30 ?_
            refine fr_iload hB dX9_fallsAt_31 rfl ?_
            refine fr_iaddN hB dX9_fallsAt_33 ?_
            refine fr_iald hB (_) dX9_fallsAt_34 rfl (rfl) (by omega) (by decide) ?_
            refine fr_eqi (nI (P 7 (4 * g + i))) (hmF.inp _ (by omega)) ?_
            refine fr_istore hB dX9_fallsAt_35 (by decide) rfl ?_
            refine fr_iload hB dX9_fallsAt_37 rfl ?_
            refine fr_bipush (v := nI 10) hB dX9_fallsAt_39 (by decide) ?_
            generalize P 7 (4 * g + i) = x at hin yes no
            refine fr_icmp_ltN (tgt := 60) hB dX9_fallsAt_41 (by decide) (by omega) (by omega) (fun h2 => ?_) (fun h2 => ?_)
            · have hx : x < 6 := by omega
              have e1 : fm_in1 (fun q => fm_down P q s) s x = s.testBit x := by rw [fm_in1, if_neg (by omega)]
              rw [e1] at yes no
              have hbl := fm_bn_le (s.testBit x)
              refine fr_iload_n hB dX9_fallsAt_60 rfl rfl ?_
              refine fr_iload hB dX9_fallsAt_61 rfl ?_
              refine fr_ishr hB dX9_fallsAt_63 ?_
              refine fr_iconst (v := nI 1) hB dX9_fallsAt_64 (by decide) ?_
              refine fr_iand hB dX9_fallsAt_65 ?_
              refine fr_eqi (nI (fm_bn (s.testBit x))) (fm_shr1 s hs x hx) ?_
              refine fr_iconst (v := nI 1) hB dX9_fallsAt_66 (by decide) ?_
              refine fr_icmp_neN (tgt := 73) hB dX9_fallsAt_67 (by decide) (by omega) (by omega) (fun h3 => ?_) (fun h3 => ?_)
              · refine fr_lv [some (.ref (fm_rh X 0)), some (.int (nI g0)), some (.int (nI s)), some (.int (nI g)), some (.int (nI many)), some (.int (nI i)), none] ⟨rfl, rfl, rfl, rfl, rfl, rfl, trivial⟩ ?_
                refine no ?_
                cases hb : s.testBit x with
                | false => rfl
                | true => exact absurd ((fm_bn1 _).mpr hb) h3
              · refine fr_lv [some (.ref (fm_rh X 0)), some (.int (nI g0)), some (.int (nI s)), some (.int (nI g)), some (.int (nI many)), some (.int (nI i)), none] ⟨rfl, rfl, rfl, rfl, rfl, rfl, trivial⟩ ?_
                exact yes ((fm_bn1 _).mp h3)
            · have e1 : fm_in1 (fun q => fm_down P q s) s x = fm_down P (x - 10) s := by rw [fm_in1, if_pos h2]
              rw [e1] at yes no
              refine fr_aload_n hB dX9_fallsAt_44 rfl rfl ?_
              refine fr_getR hB dX9_fallsAt_45 lf_X9_55 rfl rfl ?_
              refine fr_iload hB dX9_fallsAt_48 rfl ?_
              refine fr_bipush (v := nI 10) hB dX9_fallsAt_50 (by decide) ?_
              refine fr_isubN hB dX9_fallsAt_52 (by omega) ?_
              refine fr_zald hB (x - 10) dX9_fallsAt_53 rfl (rfl) (by omega) (by decide) ?_
              refine fr_eqi (fm_ib (fm_down P (x - 10) s)) ((congrFun (fm_row_same M.1 14 F) _).trans (hF (x - 10) (by omega))) ?_
              refine fr_if_eqB (tgt := 73) hB dX9_fallsAt_54 (by decide) (fun h3 => ?_) (fun h3 => ?_)
              · refine fr_lv [some (.ref (fm_rh X 0)), some (.int (nI g0)), some (.int (nI s)), some (.int (nI g)), some (.int (nI many)), some (.int (nI i)), none] ⟨rfl, rfl, rfl, rfl, rfl, rfl, trivial⟩ ?_
                exact no h3
              · refine fr_goto (tgt := 70) hB dX9_fallsAt_57 (by decide) ?_
                refine fr_lv [some (.ref (fm_rh X 0)), some (.int (nI g0)), some (.int (nI s)), some (.int (nI g)), some (.int (nI many)), some (.int (nI i)), none] ⟨rfl, rfl, rfl, rfl, rfl, rfl, trivial⟩ ?_
                exact yes h3
      refine fr_iload_n hB dX9_fallsAt_2 rfl rfl ?_
      refine fr_iload_n hB dX9_fallsAt_3 rfl rfl ?_
      refine fr_icmp_gtN (tgt := 98) hB dX9_fallsAt_4 (by decide) (by omega) (by omega) (fun h => ?_) (fun h => ?_)
      · exact absurd h (by omega)
      · refine fr_iconst (v := nI 0) hB dX9_fallsAt_7 (by decide) ?_
        refine fr_istore hB dX9_fallsAt_8 (by decide) rfl ?_
        refine fr_iconst (v := nI 0) hB dX9_fallsAt_10 (by decide) ?_
        refine fr_istore hB dX9_fallsAt_11 (by decide) rfl ?_
        exact l2 (P 6 g) 0 0 (by omega) rfl
  refine fr_iconst (v := nI 0) hB dX9_fallsAt_0 (by decide) ?_
  refine fr_istore_n hB dX9_fallsAt_1 rfl (by decide) rfl ?_
  refine fr_mem (fm_row M.1 14 (M.1 14), M.2) (by rw [fm_row_self]) ?_
  exact l1 (g0 + 1) 0 (M.1 14) (by omega) (fun q hq => absurd hq (by omega))
theorem ct_X9_isDown {E : fm_E} {s : Nat} {P : fm_P} {M : fm_M} (hm : fm_NP P M) (hw : fm_wf P) (hg : 0 < P 3 0) (hs : s < 64) : fm_C shM E mX9_isDown 2 [.ref (E.2.1 0), .int (nI s)] M (fun r M' => r = some (.int (fm_ib (fm_down P (fm_tg P) s))) ∧ ∃ F, M' = (fm_row M.1 14 F, M.2)) := by
  refine fm_C.of (by decide +kernel) (Nat.le_of_ble_eq_true rfl) ?_
  intro X hE hR hB
  subst hE
  have hB : fm_B _ X cX9_isDown 2 RX9 (some .boolean) := hB
  refine fr_lv [some (.ref (fm_rh X 0)), some (.int (nI s))] ⟨rfl, rfl, trivial⟩ ?_
  refine fr_aload_n hB dX9_isDown_0 rfl rfl ?_
  refine fr_aload_n hB dX9_isDown_1 rfl rfl ?_
  refine fr_callV hB _ _ dX9_isDown_2 lm_X9_114 rfl (ct_X9_topmost hm hw) rfl rfl (Nat.le_of_ble_eq_true rfl) (fm_room hR (by decide) (by decide)) ?_
  rintro _ M9 ⟨rfl, hM9⟩
  rw [hM9]
  clear hM9 M9
  refine fr_ret1 ?_
  rw [fm_top_tg hg]
  refine fr_iload_n hB dX9_isDown_5 rfl rfl ?_
  refine fr_callV hB _ _ dX9_isDown_6 lm_X9_175 rfl (ct_X9_fallsAt hm hw (fm_tg_lt hw hg) hs) rfl rfl (Nat.le_of_ble_eq_true rfl) (fm_room hR (by decide) (by decide)) ?_
  rintro _ _ ⟨rfl, F, rfl⟩
  refine fr_ret1 ?_
  exact fr_zreturn hB dX9_isDown_9 (by first | exact fm_nar0 | exact fm_nar1 | exact fm_nar _) (⟨rfl, F, rfl⟩)
theorem fm_mf.r14 (M : fm_M) (F : Nat → Int32) : fm_mf M (fm_row M.1 14 F, M.2) := ⟨fun a h1 h2 => fm_row_ne _ _ (by omega), fun j h1 h2 => by show fm_row M.1 14 F 0 j = _; rw [fm_row_ne _ _ (by omega)], fun a ha => fm_row_ne _ _ (by omega), rfl⟩
theorem mm_fails {E : fm_E} {g b : Int32} {Z : fm_Z} {M : fm_M} (hm : fm_MR Z M) (hw : fm_WZ Z) : fm_C shM E mX9_fails 2 [.ref (E.2.1 0), .int g, .int b] M (fun r M' => r = some (.int (sp_fails Z.1 g b)) ∧ fm_mf M M') := by
  have h8 := hw.1.1.g8
  have h2c := fm_2c hw.1.1.p6
  refine fm_C.of (by decide +kernel) (Nat.le_of_ble_eq_true rfl) ?_
  intro X hE hR hB
  subst hE
  have hB : fm_B _ X cX9_fails 3 RX9 (some .int) := hB
  refine fr_lv [some (.ref (fm_rh X 0)), some (.int g), some (.int b)] ⟨rfl, rfl, rfl, trivial⟩ ?_
  have go : ∀ c : Nat, c < Z.1 3 0 → (if g = -1 then fm_top (Z.1 3 0) (Z.1 8 0) else g) = nI c → fm_W shM X 3 22 [some (.ref (fm_rh X 0)), some (.int g), some (.int b)] [] M (fm_Q shM X (fun r M' => r = some (.int (sp_fails Z.1 g b)) ∧ fm_mf M M')) := by
    intro c hc hq
    have hlt : fm_lt (nI c) (Z.1 3 0) = true := by rw [fm_lt_nat (by omega) (by omega)]; simpa using hc
    refine fr_aload_n hB dX9_fails_22 rfl rfl ?_
    refine fr_iload_n hB dX9_fails_23 rfl rfl ?_
    refine fr_callV hB _ _ dX9_fails_24 lm_X9_118 rfl (ct_X9_isSet hm.1.pl hw.1.1) rfl rfl (Nat.le_of_ble_eq_true rfl) (fm_room hR (by decide) (by decide)) ?_
    rintro _ M9 ⟨rfl, hM9⟩
    rw [hM9]
    clear hM9 M9
    refine fr_ret1 ?_
    refine fr_if_neB (tgt := 33) hB dX9_fails_27 (by decide) (fun h2 => ?_) (fun h2 => ?_)
    · obtain ⟨d, hd, rfl⟩ := fm_lt_of (by omega) h2
      have e : sp_fails Z.1 g (nI d) = fm_ib (fm_down Z.1 c d) := by rw [sp_fails, hq, if_pos hlt, if_pos h2, nI_clamp (show c < 2 ^ 31 by omega), nI_clamp (show d < 2 ^ 31 by omega)]
      have fin : fm_W shM X 3 47 [some (.ref (fm_rh X 0)), some (.int g), some (.int (nI d))] [.int (nI c), .ref (fm_rh X 0)] M (fm_Q shM X (fun r M' => r = some (.int (sp_fails Z.1 g (nI d))) ∧ fm_mf M M')) := by
        refine fr_iload_n hB dX9_fails_47 rfl rfl ?_
        refine fr_callV hB _ _ dX9_fails_48 lm_X9_175 rfl (ct_X9_fallsAt hm.1.pl hw.1.1 hc (by omega)) rfl rfl (Nat.le_of_ble_eq_true rfl) (fm_room hR (by decide) (by decide)) ?_
        rintro _ _ ⟨rfl, F, rfl⟩
        refine fr_ret1 ?_
        refine fr_if_eqB (tgt := 58) hB dX9_fails_51 (by decide) (fun h3 => ?_) (fun h3 => ?_)
        · refine fr_iconst (v := nI 0) hB dX9_fails_58 (by decide) ?_
          exact fr_ireturn hB dX9_fails_59 (⟨by rw [e, h3]; rfl, fm_mf.r14 M F⟩)
        · refine fr_iconst (v := nI 1) hB dX9_fails_54 (by decide) ?_
          refine fr_goto (tgt := 59) hB dX9_fails_55 (by decide) ?_
          exact fr_ireturn hB dX9_fails_59 (⟨by rw [e, h3]; rfl, fm_mf.r14 M F⟩)
      refine fr_aload_n hB dX9_fails_33 rfl rfl ?_
      refine fr_iload_n hB dX9_fails_34 rfl rfl ?_
      refine fr_iconst (v := -1) hB dX9_fails_35 (by decide) ?_
      refine fr_icmp_ne (tgt := 46) hB dX9_fails_36 (by decide) (fun h => ?_) (fun h => ?_)
      · rw [if_neg h] at hq
        refine fr_iload_n hB dX9_fails_46 rfl rfl ?_
        rw [hq] at fin ⊢
        exact fin
      · have h : g = -1 := Decidable.not_not.mp h
        rw [if_pos h] at hq
        refine fr_aload_n hB dX9_fails_39 rfl rfl ?_
        refine fr_callV hB _ _ dX9_fails_40 lm_X9_114 rfl (ct_X9_topmost hm.1.pl hw.1.1) rfl rfl (Nat.le_of_ble_eq_true rfl) (fm_room hR (by decide) (by decide)) ?_
        rintro _ M9 ⟨rfl, hM9⟩
        rw [hM9]
        clear hM9 M9
        refine fr_ret1 ?_
        refine fr_goto (tgt := 47) hB dX9_fails_43 (by decide) ?_
        rw [hq]
        exact fin
    · have e : sp_fails Z.1 g b = -2 := by rw [sp_fails, hq, if_pos hlt, h2]; rfl
      refine fr_bipush (v := -2) hB dX9_fails_30 (by decide) ?_
      exact fr_ireturn hB dX9_fails_32 (⟨by rw [e], fm_mf.rf M⟩)
  have no : fm_lt (if g = -1 then fm_top (Z.1 3 0) (Z.1 8 0) else g) (Z.1 3 0) = false → fm_W shM X 3 20 [some (.ref (fm_rh X 0)), some (.int g), some (.int b)] [] M (fm_Q shM X (fun r M' => r = some (.int (sp_fails Z.1 g b)) ∧ fm_mf M M')) := by
    intro hq
    have e : sp_fails Z.1 g b = -1 := by rw [sp_fails, hq]; rfl
    refine fr_iconst (v := -1) hB dX9_fails_20 (by decide) ?_
    exact fr_ireturn hB dX9_fails_21 (⟨by rw [e], fm_mf.rf M⟩)
  refine fr_aload_n hB dX9_fails_0 rfl rfl ?_
  refine fr_getI hB dX9_fails_1 lf_X9_97 rfl rfl ?_
  refine fr_eqi _ (hm.1.pl.gates) ?_
  refine fr_if_eqN (tgt := 20) hB dX9_fails_4 (by decide) (by omega) (fun h => ?_) (fun h => ?_)
  · refine no ?_
    cases hb : fm_lt (if g = -1 then fm_top (Z.1 3 0) (Z.1 8 0) else g) (Z.1 3 0) with
    | false => rfl
    | true =>
      obtain ⟨x, hx, _⟩ := fm_lt_of (by omega) hb
      omega
  · refine fr_iload_n hB dX9_fails_7 rfl rfl ?_
    refine fr_iconst (v := -1) hB dX9_fails_8 (by decide) ?_
    refine fr_icmp_eq (tgt := 22) hB dX9_fails_9 (by decide) (fun h1 => ?_) (fun h1 => ?_)
    · have h1 : g = -1 := h1
      exact go (fm_tg Z.1) (fm_tg_lt hw.1.1 h) (by rw [if_pos h1, fm_top_tg h])
    · refine fr_aload_n hB dX9_fails_12 rfl rfl ?_
      refine fr_iload_n hB dX9_fails_13 rfl rfl ?_
      refine fr_callV hB _ _ dX9_fails_14 lm_X9_108 rfl (ct_X9_isGate hm.1.pl hw.1.1) rfl rfl (Nat.le_of_ble_eq_true rfl) (fm_room hR (by decide) (by decide)) ?_
      rintro _ M9 ⟨rfl, hM9⟩
      rw [hM9]
      clear hM9 M9
      refine fr_ret1 ?_
      refine fr_if_neB (tgt := 22) hB dX9_fails_17 (by decide) (fun h2 => ?_) (fun h2 => ?_)
      · obtain ⟨c, hc, hgc⟩ := fm_lt_of (by omega) h2
        exact go c hc (by rw [if_neg h1]; exact hgc)
      · exact no (by rw [if_neg h1]; exact h2)
