/-! ===== the reference: draws, node, drawn, ever, sift ===== -/
theorem fm_mk_TT {P : fm_P} (hw : fm_wf P) : fm_mk (fm_down P (fm_tg P)) (2 ^ P 0 0) = fm_rs (P 0 0) (fm_TT P) := by
  apply fm_bit_ext
  intro s hs
  rw [fm_mk_bit _ _ (fm_2c hw.p6).1 s hs, fm_rs_bit hw.p6 _ hs, fm_TT_bit P hs]
theorem ct_X9_draws {E : fm_E} {P : fm_P} {M : fm_M} (hm : fm_NP P M) (hw : fm_wf P) (hg : 0 < P 3 0) : fm_C shM E mX9_draws 8 [.ref (E.2.1 0)] M (fun r M' => ∃ G F L, r = some (.int (fm_DG P (fm_TT P) G).1) ∧ M' = fm_hm (fm_row M.1 14 F, M.2) (fm_DG P (fm_TT P) G).2 L) := by
  have h6 := hw.p6
  have h2c := fm_2c h6
  refine fm_C.of (by decide +kernel) (Nat.le_of_ble_eq_true rfl) ?_
  intro X hE hR hB
  subst hE
  have hB : fm_B _ X cX9_draws 4 RX9 (some .int) := hB
  refine fr_lv [some (.ref (fm_rh X 0)), none, none, none] ⟨rfl, trivial⟩ ?_
  have l1 : ∀ (d i : Nat) (F : Nat → Int32), i + d = 2 ^ P 0 0 → fm_W shM X 4 4 [some (.ref (fm_rh X 0)), some (.long (fm_mk (fm_down P (fm_tg P)) i)), none, some (.int (nI i))] [] (fm_row M.1 14 F, M.2) (fm_Q shM X (fun r M' => ∃ G F L, r = some (.int (fm_DG P (fm_TT P) G).1) ∧ M' = fm_hm (fm_row M.1 14 F, M.2) (fm_DG P (fm_TT P) G).2 L)) := by
    intro d
    induction d with
    | zero =>
      intro i F hi
      have hi : i = 2 ^ P 0 0 := by omega
      subst hi
      have hmF := hm.r14 F
      rw [fm_mk_TT hw]
      refine fr_iload_n hB dX9_draws_4 rfl rfl ?_
      refine fr_iconst (v := nI 1) hB dX9_draws_5 (by decide) ?_
      refine fr_aload_n hB dX9_draws_6 rfl rfl ?_
      refine fr_getI hB dX9_draws_7 lf_X9_90 rfl rfl ?_
      refine fr_eqi _ (hmF.parts) ?_
      refine fr_ishl hB dX9_draws_10 ?_
      refine fr_eqi (nI (2 ^ P 0 0)) (fm_shl1 h6) ?_
      refine fr_icmp_geN (tgt := 34) hB dX9_draws_11 (by decide) (by omega) (by omega) (fun h => ?_) (fun h => ?_)
      · refine fr_aload_n hB dX9_draws_34 rfl rfl ?_
        refine fr_iconst (v := nI 0) hB dX9_draws_35 (by decide) ?_
        refine fr_putI hB dX9_draws_36 lp_X9_188 rfl rfl ?_
        rw [hm_0 _ (fun _ => 0)]
        have hN := ct_X9_nodeFor hmF hw 6 (fm_EX X) 0 (fm_TT P) (0, (fun _ => 0), M.1 16, M.1 17, M.1 18) (M.2 15) (by omega) (by omega) (by show 0 + 2 ^ 6 ≤ 64; omega) (fm_TT_ci hw hg) (fun j hj => absurd hj (by omega)) (fun j hj => absurd hj (Nat.not_lt_zero j))
        refine fr_aload_n hB dX9_draws_39 rfl rfl ?_
        refine fr_lload_n hB dX9_draws_40 rfl rfl ?_
        refine fr_callV hB _ _ dX9_draws_41 lm_X9_195 rfl (hN) rfl rfl (Nat.le_of_ble_eq_true rfl) (fm_room hR (by decide) (by decide)) ?_
        rintro _ _ ⟨rfl, L, rfl, hok⟩
        refine fr_ret1 ?_
        exact fr_ireturn hB dX9_draws_44 (⟨((fun _ => 0), M.1 16, M.1 17, M.1 18), F, L, rfl, rfl⟩)
      · exact absurd h (by omega)
    | succ d ih =>
      intro i F hi
      have hmF := hm.r14 F
      have e2 : fm_mk (fm_down P (fm_tg P)) (i + 1) = fm_mk (fm_down P (fm_tg P)) i ||| (if fm_down P (fm_tg P) i then (1 : Int64) <<< ((nI i).toInt64 &&& 63) else 0) := rfl
      refine fr_iload_n hB dX9_draws_4 rfl rfl ?_
      refine fr_iconst (v := nI 1) hB dX9_draws_5 (by decide) ?_
      refine fr_aload_n hB dX9_draws_6 rfl rfl ?_
      refine fr_getI hB dX9_draws_7 lf_X9_90 rfl rfl ?_
      refine fr_eqi _ (hmF.parts) ?_
      refine fr_ishl hB dX9_draws_10 ?_
      refine fr_eqi (nI (2 ^ P 0 0)) (fm_shl1 h6) ?_
      refine fr_icmp_geN (tgt := 34) hB dX9_draws_11 (by decide) (by omega) (by omega) (fun h => ?_) (fun h => ?_)
      · exact absurd h (by omega)
      · refine fr_aload_n hB dX9_draws_14 rfl rfl ?_
        refine fr_iload_n hB dX9_draws_15 rfl rfl ?_
        refine fr_callV hB _ _ dX9_draws_16 lm_X9_199 rfl (ct_X9_isDown hmF hw hg (by omega)) rfl rfl (Nat.le_of_ble_eq_true rfl) (fm_room hR (by decide) (by decide)) ?_
        rintro _ _ ⟨rfl, F2, rfl⟩
        refine fr_ret1 ?_
        rw [show fm_row (fm_row M.1 14 F) 14 F2 = fm_row M.1 14 F2 from fm_row_row _ _ _ _]
        refine fr_if_eqB (tgt := 28) hB dX9_draws_19 (by decide) (fun h3 => ?_) (fun h3 => ?_)
        · rw [h3] at e2
          simp only [Bool.false_eq_true, if_false, Int64.or_zero] at e2
          rw [← e2]
          refine fr_iincN (b := 1) hB dX9_draws_28 rfl (by decide) (by decide) rfl ?_
          refine fr_goto (tgt := 4) hB dX9_draws_31 (by decide) ?_
          exact ih (i + 1) F2 (by omega)
        · rw [h3] at e2
          simp only [if_true] at e2
          refine fr_lload_n hB dX9_draws_22 rfl rfl ?_
          refine fr_lconst (v := 1) hB dX9_draws_23 (by decide) ?_
          refine fr_iload_n hB dX9_draws_24 rfl rfl ?_
          refine fr_lshl (v := _) hB dX9_draws_25 (rfl) ?_
          refine fr_lor hB dX9_draws_26 ?_
          refine fr_lstore_n hB dX9_draws_27 rfl (by decide) rfl ?_
          refine fr_iincN (b := 1) hB dX9_draws_28 rfl (by decide) (by decide) rfl ?_
          refine fr_goto (tgt := 4) hB dX9_draws_31 (by decide) ?_
          rw [← e2]
          exact ih (i + 1) F2 (by omega)
  refine fr_lconst (v := 0) hB dX9_draws_0 (by decide) ?_
  refine fr_lstore_n hB dX9_draws_1 rfl (by decide) rfl ?_
  refine fr_iconst (v := nI 0) hB dX9_draws_2 (by decide) ?_
  refine fr_istore_n hB dX9_draws_3 rfl (by decide) rfl ?_
  refine fr_mem (fm_row M.1 14 (M.1 14), M.2) (by rw [fm_row_self]) ?_
  exact l1 (2 ^ P 0 0) 0 (M.1 14) (by omega)
theorem fm_mf.dr (M : fm_M) (F : Nat → Int32) (S : fm_GS) (L : Nat → Int64) : fm_mf M (fm_hm (fm_row M.1 14 F, M.2) S L) := (fm_mf.r14 M F).tr (fm_mf.hm _ _ _)
theorem ct_X9_drawn {E : fm_E} {P : fm_P} {M : fm_M} (hm : fm_NP P M) (hw : fm_wf P) (hg : 0 < P 3 0) : fm_C shM E mX9_drawn 9 [.ref (E.2.1 0)] M (fun r M' => r = some (.int (nI (fm_DG P (fm_TT P) fm_G0).2.1)) ∧ fm_mf M M') := by
  refine fm_C.of (by decide +kernel) (Nat.le_of_ble_eq_true rfl) ?_
  intro X hE hR hB
  subst hE
  have hB : fm_B _ X cX9_drawn 1 RX9 (some .int) := hB
  refine fr_lv [some (.ref (fm_rh X 0))] ⟨rfl, trivial⟩ ?_
  refine fr_aload_n hB dX9_drawn_0 rfl rfl ?_
  refine fr_callV hB _ _ dX9_drawn_1 lm_X9_202 rfl (ct_X9_draws hm hw hg) rfl rfl (Nat.le_of_ble_eq_true rfl) (fm_room hR (by decide) (by decide)) ?_
  rintro _ _ ⟨G, F, L, rfl, rfl⟩
  refine fr_ret1 ?_
  refine fr_pop hB dX9_drawn_4 rfl ?_
  refine fr_aload_n hB dX9_drawn_5 rfl rfl ?_
  refine fr_getI hB dX9_drawn_6 lf_X9_188 rfl rfl ?_
  refine fr_eqi _ (hm_nodes _ _ _) ?_
  exact fr_ireturn hB dX9_drawn_9 (⟨by rw [fm_DG_n], fm_mf.dr _ _ _ _⟩)
theorem fm_DG_1 {P : fm_P} (hw : fm_wf P) {T : Int64} (hci : fm_ci (P 0 0) T) (G : (Nat → Int64) × (Nat → Int32) × (Nat → Int32) × (Nat → Int32)) : (fm_DG P T G).1 = if T = 0 then -6 else if T = -1 then -7 else nI 0 := by
  have h6 := hw.p6
  have ho := hw.ord.1
  unfold fm_DG
  by_cases h0 : T = 0
  · rw [fm_meet_0 _ _ 6 0 _ h0, if_pos h0]
  · by_cases h1 : T = -1
    · rw [fm_meet_m1 _ _ 6 0 _ h0 h1, if_neg h0, if_pos h1]
    · have hfb := fm_fp_ge (P 2) T (P 0 0 - 0) 0
      have hfp : fm_fp (P 2) T 0 (P 0 0 - 0) < P 0 0 := by
        rcases Nat.lt_or_ge (fm_fp (P 2) T 0 (P 0 0 - 0)) (P 0 0) with q | q
        · exact q
        · exfalso
          have hcon : T = 0 ∨ T = -1 := fm_const h6 hci (fun p hp => by
            obtain ⟨j, hj, e⟩ := hw.ord.2.2 p hp
            rw [← e]
            exact (fm_dp_iff (by have := ho j hj; omega)).mp (fm_fp_before (P 2) T (P 0 0 - 0) 0 j (by omega) (by omega)))
          exact hcon.elim h0 h1
      rw [fm_meet_go (P 2) (P 0 0) 5 0 (0, G) h0 h1 rfl (fun q => q.elim (fun z => by omega) (fun z => absurd z (by show ¬ 64 ≤ 0; omega))) rfl rfl rfl, if_neg h0, if_neg h1]
theorem ct_X9_ever {E : fm_E} {P : fm_P} {M : fm_M} (hm : fm_NP P M) (hw : fm_wf P) (hg : 0 < P 3 0) : fm_C shM E mX9_ever 9 [.ref (E.2.1 0)] M (fun r M' => r = some (.int (sp_same (fm_TT P))) ∧ fm_mf M M') := by
  have hci := fm_TT_ci hw hg
  refine fm_C.of (by decide +kernel) (Nat.le_of_ble_eq_true rfl) ?_
  intro X hE hR hB
  subst hE
  have hB : fm_B _ X cX9_ever 2 RX9 (some .int) := hB
  refine fr_lv [some (.ref (fm_rh X 0)), none] ⟨rfl, trivial⟩ ?_
  refine fr_aload_n hB dX9_ever_0 rfl rfl ?_
  refine fr_callV hB _ _ dX9_ever_1 lm_X9_202 rfl (ct_X9_draws hm hw hg) rfl rfl (Nat.le_of_ble_eq_true rfl) (fm_room hR (by decide) (by decide)) ?_
  rintro _ _ ⟨G, F, L, rfl, rfl⟩
  refine fr_ret1 ?_
  rw [fm_DG_1 hw hci]
  by_cases h0 : fm_TT P = 0
  · rw [if_pos h0]
    refine fr_istore_n hB dX9_ever_4 rfl (by decide) rfl ?_
    refine fr_iload_n hB dX9_ever_5 rfl rfl ?_
    refine fr_bipush (v := -7) hB dX9_ever_6 (by decide) ?_
    refine fr_icmp_ne (tgt := 15) hB dX9_ever_8 (by decide) (fun h => ?_) (fun h => ?_)
    · refine fr_iload_n hB dX9_ever_15 rfl rfl ?_
      refine fr_bipush (v := -6) hB dX9_ever_16 (by decide) ?_
      refine fr_icmp_ne (tgt := 25) hB dX9_ever_18 (by decide) (fun h2 => ?_) (fun h2 => ?_)
      · exact absurd rfl h2
      · refine fr_iconst (v := -1) hB dX9_ever_21 (by decide) ?_
        refine fr_goto (tgt := 26) hB dX9_ever_22 (by decide) ?_
        exact fr_ireturn hB dX9_ever_26 (⟨by rw [sp_same, if_neg (by rw [h0]; decide), if_pos h0], fm_mf.dr _ _ _ _⟩)
    · exact absurd (Decidable.not_not.mp h) (by decide)
  · rw [if_neg h0]
    by_cases h1 : fm_TT P = -1
    · rw [if_pos h1]
      refine fr_istore_n hB dX9_ever_4 rfl (by decide) rfl ?_
      refine fr_iload_n hB dX9_ever_5 rfl rfl ?_
      refine fr_bipush (v := -7) hB dX9_ever_6 (by decide) ?_
      refine fr_icmp_ne (tgt := 15) hB dX9_ever_8 (by decide) (fun h => ?_) (fun h => ?_)
      · exact absurd rfl h
      · refine fr_iconst (v := nI 1) hB dX9_ever_11 (by decide) ?_
        refine fr_goto (tgt := 26) hB dX9_ever_12 (by decide) ?_
        exact fr_ireturn hB dX9_ever_26 (⟨by rw [sp_same, if_pos h1], fm_mf.dr _ _ _ _⟩)
    · rw [if_neg h1]
      refine fr_istore_n hB dX9_ever_4 rfl (by decide) rfl ?_
      refine fr_iload_n hB dX9_ever_5 rfl rfl ?_
      refine fr_bipush (v := -7) hB dX9_ever_6 (by decide) ?_
      refine fr_icmp_ne (tgt := 15) hB dX9_ever_8 (by decide) (fun h => ?_) (fun h => ?_)
      · refine fr_iload_n hB dX9_ever_15 rfl rfl ?_
        refine fr_bipush (v := -6) hB dX9_ever_16 (by decide) ?_
        refine fr_icmp_ne (tgt := 25) hB dX9_ever_18 (by decide) (fun h2 => ?_) (fun h2 => ?_)
        · refine fr_iconst (v := nI 0) hB dX9_ever_25 (by decide) ?_
          exact fr_ireturn hB dX9_ever_26 (⟨by rw [sp_same, if_neg h1, if_neg h0], fm_mf.dr _ _ _ _⟩)
        · exact absurd (Decidable.not_not.mp h2) (by decide)
      · exact absurd (Decidable.not_not.mp h) (by decide)
theorem mm_node {E : fm_E} {n w : Int32} {Z : fm_Z} {M : fm_M} (hm : fm_MR Z M) (hw : fm_WZ Z) : fm_C shM E mX9_node 9 [.ref (E.2.1 0), .int n, .int w] M (fun r M' => r = some (.int (sp_node Z.1 n w)) ∧ fm_mf M M') := by
  have h8 := hw.1.1.g8
  refine fm_C.of (by decide +kernel) (Nat.le_of_ble_eq_true rfl) ?_
  intro X hE hR hB
  subst hE
  have hB : fm_B _ X cX9_node 3 RX9 (some .int) := hB
  refine fr_lv [some (.ref (fm_rh X 0)), some (.int n), some (.int w)] ⟨rfl, rfl, rfl, trivial⟩ ?_
  refine fr_aload_n hB dX9_node_0 rfl rfl ?_
  refine fr_getI hB dX9_node_1 lf_X9_97 rfl rfl ?_
  refine fr_eqi _ (hm.1.pl.gates) ?_
  refine fr_if_neN (tgt := 10) hB dX9_node_4 (by decide) (by omega) (fun h => ?_) (fun h => ?_)
  · refine fr_aload_n hB dX9_node_10 rfl rfl ?_
    refine fr_callV hB _ _ dX9_node_11 lm_X9_202 rfl (ct_X9_draws hm.1.pl hw.1.1 h) rfl rfl (Nat.le_of_ble_eq_true rfl) (fm_room hR (by decide) (by decide)) ?_
    rintro _ _ ⟨G, F, L, rfl, rfl⟩
    refine fr_ret1 ?_
    refine fr_pop hB dX9_node_14 rfl ?_
    have e : sp_node Z.1 n w = fm_nd (fm_DG Z.1 (fm_TT Z.1) G).2 n w := by rw [sp_node, if_neg (by omega), fm_DG_nd Z.1 (fm_TT Z.1) G]
    rw [e]
    have hle := fm_DG_le Z.1 (fm_TT Z.1) G
    have hmf := fm_mf.dr M F (fm_DG Z.1 (fm_TT Z.1) G).2 L
    generalize fm_DG Z.1 (fm_TT Z.1) G = D at hle hmf ⊢
    obtain ⟨r0, S⟩ := D
    have hle : S.1 ≤ 64 := hle
    have hmf : fm_mf M (fm_hm (fm_row M.1 14 F, M.2) S L) := hmf
    show fm_W shM X _ _ _ _ (fm_hm (fm_row M.1 14 F, M.2) S L) (fm_Q shM X (fun r M' => r = some (.int (fm_nd S n w)) ∧ fm_mf M M'))
    refine fr_iload_n hB dX9_node_15 rfl rfl ?_
    refine fr_iconst (v := nI 0) hB dX9_node_16 (by decide) ?_
    refine fr_aload_n hB dX9_node_17 rfl rfl ?_
    refine fr_getI hB dX9_node_18 lf_X9_188 rfl rfl ?_
    refine fr_eqi _ (hm_nodes _ _ _) ?_
    refine fr_iconst (v := nI 1) hB dX9_node_21 (by decide) ?_
    refine fr_isub hB dX9_node_22 ?_
    refine fr_callS hB _ _ dX9_node_23 lm_X9_93 (ct_X9_win (show S.1 < 2 ^ 31 by omega)) rfl rfl (Nat.le_of_ble_eq_true rfl) (fm_room hR (by decide) (by decide)) ?_
    rintro _ M9 ⟨rfl, hM9⟩
    rw [hM9]
    clear hM9 M9
    refine fr_ret1 ?_
    refine fr_if_neB (tgt := 31) hB dX9_node_26 (by decide) (fun hl => ?_) (fun hl => ?_)
    · obtain ⟨a, ha, rfl⟩ := fm_lt_of (by omega) hl
      have hca : (nI a).toNatClampNeg = a := nI_clamp (by omega)
      refine fr_iload_n hB dX9_node_31 rfl rfl ?_
      rcases fm_cases w 3 (by decide) with ⟨i, hi, rfl⟩ | hout
      · rcases (show i = 0 ∨ i = 1 ∨ i = 2 by omega) with rfl | rfl | rfl
        · refine fr_tableIn (tgt := 60) hB dX9_node_32 (by decide) (by decide) (by rfl) (by decide) ?_
          refine fr_aload_n hB dX9_node_60 rfl rfl ?_
          refine fr_getR hB dX9_node_61 lf_X9_63 rfl rfl ?_
          refine fr_iload_n hB dX9_node_64 rfl rfl ?_
          refine fr_iald hB (_) dX9_node_65 rfl (rfl) (by omega) (by decide) ?_
          exact fr_ireturn hB dX9_node_66 (⟨by rw [fm_nd, if_pos hl, if_pos rfl, hca]; rfl, hmf⟩)
        · refine fr_tableIn (tgt := 67) hB dX9_node_32 (by decide) (by decide) (by rfl) (by decide) ?_
          refine fr_aload_n hB dX9_node_67 rfl rfl ?_
          refine fr_getR hB dX9_node_68 lf_X9_66 rfl rfl ?_
          refine fr_iload_n hB dX9_node_71 rfl rfl ?_
          refine fr_iald hB (_) dX9_node_72 rfl (rfl) (by omega) (by decide) ?_
          exact fr_ireturn hB dX9_node_73 (⟨by rw [fm_nd, if_pos hl, if_neg (by decide), if_pos rfl, hca]; rfl, hmf⟩)
        · refine fr_tableIn (tgt := 74) hB dX9_node_32 (by decide) (by decide) (by rfl) (by decide) ?_
          refine fr_aload_n hB dX9_node_74 rfl rfl ?_
          refine fr_getR hB dX9_node_75 lf_X9_69 rfl rfl ?_
          refine fr_iload_n hB dX9_node_78 rfl rfl ?_
          refine fr_iald hB (_) dX9_node_79 rfl (rfl) (by omega) (by decide) ?_
          exact fr_ireturn hB dX9_node_80 (⟨by rw [fm_nd, if_pos hl, if_neg (by decide), if_neg (by decide), if_pos rfl, hca]; rfl, hmf⟩)
      · have e : ∀ i : Nat, i < 3 → ¬ w = nI i := fun i hi q => by
          rw [q, nI_toInt (by omega)] at hout
          omega
        refine fr_tableOut (tgt := 81) hB dX9_node_32 (by omega) (by decide) ?_
        refine fr_iconst (v := -1) hB dX9_node_81 (by decide) ?_
        exact fr_ireturn hB dX9_node_82 (⟨by rw [fm_nd, if_pos hl, if_neg (e 0 (by decide)), if_neg (e 1 (by decide)), if_neg (e 2 (by decide))], hmf⟩)
    · refine fr_iconst (v := -1) hB dX9_node_29 (by decide) ?_
      exact fr_ireturn hB dX9_node_30 (⟨by rw [fm_nd, hl]; rfl, hmf⟩)
  · refine fr_bipush (v := -3) hB dX9_node_7 (by decide) ?_
    exact fr_ireturn hB dX9_node_9 (⟨by rw [sp_node, if_pos h], fm_mf.rf M⟩)
theorem fm_sg_tr (w i b j : Nat) : fm_sg w i (fm_sg i b j) = fm_sg w b j := by
  unfold fm_sg
  by_cases e1 : j = b
  · rw [if_pos e1, if_pos e1, if_pos rfl]
  · rw [if_neg e1, if_neg e1]
    by_cases e2 : i ≤ j ∧ j < b
    · rw [if_pos e2]
      by_cases e3 : w ≤ j ∧ j < b
      · rw [if_pos e3, if_neg (by omega), if_neg (by omega), if_neg (by omega)]
      · rw [if_neg e3]
        by_cases e4 : b < j ∧ j ≤ w
        · omega
        · rw [if_neg e4, if_neg (by omega), if_neg (by omega), if_pos (by omega)]; omega
    · rw [if_neg e2]
      by_cases e3 : b < j ∧ j ≤ i
      · rw [if_pos e3, if_neg (by omega)]
        by_cases e4 : w ≤ j ∧ j < b
        · omega
        · rw [if_neg e4]
          by_cases e5 : b < j ∧ j ≤ w
          · rw [if_pos e5, if_neg (by omega), if_neg (by omega)]
          · rw [if_neg e5, if_pos (by omega)]; omega
      · rw [if_neg e3]
        by_cases e6 : j = i
        · subst e6; omega
        · rw [if_neg e6]
          by_cases e4 : w ≤ j ∧ j < b
          · rw [if_pos e4]
            rw [if_pos (by omega)]
          · rw [if_neg e4]
            by_cases e5 : b < j ∧ j ≤ w
            · rw [if_pos e5, if_neg (by omega), if_pos (by omega)]
            · rw [if_neg e5, if_neg (by omega), if_neg (by omega)]
theorem sp_mv_pos {P : fm_P} (hw : fm_wf P) {a i : Nat} (ha : a < P 0 0) (hi : i < P 0 0) : fm_pos (sp_mv P a i 2) a = i := by
  have h6 := hw.p6
  have hw2 := hw.mv ha hi
  obtain ⟨p1, p2⟩ := hw2.ord.pos h6 (show a < sp_mv P a i 0 0 from ha)
  obtain ⟨q1, q2⟩ := hw.ord.pos h6 ha
  refine hw2.ord.2.1 _ _ p1 hi (p2.trans ?_)
  show a = fm_mv (P 2) (fm_pos (P 2) a) i i
  unfold fm_mv
  rw [if_pos rfl, q2]
theorem sp_mv_mv {P : fm_P} (hw : fm_wf P) {a i : Nat} (ha : a < P 0 0) (hi : i < P 0 0) (b : Nat) : sp_mv (sp_mv P a i) a b = sp_mv P a b := by
  have e := sp_mv_pos hw ha hi
  show fm_row (sp_mv P a i) 2 (fm_mv (sp_mv P a i 2) (fm_pos (sp_mv P a i 2) a) b) = fm_row P 2 (fm_mv (P 2) (fm_pos (P 2) a) b)
  rw [e]
  show fm_row (fm_row P 2 (fm_mv (P 2) (fm_pos (P 2) a) i)) 2 (fm_mv (fm_mv (P 2) (fm_pos (P 2) a) i) i b) = _
  rw [fm_row_row]
  congr 1
  funext j
  rw [fm_mv_sg, fm_mv_sg, fm_mv_sg, fm_sg_tr]
