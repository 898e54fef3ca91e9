/-! ===== FaultGraph$Graph: draw, ofNode; Integer.bitCount ===== -/
theorem gm_over (M : fm_M) (v : Int32) (S : fm_GS) : fm_gm (fm_pi M 54 0 v) S = fm_gm M S := by
  refine Prod.ext (funext fun a => ?_) rfl
  unfold fm_gm
  by_cases h : a = 54
  · subst h
    funext j
    by_cases hj : j = 0
    · simp [hj]
    · simp [hj, fm_u]
  · simp [h, fm_u]
/-- the graph drawn of a table -/
def fm_draw (P : fm_P) (t : Int64) (M : fm_M) : Int32 × fm_GS := fm_meet (P 2) (P 0 0) 6 t 0 (0, M.2 55, M.1 56, M.1 57, M.1 58)
theorem ct_X1_draw {E : fm_E} {k : Nat} {t : Int64} {P : fm_P} {M : fm_M} (hk : k + 8 < 54) (hs : fm_Pl shC k) (hr : fm_PR k P M) (hw : fm_wf P) : fm_C shC E mX1_draw 9 [.ref (E.2.1 54), .ref (E.2.1 k), .long t] M (fun r M' => r = some (.int (nI (fm_draw P t M).2.1)) ∧ M' = fm_gm M (fm_draw P t M).2) := by
  have h6 := hw.p6
  refine fm_C.of (by decide +kernel) (Nat.le_of_ble_eq_true rfl) ?_
  intro X hE hR hB
  subst hE
  have hB : fm_B _ X cX1_draw 4 RX1 (some .int) := hB
  refine fr_lv [some (.ref (fm_rh X 54)), some (.ref (fm_rh X k)), some (.long t), none] ⟨rfl, rfl, rfl, trivial⟩ ?_
  refine fr_aload_n hB dX1_draw_0 rfl rfl ?_
  refine fr_iconst (v := nI 0) hB dX1_draw_1 (by decide) ?_
  refine fr_putI hB dX1_draw_2 lp_X1_25 rfl rfl ?_
  have e : fm_pi M 54 0 (nI 0) = fm_gm M (0, M.2 55, M.1 56, M.1 57, M.1 58) := by
    have h1 := gm_self (fm_pi M 54 0 (nI 0)) (n := 0) rfl
    rw [gm_over] at h1
    exact h1
  rw [e]
  refine fr_aload_n hB dX1_draw_5 rfl rfl ?_
  refine fr_aload_n hB dX1_draw_6 rfl rfl ?_
  refine fr_lload_n hB dX1_draw_7 rfl rfl ?_
  refine fr_iconst (v := nI 0) hB dX1_draw_8 (by decide) ?_
  refine fr_callV hB _ _ dX1_draw_9 lm_X1_29 rfl (ct_X1_meet hk hs hr hw 6 (fm_EX X) 0 t _ (by omega) (by omega) (by show 0 ≤ 64; omega)) rfl rfl (Nat.le_of_ble_eq_true rfl) (fm_room hR (by decide) (by decide)) ?_
  rintro _ M9 ⟨rfl, hM9⟩
  rw [hM9]
  clear hM9 M9
  refine fr_ret1 ?_
  refine fr_pop hB dX1_draw_12 rfl ?_
  refine fr_aload_n hB dX1_draw_13 rfl rfl ?_
  refine fr_getI hB dX1_draw_14 lf_X1_25 rfl rfl ?_
  refine fr_eqi (nI ((fm_draw P t M).2.1)) (rfl) ?_
  exact fr_ireturn hB dX1_draw_17 (⟨rfl, rfl⟩)
/-- of a node what is told -/
def fm_nd (S : fm_GS) (n w : Int32) : Int32 := if fm_lt n S.1 then (if w = nI 0 then S.2.2.1 n.toNatClampNeg else if w = nI 1 then S.2.2.2.1 n.toNatClampNeg else if w = nI 2 then S.2.2.2.2 n.toNatClampNeg else -1) else -1
theorem ct_X1_ofNode {E : fm_E} {n w : Int32} {S : fm_GS} {M : fm_M} (h64 : S.1 ≤ 64) : fm_C shC E mX1_ofNode 0 [.ref (E.2.1 54), .int n, .int w] (fm_gm M S) (fun r M' => r = some (.int (fm_nd S n w)) ∧ M' = fm_gm M S) := by
  refine fm_C.of (by decide +kernel) (Nat.le_of_ble_eq_true rfl) ?_
  intro X hE hR hB
  subst hE
  have hB : fm_B _ X cX1_ofNode 3 RX1 (some .int) := hB
  refine fr_lv [some (.ref (fm_rh X 54)), some (.int n), some (.int w)] ⟨rfl, rfl, rfl, trivial⟩ ?_
  refine fr_iload_n hB dX1_ofNode_0 rfl rfl ?_
  refine fr_if_lt (tgt := 12) hB dX1_ofNode_1 (by decide) (fun h => ?_) (fun h => ?_)
  · refine fr_iconst (v := -1) hB dX1_ofNode_12 (by decide) ?_
    exact fr_ireturn hB dX1_ofNode_13 (⟨by rw [fm_nd, fm_lt_neg _ h]; rfl, rfl⟩)
  · obtain ⟨a, ha, rfl⟩ := nI_of h
    have hca : (nI a).toNatClampNeg = a := nI_clamp ha
    refine fr_iload_n hB dX1_ofNode_4 rfl rfl ?_
    refine fr_aload_n hB dX1_ofNode_5 rfl rfl ?_
    refine fr_getI hB dX1_ofNode_6 lf_X1_25 rfl rfl ?_
    refine fr_eqi _ (gm_size M S) ?_
    refine fr_icmp_ltN (tgt := 14) hB dX1_ofNode_9 (by decide) (by omega) (by omega) (fun h2 => ?_) (fun h2 => ?_)
    · have hl : fm_lt (nI a) S.1 = true := by rw [fm_lt_nat ha (by omega)]; simp [h2]
      refine fr_iload_n hB dX1_ofNode_14 rfl rfl ?_
      rcases fm_cases w 3 (by decide) with ⟨i, hi, rfl⟩ | hout
      · rcases (show i = 0 ∨ i = 1 ∨ i = 2 by omega) with rfl | rfl | rfl
        · refine fr_tableIn (tgt := 40) hB dX1_ofNode_15 (by decide) (by decide) (by rfl) (by decide) ?_
          refine fr_aload_n hB dX1_ofNode_40 rfl rfl ?_
          refine fr_getR hB dX1_ofNode_41 lf_X1_15 rfl rfl ?_
          refine fr_iload_n hB dX1_ofNode_44 rfl rfl ?_
          refine fr_iald hB (_) dX1_ofNode_45 rfl (rfl) (by omega) (by decide) ?_
          exact fr_ireturn hB dX1_ofNode_46 (⟨by rw [fm_nd, if_pos hl, if_pos rfl, hca]; rfl, rfl⟩)
        · refine fr_tableIn (tgt := 47) hB dX1_ofNode_15 (by decide) (by decide) (by rfl) (by decide) ?_
          refine fr_aload_n hB dX1_ofNode_47 rfl rfl ?_
          refine fr_getR hB dX1_ofNode_48 lf_X1_19 rfl rfl ?_
          refine fr_iload_n hB dX1_ofNode_51 rfl rfl ?_
          refine fr_iald hB (_) dX1_ofNode_52 rfl (rfl) (by omega) (by decide) ?_
          exact fr_ireturn hB dX1_ofNode_53 (⟨by rw [fm_nd, if_pos hl, if_neg (by decide), if_pos rfl, hca]; rfl, rfl⟩)
        · refine fr_tableIn (tgt := 54) hB dX1_ofNode_15 (by decide) (by decide) (by rfl) (by decide) ?_
          refine fr_aload_n hB dX1_ofNode_54 rfl rfl ?_
          refine fr_getR hB dX1_ofNode_55 lf_X1_22 rfl rfl ?_
          refine fr_iload_n hB dX1_ofNode_58 rfl rfl ?_
          refine fr_iald hB (_) dX1_ofNode_59 rfl (rfl) (by omega) (by decide) ?_
          exact fr_ireturn hB dX1_ofNode_60 (⟨by rw [fm_nd, if_pos hl, if_neg (by decide), if_neg (by decide), if_pos rfl, hca]; rfl, rfl⟩)
      · have e : ∀ i : Nat, i < 3 → ¬ w = nI i := fun i hi q => by
          rw [q, nI_toInt (by omega)] at hout
          omega
        refine fr_tableOut (tgt := 61) hB dX1_ofNode_15 (by omega) (by decide) ?_
        refine fr_iconst (v := -1) hB dX1_ofNode_61 (by decide) ?_
        exact fr_ireturn hB dX1_ofNode_62 (⟨by rw [fm_nd, if_pos hl, if_neg (e 0 (by decide)), if_neg (e 1 (by decide)), if_neg (e 2 (by decide))], rfl⟩)
    · have hl : fm_lt (nI a) S.1 = false := by rw [fm_lt_nat ha (by omega)]; simp [h2]
      refine fr_iconst (v := -1) hB dX1_ofNode_12 (by decide) ?_
      exact fr_ireturn hB dX1_ofNode_13 (⟨by rw [fm_nd, hl]; rfl, rfl⟩)
def fm_bcr : Nat → Nat → Nat
  | 0, _ => 0
  | d + 1, s => s % 2 + fm_bcr d (s / 2)
/-- how many parts a set has -/
def fm_bc (s : Nat) : Nat := fm_bcr 7 s
theorem fm_bc_le : ∀ s : Nat, s < 64 → fm_bc s ≤ 6 := by decide +kernel
theorem ct_bitCount {sh : List fm_S} {E : fm_E} {s : Nat} {M : fm_M} (hs : s < 64) : fm_C sh E mJ6_bitCount_0f7a4 0 [.int (nI s)] M (fun r M' => r = some (.int (nI (fm_bc s))) ∧ M' = M) := by
  refine fm_C.of (by decide +kernel) (Nat.le_of_ble_eq_true rfl) ?_
  intro X hE hR hB
  subst hE
  have hB : fm_B _ X cJ6_bitCount_0f7a4 1 RJ6 (some .int) := hB
  refine fr_lv [some (.int (nI s))] ⟨rfl, trivial⟩ ?_
  refine fr_iload_n hB dJ6_bitCount_0f7a4_0 rfl rfl ?_
  refine fr_iload_n hB dJ6_bitCount_0f7a4_1 rfl rfl ?_
  refine fr_iconst (v := nI 1) hB dJ6_bitCount_0f7a4_2 (by decide) ?_
  refine fr_iushr hB dJ6_bitCount_0f7a4_3 rfl ?_
  refine fr_ldcw (v := 1431655765) hB dJ6_bitCount_0f7a4_4 lc_J6_265 ?_
  refine fr_iand hB dJ6_bitCount_0f7a4_7 ?_
  refine fr_isub hB dJ6_bitCount_0f7a4_8 ?_
  refine fr_istore_n hB dJ6_bitCount_0f7a4_9 rfl (by decide) rfl ?_
  refine fr_iload_n hB dJ6_bitCount_0f7a4_10 rfl rfl ?_
  refine fr_ldcw (v := 858993459) hB dJ6_bitCount_0f7a4_11 lc_J6_266 ?_
  refine fr_iand hB dJ6_bitCount_0f7a4_14 ?_
  refine fr_iload_n hB dJ6_bitCount_0f7a4_15 rfl rfl ?_
  refine fr_iconst (v := nI 2) hB dJ6_bitCount_0f7a4_16 (by decide) ?_
  refine fr_iushr hB dJ6_bitCount_0f7a4_17 rfl ?_
  refine fr_ldcw (v := 858993459) hB dJ6_bitCount_0f7a4_18 lc_J6_266 ?_
  refine fr_iand hB dJ6_bitCount_0f7a4_21 ?_
  refine fr_iadd hB dJ6_bitCount_0f7a4_22 ?_
  refine fr_istore_n hB dJ6_bitCount_0f7a4_23 rfl (by decide) rfl ?_
  refine fr_iload_n hB dJ6_bitCount_0f7a4_24 rfl rfl ?_
  refine fr_iload_n hB dJ6_bitCount_0f7a4_25 rfl rfl ?_
  refine fr_iconst (v := nI 4) hB dJ6_bitCount_0f7a4_26 (by decide) ?_
  refine fr_iushr hB dJ6_bitCount_0f7a4_27 rfl ?_
  refine fr_iadd hB dJ6_bitCount_0f7a4_28 ?_
  refine fr_ldcw (v := 252645135) hB dJ6_bitCount_0f7a4_29 lc_J6_267 ?_
  refine fr_iand hB dJ6_bitCount_0f7a4_32 ?_
  refine fr_istore_n hB dJ6_bitCount_0f7a4_33 rfl (by decide) rfl ?_
  refine fr_iload_n hB dJ6_bitCount_0f7a4_34 rfl rfl ?_
  refine fr_iload_n hB dJ6_bitCount_0f7a4_35 rfl rfl ?_
  refine fr_bipush (v := nI 8) hB dJ6_bitCount_0f7a4_36 (by decide) ?_
  refine fr_iushr hB dJ6_bitCount_0f7a4_38 rfl ?_
  refine fr_iadd hB dJ6_bitCount_0f7a4_39 ?_
  refine fr_istore_n hB dJ6_bitCount_0f7a4_40 rfl (by decide) rfl ?_
  refine fr_iload_n hB dJ6_bitCount_0f7a4_41 rfl rfl ?_
  refine fr_iload_n hB dJ6_bitCount_0f7a4_42 rfl rfl ?_
  refine fr_bipush (v := nI 16) hB dJ6_bitCount_0f7a4_43 (by decide) ?_
  refine fr_iushr hB dJ6_bitCount_0f7a4_45 rfl ?_
  refine fr_iadd hB dJ6_bitCount_0f7a4_46 ?_
  refine fr_istore_n hB dJ6_bitCount_0f7a4_47 rfl (by decide) rfl ?_
  refine fr_iload_n hB dJ6_bitCount_0f7a4_48 rfl rfl ?_
  refine fr_bipush (v := nI 63) hB dJ6_bitCount_0f7a4_49 (by decide) ?_
  refine fr_iand hB dJ6_bitCount_0f7a4_51 ?_
  exact fr_ireturn hB dJ6_bitCount_0f7a4_52 (⟨congrArg (fun z => some (Value.int z)) (by clear hR; revert s; decide +kernel), rfl⟩)
