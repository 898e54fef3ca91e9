/-! ===== FaultGraph: fails, node, told, cut, path, chance, given, weight ===== -/
theorem fm_fr.L {M : fm_M} {L : Nat → Nat → Int64} (h : ∀ a, 68 ≤ a → L a = M.2 a) : fm_fr M (M.1, L) := ⟨fun _ _ => rfl, rfl, fun _ _ => rfl, h⟩
theorem fm_fr.gm (M : fm_M) (S : fm_GS) : fm_fr M (fm_gm M S) := ⟨fun a ha => gm_1 M S (by omega), by rw [gm_1 M S (by omega)], fun a ha => gm_1 M S (by omega), fun a ha => gm_2 M S (by omega)⟩
theorem fm_fr.sm (M : fm_M) (S : fm_SS) : fm_fr M (fm_sm M S) := ⟨fun a ha => sm_1 M S (by omega) (by omega), by rw [sm_1 M S (by omega) (by omega)], fun a ha => sm_1 M S (by omega) (by omega), fun a ha => rfl⟩
theorem fm_fr.ch (M : fm_M) (L : Nat → Int64) : fm_fr M (M.1, fm_row M.2 62 L) := fm_fr.L (fun a ha => fm_row_ne _ _ (by omega))
/-- lists of sets that are the same as far as they go -/
def fm_sq (S S' : fm_SS) : Prop := S.1 = S'.1 ∧ ∀ j, j < S.1 → S.2 j = S'.2 j
theorem fm_sq.kp {S S' : fm_SS} (h : fm_sq S S') (x : Nat) : fm_sq (fm_kp S x) (fm_kp S' x) := by
  unfold fm_kp
  rw [← h.1]
  split
  · refine ⟨rfl, fun j hj => ?_⟩
    have hj : j < S.1 + 1 := hj
    show fm_up S.2 S.1 (nI x) j = fm_up S'.2 S.1 (nI x) j
    unfold fm_up
    by_cases e : j = S.1
    · rw [if_pos e, if_pos e]
    · rw [if_neg e, if_neg e]; exact h.2 j (by omega)
  · exact h
theorem fm_sq.inn (q : Nat → Bool) (m : Nat) : ∀ d i (S S' : fm_SS), fm_sq S S' → fm_sq (fm_inn q m d i S) (fm_inn q m d i S') := by
  intro d
  induction d with
  | zero => intro i S S' h; exact h
  | succ d ih =>
    intro i S S' h
    unfold fm_inn
    apply ih
    split
    · exact h.kp i
    · exact h
theorem fm_sq.out (q : Nat → Bool) (N : Nat) : ∀ d m (S S' : fm_SS), fm_sq S S' → fm_sq (fm_out q N d m S) (fm_out q N d m S') := by
  intro d
  induction d with
  | zero => intro m S S' h; exact h
  | succ d ih =>
    intro m S S' h
    unfold fm_out
    exact ih _ _ _ (fm_sq.inn q m N 0 S S' h)
/-- the least sets of a table, in their order -/
def fm_LS (T : Int64) (c : Nat) : fm_SS := fm_lst T c (fun _ => 0)
theorem fm_lst_sq (T : Int64) (c : Nat) (row : Nat → Int32) : fm_sq (fm_lst T c row) (fm_LS T c) := fm_sq.out _ _ _ _ _ _ ⟨rfl, fun j hj => absurd hj (Nat.not_lt_zero j)⟩
theorem fm_LS_le (T : Int64) (c : Nat) (row : Nat → Int32) : (fm_lst T c row).1 ≤ 64 := fm_out_le _ _ _ _ _ (by show 0 ≤ 64; omega)
theorem fm_sq.kth {S S' : fm_SS} (h : fm_sq S S') (h64 : S.1 ≤ 64) (n : Int32) : fm_kth S n = fm_kth S' n := by
  unfold fm_kth
  rw [← h.1]
  cases hl : fm_lt n S.1 with
  | false => rfl
  | true =>
    obtain ⟨a, ha, rfl⟩ := fm_lt_of (by omega) hl
    rw [nI_clamp (by omega)]
    simp only [if_true]
    exact h.2 a ha
theorem fm_sq.hs {S S' : fm_SS} (h : fm_sq S S') (x : Int32) : fm_hs S.2 x S.1 0 = fm_hs S'.2 x S'.1 0 := by
  rw [← h.1]
  have : ∀ d i, i + d = S.1 → fm_hs S.2 x d i = fm_hs S'.2 x d i := by
    intro d
    induction d with
    | zero => intro i _; rfl
    | succ d ih =>
      intro i hi
      unfold fm_hs
      rw [h.2 i (by omega), ih (i + 1) (by omega)]
  exact this S.1 0 (by omega)
/-- the top's table -/
def fm_TT (P : fm_P) : Int64 := fm_mk (fm_down P (fm_tg P)) 64
theorem fm_TT_bit (P : fm_P) {s : Nat} (hs : s < 64) : fm_bit (fm_TT P) s = fm_down P (fm_tg P) s := by
  rw [fm_TT, fm_mk_bit _ 64 (by omega) s hs]
  simp [hs]
def sp_fails (P : fm_P) (g b : Int32) : Int32 := if fm_lt (if g = -1 then fm_top (P 3 0) (P 8 0) else g) (P 3 0) then (if fm_lt b (2 ^ P 0 0) then fm_ib (fm_down P (if g = -1 then fm_top (P 3 0) (P 8 0) else g).toNatClampNeg b.toNatClampNeg) else -2) else -1
theorem cc_fails {E : fm_E} {g b : Int32} {Z : fm_Z} {M : fm_M} (hc : fm_CR Z M) (hw : fm_WZ Z) : fm_C shC E mX8_fails 4 [.ref (E.2.1 0), .int g, .int b] M (fun r M' => r = some (.int (sp_fails Z.1 g b)) ∧ fm_fr M M') := by
  have h6 := hw.1.1.p6
  have h8 := hw.1.1.g8
  have ht := hw.1.1.t8
  have h2c := fm_2c h6
  refine fm_C.of (by decide +kernel) (Nat.le_of_ble_eq_true rfl) ?_
  intro X hE hR hB
  subst hE
  have hB : fm_B _ X cX8_fails 5 RX8 (some .int) := hB
  refine fr_lv [some (.ref (fm_rh X 0)), some (.int g), some (.int b), none, none] ⟨rfl, rfl, rfl, trivial⟩ ?_
  have cut : ∀ q : Int32, q = (if g = -1 then fm_top (Z.1 3 0) (Z.1 8 0) else g) → fm_W shC X 5 21 [some (.ref (fm_rh X 0)), some (.int g), some (.int b), some (.ref (fm_rh X 2)), none] [.int q] M (fm_Q shC X (fun r M' => r = some (.int (sp_fails Z.1 g b)) ∧ fm_fr M M')) := by
    intro q hq
    refine fr_istore hB dX8_fails_21 (by decide) rfl ?_
    refine fr_aload_n hB dX8_fails_23 rfl rfl ?_
    refine fr_iload hB dX8_fails_24 rfl ?_
    refine fr_callV hB _ _ dX8_fails_26 lm_X8_84 rfl (ct_X3_hasGate shC_Pl2 hc.1.pl.gates) rfl rfl (Nat.le_of_ble_eq_true rfl) (fm_room hR (by decide) (by decide)) ?_
    rintro _ M9 ⟨rfl, hM9⟩
    rw [hM9]
    clear hM9 M9
    refine fr_ret1 ?_
    refine fr_if_neB (tgt := 34) hB dX8_fails_29 (by decide) (fun h => ?_) (fun h => ?_)
    · obtain ⟨c, hcc, hq2⟩ := fm_lt_of (by omega) h
      subst hq2
      refine fr_aload_n hB dX8_fails_34 rfl rfl ?_
      refine fr_iload_n hB dX8_fails_35 rfl rfl ?_
      refine fr_callV hB _ _ dX8_fails_36 lm_X8_111 rfl (ct_X3_hasBits shC_Pl2 hc.1.pl.parts h6) rfl rfl (Nat.le_of_ble_eq_true rfl) (fm_room hR (by decide) (by decide)) ?_
      rintro _ M9 ⟨rfl, hM9⟩
      rw [hM9]
      clear hM9 M9
      refine fr_ret1 ?_
      refine fr_if_neB (tgt := 45) hB dX8_fails_39 (by decide) (fun h2 => ?_) (fun h2 => ?_)
      · obtain ⟨d, hd, rfl⟩ := fm_lt_of (by omega) h2
        have e : sp_fails Z.1 g (nI d) = fm_ib (fm_down Z.1 c d) := by rw [sp_fails, ← hq, if_pos h, if_pos h2, nI_clamp (show c < 2 ^ 31 by omega), nI_clamp (show d < 2 ^ 31 by omega)]
        refine fr_aload_n hB dX8_fails_45 rfl rfl ?_
        refine fr_iload hB dX8_fails_46 rfl ?_
        refine fr_callV hB _ _ dX8_fails_48 lm_X8_176 rfl (ct_X3_tableOf shC_Pl2 hc.1.pl hw.1.1 hcc) rfl rfl (Nat.le_of_ble_eq_true rfl) (fm_room hR (by decide) (by decide)) ?_
        rintro _ _ ⟨rfl, L, rfl, hL⟩
        refine fr_ret1 ?_
        refine fr_iload_n hB dX8_fails_51 rfl rfl ?_
        refine fr_callS hB _ _ dX8_fails_52 lm_X8_180 (ct_X8_says (by omega)) rfl rfl (Nat.le_of_ble_eq_true rfl) (fm_room hR (by decide) (by decide)) ?_
        rintro _ M9 ⟨rfl, hM9⟩
        rw [hM9]
        clear hM9 M9
        refine fr_ret1 ?_
        rw [fm_mk_bit _ 64 (by omega) d (by omega)]
        simp only [show decide (d < 64) = true by simp; omega, Bool.true_and]
        have hfr : fm_fr M (M.1, L) := fm_fr.L (fun a ha => hL a (by omega) (by omega))
        refine fr_if_eqB (tgt := 62) hB dX8_fails_55 (by decide) (fun h3 => ?_) (fun h3 => ?_)
        · refine fr_iconst (v := nI 0) hB dX8_fails_62 (by decide) ?_
          exact fr_ireturn hB dX8_fails_63 (⟨by rw [e, h3]; rfl, hfr⟩)
        · refine fr_iconst (v := nI 1) hB dX8_fails_58 (by decide) ?_
          refine fr_goto (tgt := 63) hB dX8_fails_59 (by decide) ?_
          exact fr_ireturn hB dX8_fails_63 (⟨by rw [e, h3]; rfl, hfr⟩)
      · have e : sp_fails Z.1 g b = -2 := by rw [sp_fails, ← hq, if_pos h, h2]; rfl
        refine fr_bipush (v := -2) hB dX8_fails_42 (by decide) ?_
        exact fr_ireturn hB dX8_fails_44 (⟨by rw [e], fm_fr.rf M⟩)
    · have e : sp_fails Z.1 g b = -1 := by rw [sp_fails, ← hq, h]; rfl
      refine fr_iconst (v := -1) hB dX8_fails_32 (by decide) ?_
      exact fr_ireturn hB dX8_fails_33 (⟨by rw [e], fm_fr.rf M⟩)
  refine fr_aload_n hB dX8_fails_0 rfl rfl ?_
  refine fr_getR hB dX8_fails_1 lf_X8_14 rfl rfl ?_
  refine fr_getR hB dX8_fails_4 lf_X8_67 rfl rfl ?_
  refine fr_astore_n hB dX8_fails_7 rfl (by decide) rfl ?_
  refine fr_iload_n hB dX8_fails_8 rfl rfl ?_
  refine fr_iconst (v := -1) hB dX8_fails_9 (by decide) ?_
  refine fr_icmp_ne (tgt := 20) hB dX8_fails_10 (by decide) (fun h => ?_) (fun h => ?_)
  · refine fr_iload_n hB dX8_fails_20 rfl rfl ?_
    exact cut g (by rw [if_neg h])
  · have h : g = -1 := Decidable.not_not.mp h
    refine fr_aload_n hB dX8_fails_13 rfl rfl ?_
    refine fr_callV hB _ _ dX8_fails_14 lm_X8_103 rfl (ct_X3_topGate shC_Pl2 hc.1.pl.gates h8 hc.1.pl.top (by omega)) rfl rfl (Nat.le_of_ble_eq_true rfl) (fm_room hR (by decide) (by decide)) ?_
    rintro _ M9 ⟨rfl, hM9⟩
    rw [hM9]
    clear hM9 M9
    refine fr_ret1 ?_
    refine fr_goto (tgt := 21) hB dX8_fails_17 (by decide) ?_
    exact cut _ (by rw [if_pos h])
/-- the graph of the plant, whatever the rows held before -/
def fm_DG (P : fm_P) (T : Int64) (G : (Nat → Int64) × (Nat → Int32) × (Nat → Int32) × (Nat → Int32)) : Int32 × fm_GS := fm_meet (P 2) (P 0 0) 6 T 0 (0, G)
theorem fm_DG_le (P : fm_P) (T : Int64) (G : (Nat → Int64) × (Nat → Int32) × (Nat → Int32) × (Nat → Int32)) : (fm_DG P T G).2.1 ≤ 64 := fm_meet_le _ _ _ _ _ _ (by show 0 ≤ 64; omega)
theorem cc_node0 {E : fm_E} {n w : Int32} {Z : fm_Z} {M : fm_M} (hc : fm_CR Z M) (hw : fm_WZ Z) : fm_C shC E mX8_node 10 [.ref (E.2.1 0), .int n, .int w] M (fun r M' => (∃ G, r = some (.int (if Z.1 3 0 = 0 then -3 else fm_nd (fm_DG Z.1 (fm_TT Z.1) G).2 n w))) ∧ fm_fr M M') := by
  have h8 := hw.1.1.g8
  refine fm_C.of (by decide +kernel) (Nat.le_of_ble_eq_true rfl) ?_
  intro X hE hR hB
  subst hE
  have hB : fm_B _ X cX8_node 3 RX8 (some .int) := hB
  refine fr_lv [some (.ref (fm_rh X 0)), some (.int n), some (.int w)] ⟨rfl, rfl, rfl, trivial⟩ ?_
  refine fr_aload_n hB dX8_node_0 rfl rfl ?_
  refine fr_getR hB dX8_node_1 lf_X8_14 rfl rfl ?_
  refine fr_getR hB dX8_node_4 lf_X8_67 rfl rfl ?_
  refine fr_getI hB dX8_node_7 lf_X8_190 rfl rfl ?_
  refine fr_eqi _ (hc.1.pl.gates) ?_
  refine fr_if_neN (tgt := 16) hB dX8_node_10 (by decide) (by omega) (fun h => ?_) (fun h => ?_)
  · refine fr_aload_n hB dX8_node_16 rfl rfl ?_
    refine fr_getR hB dX8_node_17 lf_X8_31 rfl rfl ?_
    refine fr_aload_n hB dX8_node_20 rfl rfl ?_
    refine fr_getR hB dX8_node_21 lf_X8_14 rfl rfl ?_
    refine fr_getR hB dX8_node_24 lf_X8_67 rfl rfl ?_
    refine fr_aload_n hB dX8_node_27 rfl rfl ?_
    refine fr_getR hB dX8_node_28 lf_X8_14 rfl rfl ?_
    refine fr_getR hB dX8_node_31 lf_X8_67 rfl rfl ?_
    refine fr_callV hB _ _ dX8_node_34 lm_X8_200 rfl (ct_X3_topTable shC_Pl2 hc.1.pl hw.1.1 h) rfl rfl (Nat.le_of_ble_eq_true rfl) (fm_room hR (by decide) (by decide)) ?_
    rintro _ _ ⟨rfl, L, rfl, hL⟩
    refine fr_ret1 ?_
    refine fr_callV hB _ _ dX8_node_37 lm_X8_207 rfl (ct_X1_draw (by omega) shC_Pl2 (hc.1.pl.l L) hw.1.1) rfl rfl (Nat.le_of_ble_eq_true rfl) (fm_room hR (by decide) (by decide)) ?_
    rintro _ M9 ⟨rfl, hM9⟩
    rw [hM9]
    clear hM9 M9
    refine fr_ret1 ?_
    refine fr_pop hB dX8_node_40 rfl ?_
    refine fr_aload_n hB dX8_node_41 rfl rfl ?_
    refine fr_getR hB dX8_node_42 lf_X8_31 rfl rfl ?_
    refine fr_iload_n hB dX8_node_45 rfl rfl ?_
    refine fr_iload_n hB dX8_node_46 rfl rfl ?_
    refine fr_callV hB _ _ dX8_node_47 lm_X8_214 rfl (ct_X1_ofNode (fm_meet_le _ _ _ _ _ _ (by show 0 ≤ 64; omega))) rfl rfl (Nat.le_of_ble_eq_true rfl) (fm_room hR (by decide) (by decide)) ?_
    rintro _ M9 ⟨rfl, hM9⟩
    rw [hM9]
    clear hM9 M9
    refine fr_ret1 ?_
    exact fr_ireturn hB dX8_node_50 (⟨⟨_, by rw [if_neg (by omega)]; rfl⟩, (fm_fr.L (fun a ha => hL a (by omega) (by omega))).tr (fm_fr.gm _ _)⟩)
  · refine fr_bipush (v := -3) hB dX8_node_13 (by decide) ?_
    exact fr_ireturn hB dX8_node_15 (⟨⟨(fun _ => 0, fun _ => 0, fun _ => 0, fun _ => 0), by rw [if_pos h]⟩, fm_fr.rf M⟩)
def sp_same (T : Int64) : Int32 := if T = -1 then nI 1 else if T = 0 then -1 else nI 0
theorem ct_X8_sameness {sh : List fm_S} {E : fm_E} {T : Int64} {M : fm_M} : fm_C sh E mX8_sameness 0 [.long T] M (fun r M' => r = some (.int (sp_same T)) ∧ M' = M) := by
  refine fm_C.of (by decide +kernel) (Nat.le_of_ble_eq_true rfl) ?_
  intro X hE hR hB
  subst hE
  have hB : fm_B _ X cX8_sameness 2 RX8 (some .int) := hB
  refine fr_lv [some (.long T), none] ⟨rfl, trivial⟩ ?_
  refine fr_lload_n hB dX8_sameness_0 rfl rfl ?_
  refine fr_ldc2 (v := -1) hB dX8_sameness_1 lc_X8_237 ?_
  refine fr_lcmp hB dX8_sameness_4 ?_
  refine fr_if_ne (tgt := 10) hB dX8_sameness_5 (by decide) (fun h => ?_) (fun h => ?_)
  · have h : ¬ T = -1 := fun q => h ((lg_cmp_eq _ _).mpr q)
    refine fr_lload_n hB dX8_sameness_10 rfl rfl ?_
    refine fr_lconst (v := 0) hB dX8_sameness_11 (by decide) ?_
    refine fr_lcmp hB dX8_sameness_12 ?_
    refine fr_if_ne (tgt := 20) hB dX8_sameness_13 (by decide) (fun h2 => ?_) (fun h2 => ?_)
    · have h2 : ¬ T = 0 := fun q => h2 ((lg_cmp_eq _ _).mpr q)
      refine fr_iconst (v := nI 0) hB dX8_sameness_20 (by decide) ?_
      exact fr_ireturn hB dX8_sameness_21 (⟨by rw [sp_same, if_neg h, if_neg h2], rfl⟩)
    · have h2 : T = 0 := (lg_cmp_eq _ _).mp (Decidable.not_not.mp h2)
      refine fr_iconst (v := -1) hB dX8_sameness_16 (by decide) ?_
      refine fr_goto (tgt := 21) hB dX8_sameness_17 (by decide) ?_
      exact fr_ireturn hB dX8_sameness_21 (⟨by rw [sp_same, if_neg h, if_pos h2], rfl⟩)
  · have h : T = -1 := (lg_cmp_eq _ _).mp (Decidable.not_not.mp h)
    refine fr_iconst (v := nI 1) hB dX8_sameness_8 (by decide) ?_
    exact fr_ireturn hB dX8_sameness_9 (⟨by rw [sp_same, if_pos h], rfl⟩)
theorem cc_listCutsNow {E : fm_E} {Z : fm_Z} {M : fm_M} (hc : fm_CR Z M) (hw : fm_WZ Z) (hg : 0 < Z.1 3 0) : fm_C shC E mX8_listCutsNow 5 [.ref (E.2.1 0)] M (fun r M' => r = some (.int (nI (fm_LS (fm_TT Z.1) (Z.1 0 0)).1)) ∧ ∃ M1 S, M' = fm_sm M1 S ∧ fm_sq S (fm_LS (fm_TT Z.1) (Z.1 0 0)) ∧ S.1 ≤ 64 ∧ fm_fr M (fm_sm M1 S)) := by
  have h6 := hw.1.1.p6
  refine fm_C.of (by decide +kernel) (Nat.le_of_ble_eq_true rfl) ?_
  intro X hE hR hB
  subst hE
  have hB : fm_B _ X cX8_listCutsNow 1 RX8 (some .int) := hB
  refine fr_lv [some (.ref (fm_rh X 0))] ⟨rfl, trivial⟩ ?_
  refine fr_aload_n hB dX8_listCutsNow_0 rfl rfl ?_
  refine fr_getR hB dX8_listCutsNow_1 lf_X8_38 rfl rfl ?_
  refine fr_aload_n hB dX8_listCutsNow_4 rfl rfl ?_
  refine fr_getR hB dX8_listCutsNow_5 lf_X8_14 rfl rfl ?_
  refine fr_getR hB dX8_listCutsNow_8 lf_X8_67 rfl rfl ?_
  refine fr_callV hB _ _ dX8_listCutsNow_11 lm_X8_200 rfl (ct_X3_topTable shC_Pl2 hc.1.pl hw.1.1 hg) rfl rfl (Nat.le_of_ble_eq_true rfl) (fm_room hR (by decide) (by decide)) ?_
  rintro _ _ ⟨rfl, L, rfl, hL⟩
  refine fr_ret1 ?_
  refine fr_aload_n hB dX8_listCutsNow_14 rfl rfl ?_
  refine fr_getR hB dX8_listCutsNow_15 lf_X8_14 rfl rfl ?_
  refine fr_getR hB dX8_listCutsNow_18 lf_X8_67 rfl rfl ?_
  refine fr_getI hB dX8_listCutsNow_21 lf_X8_204 rfl rfl ?_
  refine fr_eqi _ (hc.1.pl.parts) ?_
  refine fr_callV hB _ _ dX8_listCutsNow_24 lm_X8_223 rfl (ct_X2_listCuts h6) rfl rfl (Nat.le_of_ble_eq_true rfl) (fm_room hR (by decide) (by decide)) ?_
  rintro _ M9 ⟨rfl, hM9⟩
  rw [hM9]
  clear hM9 M9
  refine fr_ret1 ?_
  have hsq := fm_lst_sq (fm_TT Z.1) (Z.1 0 0) (M.1 60)
  exact fr_ireturn hB dX8_listCutsNow_27 (⟨by rw [← hsq.1]; rfl, _, _, rfl, hsq, fm_LS_le _ _ _, (fm_fr.L (fun a ha => hL a (by omega) (by omega))).tr (fm_fr.sm _ _)⟩)
def sp_cut (P : fm_P) (n : Int32) : Int32 := if P 3 0 = 0 then -3 else fm_kth (fm_LS (fm_TT P) (P 0 0)) n
theorem cc_cut {E : fm_E} {n : Int32} {Z : fm_Z} {M : fm_M} (hc : fm_CR Z M) (hw : fm_WZ Z) : fm_C shC E mX8_cut 6 [.ref (E.2.1 0), .int n] M (fun r M' => r = some (.int (sp_cut Z.1 n)) ∧ fm_fr M M') := by
  have h8 := hw.1.1.g8
  refine fm_C.of (by decide +kernel) (Nat.le_of_ble_eq_true rfl) ?_
  intro X hE hR hB
  subst hE
  have hB : fm_B _ X cX8_cut 2 RX8 (some .int) := hB
  refine fr_lv [some (.ref (fm_rh X 0)), some (.int n)] ⟨rfl, rfl, trivial⟩ ?_
  refine fr_aload_n hB dX8_cut_0 rfl rfl ?_
  refine fr_getR hB dX8_cut_1 lf_X8_14 rfl rfl ?_
  refine fr_getR hB dX8_cut_4 lf_X8_67 rfl rfl ?_
  refine fr_getI hB dX8_cut_7 lf_X8_190 rfl rfl ?_
  refine fr_eqi _ (hc.1.pl.gates) ?_
  refine fr_if_neN (tgt := 16) hB dX8_cut_10 (by decide) (by omega) (fun h => ?_) (fun h => ?_)
  · refine fr_aload_n hB dX8_cut_16 rfl rfl ?_
    refine fr_callV hB _ _ dX8_cut_17 lm_X8_239 rfl (cc_listCutsNow hc hw h) rfl rfl (Nat.le_of_ble_eq_true rfl) (fm_room hR (by decide) (by decide)) ?_
    rintro _ _ ⟨rfl, M1, S, rfl, hsq, h64, hfr⟩
    refine fr_ret1 ?_
    refine fr_pop hB dX8_cut_20 rfl ?_
    refine fr_aload_n hB dX8_cut_21 rfl rfl ?_
    refine fr_getR hB dX8_cut_22 lf_X8_38 rfl rfl ?_
    refine fr_iload_n hB dX8_cut_25 rfl rfl ?_
    refine fr_callV hB _ _ dX8_cut_26 lm_X8_242 rfl (ct_X2_bitsOf h64) rfl rfl (Nat.le_of_ble_eq_true rfl) (fm_room hR (by decide) (by decide)) ?_
    rintro _ M9 ⟨rfl, hM9⟩
    rw [hM9]
    clear hM9 M9
    refine fr_ret1 ?_
    exact fr_ireturn hB dX8_cut_29 (⟨by rw [sp_cut, if_neg (by omega), hsq.kth h64], hfr⟩)
  · refine fr_bipush (v := -3) hB dX8_cut_13 (by decide) ?_
    exact fr_ireturn hB dX8_cut_15 (⟨by rw [sp_cut, if_pos h], fm_fr.rf M⟩)
def sp_path (P : fm_P) (n : Int32) : Int32 := if P 3 0 = 0 then -3 else fm_kth (fm_LS (fm_ku (fm_TT P)) (P 0 0)) n
theorem cc_path {E : fm_E} {n : Int32} {Z : fm_Z} {M : fm_M} (hc : fm_CR Z M) (hw : fm_WZ Z) : fm_C shC E mX8_path 5 [.ref (E.2.1 0), .int n] M (fun r M' => r = some (.int (sp_path Z.1 n)) ∧ fm_fr M M') := by
  have h8 := hw.1.1.g8
  have h6 := hw.1.1.p6
  refine fm_C.of (by decide +kernel) (Nat.le_of_ble_eq_true rfl) ?_
  intro X hE hR hB
  subst hE
  have hB : fm_B _ X cX8_path 2 RX8 (some .int) := hB
  refine fr_lv [some (.ref (fm_rh X 0)), some (.int n)] ⟨rfl, rfl, trivial⟩ ?_
  refine fr_aload_n hB dX8_path_0 rfl rfl ?_
  refine fr_getR hB dX8_path_1 lf_X8_14 rfl rfl ?_
  refine fr_getR hB dX8_path_4 lf_X8_67 rfl rfl ?_
  refine fr_getI hB dX8_path_7 lf_X8_190 rfl rfl ?_
  refine fr_eqi _ (hc.1.pl.gates) ?_
  refine fr_if_neN (tgt := 16) hB dX8_path_10 (by decide) (by omega) (fun h => ?_) (fun h => ?_)
  · have hsq := fm_lst_sq (fm_ku (fm_TT Z.1)) (Z.1 0 0) (M.1 60)
    have h64 := fm_LS_le (fm_ku (fm_TT Z.1)) (Z.1 0 0) (M.1 60)
    refine fr_aload_n hB dX8_path_16 rfl rfl ?_
    refine fr_getR hB dX8_path_17 lf_X8_38 rfl rfl ?_
    refine fr_aload_n hB dX8_path_20 rfl rfl ?_
    refine fr_getR hB dX8_path_21 lf_X8_14 rfl rfl ?_
    refine fr_getR hB dX8_path_24 lf_X8_67 rfl rfl ?_
    refine fr_callV hB _ _ dX8_path_27 lm_X8_200 rfl (ct_X3_topTable shC_Pl2 hc.1.pl hw.1.1 h) rfl rfl (Nat.le_of_ble_eq_true rfl) (fm_room hR (by decide) (by decide)) ?_
    rintro _ _ ⟨rfl, L, rfl, hL⟩
    refine fr_ret1 ?_
    refine fr_aload_n hB dX8_path_30 rfl rfl ?_
    refine fr_getR hB dX8_path_31 lf_X8_14 rfl rfl ?_
    refine fr_getR hB dX8_path_34 lf_X8_67 rfl rfl ?_
    refine fr_getI hB dX8_path_37 lf_X8_204 rfl rfl ?_
    refine fr_eqi _ (hc.1.pl.parts) ?_
    refine fr_callV hB _ _ dX8_path_40 lm_X8_227 rfl (ct_X2_listPaths h6) rfl rfl (Nat.le_of_ble_eq_true rfl) (fm_room hR (by decide) (by decide)) ?_
    rintro _ M9 ⟨rfl, hM9⟩
    rw [hM9]
    clear hM9 M9
    refine fr_ret1 ?_
    refine fr_pop hB dX8_path_43 rfl ?_
    refine fr_aload_n hB dX8_path_44 rfl rfl ?_
    refine fr_getR hB dX8_path_45 lf_X8_38 rfl rfl ?_
    refine fr_iload_n hB dX8_path_48 rfl rfl ?_
    refine fr_callV hB _ _ dX8_path_49 lm_X8_242 rfl (ct_X2_bitsOf h64) rfl rfl (Nat.le_of_ble_eq_true rfl) (fm_room hR (by decide) (by decide)) ?_
    rintro _ M9 ⟨rfl, hM9⟩
    rw [hM9]
    clear hM9 M9
    refine fr_ret1 ?_
    exact fr_ireturn hB dX8_path_52 (⟨by rw [sp_path, if_neg (by omega), ← hsq.kth h64]; rfl, (fm_fr.L (fun a ha => hL a (by omega) (by omega))).tr (fm_fr.sm _ _)⟩)
  · refine fr_bipush (v := -3) hB dX8_path_13 (by decide) ?_
    exact fr_ireturn hB dX8_path_15 (⟨by rw [sp_path, if_pos h], fm_fr.rf M⟩)
