/-! ===== FaultGraph: feed, count, at, move, see, event, book, image, undo ===== -/
def sp_feed (Z : fm_Z) (n : Int32) : Int32 × fm_Z := if fm_lt n 128 then (if Z.2.2.2.1 < 100 then (nI (Z.2.2.2.1 + 1), (Z.1, Z.2.1, fm_up Z.2.2.1 Z.2.2.2.1 n.toNatClampNeg, Z.2.2.2.1 + 1, Z.2.2.2.2)) else (-4, Z)) else (-2, Z)
theorem cc_feed {E : fm_E} {n : Int32} {Z : fm_Z} {M : fm_M} (hc : fm_CR Z M) (hw : fm_WZ Z) : fm_C shC E mX8_feed 1 [.ref (E.2.1 0), .int n] M (fun r M' => r = some (.int (sp_feed Z n).1) ∧ fm_CR (sp_feed Z n).2 M') := by
  obtain ⟨h1, h2, h3, h4⟩ := hc
  have hz := h3.2.1
  have hc : fm_CR Z M := ⟨h1, h2, h3, h4⟩
  refine fm_C.of (by decide +kernel) (Nat.le_of_ble_eq_true rfl) ?_
  intro X hE hR hB
  subst hE
  have hB : fm_B _ X cX8_feed 2 RX8 (some .int) := hB
  refine fr_lv [some (.ref (fm_rh X 0)), some (.int n)] ⟨rfl, rfl, trivial⟩ ?_
  refine fr_iload_n hB dX8_feed_0 rfl rfl ?_
  refine fr_if_lt (tgt := 10) hB dX8_feed_1 (by decide) (fun h => ?_) (fun h => ?_)
  · refine fr_bipush (v := -2) hB dX8_feed_10 (by decide) ?_
    exact fr_ireturn hB dX8_feed_12 (⟨by rw [sp_feed, fm_lt_neg _ h]; rfl, by rw [sp_feed, fm_lt_neg _ h]; exact hc⟩)
  · obtain ⟨a, ha, rfl⟩ := nI_of h
    have ea : (nI a).toNatClampNeg = a := nI_clamp ha
    refine fr_iload_n hB dX8_feed_4 rfl rfl ?_
    refine fr_bipush (v := nI 127) hB dX8_feed_5 (by decide) ?_
    refine fr_icmp_leN (tgt := 13) hB dX8_feed_7 (by decide) (by omega) (by omega) (fun h5 => ?_) (fun h5 => ?_)
    · have hl : fm_lt (nI a) 128 = true := by rw [fm_lt_nat ha (by omega)]; simp; omega
      refine fr_aload_n hB dX8_feed_13 rfl rfl ?_
      refine fr_getR hB dX8_feed_14 lf_X8_52 rfl rfl ?_
      refine fr_iload_n hB dX8_feed_17 rfl rfl ?_
      refine fr_callV hB _ _ dX8_feed_18 lm_X8_135 rfl (ct_X5_addSign h3.1 hz (by omega)) rfl rfl (Nat.le_of_ble_eq_true rfl) (fm_room hR (by decide) (by decide)) ?_
      rintro _ M9 ⟨rfl, hM9⟩
      rw [hM9]
      clear hM9 M9
      refine fr_ret1 ?_
      unfold sp_feed
      rw [if_pos hl, ea]
      by_cases hp : Z.2.2.2.1 < 100
      · rw [if_pos hp, if_pos hp, if_pos hp]
        refine fr_ireturn hB dX8_feed_21 ⟨rfl, h1.kept (fun b hb1 hb2 => ?_), ?_, ⟨?_, ?_, fun j hj => ?_⟩, fun j hj => ?_⟩
        · simp [fm_u, show ¬ b = 63 by omega, show ¬ b = 67 by omega]
        · show fm_IR Z.2.1 _
          cases hI : Z.2.1 with
          | none => rw [hI] at h2; simpa [fm_IR, fm_u] using h2
          | some Q =>
            rw [hI] at h2
            exact ⟨by simpa [fm_u] using h2.1, h2.2.kept (fun b hb1 hb2 => by simp [fm_u, show ¬ b = 63 by omega, show ¬ b = 67 by omega])⟩
        · simp [fm_u]
        · show Z.2.2.2.1 + 1 ≤ 100; omega
        · have hj : j < Z.2.2.2.1 + 1 := hj
          show fm_u (fm_u M.1 67 Z.2.2.2.1 (nI a)) 63 0 (nI (Z.2.2.2.1 + 1)) 67 j = nI (fm_up Z.2.2.1 Z.2.2.2.1 a j) ∧ fm_up Z.2.2.1 Z.2.2.2.1 a j < 128
          by_cases e : j = Z.2.2.2.1
          · simp [fm_u, fm_up, e]; omega
          · have := h3.2.2 j (by omega)
            simpa [fm_u, fm_up, e] using this
        · have := h4 j hj
          simpa [fm_u, show ¬ 69 + 2 * j = 63 by omega, show ¬ 69 + 2 * j = 67 by omega] using this
      · rw [if_neg hp, if_neg hp, if_neg hp]
        exact fr_ireturn hB dX8_feed_21 (⟨rfl, hc⟩)
    · have hl : fm_lt (nI a) 128 = false := by rw [fm_lt_nat ha (by omega)]; simp; omega
      refine fr_bipush (v := -2) hB dX8_feed_10 (by decide) ?_
      exact fr_ireturn hB dX8_feed_12 (⟨by rw [sp_feed, hl]; rfl, by rw [sp_feed, hl]; exact hc⟩)
def sp_count (Z : fm_Z) (w : Int32) : Int32 := if w = nI 0 then nI (Z.1 12 0) else if w = nI 1 then nI (Z.1 15 0) else if w = nI 2 then nI (Z.1 18 0) else if w = nI 3 then nI Z.2.2.2.1 else -2
theorem cc_count {E : fm_E} {w : Int32} {Z : fm_Z} {M : fm_M} (hc : fm_CR Z M) (hw : fm_WZ Z) : fm_C shC E mX8_count 0 [.ref (E.2.1 0), .int w] M (fun r M' => r = some (.int (sp_count Z w)) ∧ M' = M) := by
  refine fm_C.of (by decide +kernel) (Nat.le_of_ble_eq_true rfl) ?_
  intro X hE hR hB
  subst hE
  have hB : fm_B _ X cX8_count 2 RX8 (some .int) := hB
  refine fr_lv [some (.ref (fm_rh X 0)), some (.int w)] ⟨rfl, rfl, trivial⟩ ?_
  refine fr_iload_n hB dX8_count_0 rfl rfl ?_
  rcases fm_cases w 4 (by decide) with ⟨i, hi, rfl⟩ | hout
  · rcases (show i = 0 ∨ i = 1 ∨ i = 2 ∨ i = 3 by omega) with rfl | rfl | rfl | rfl
    · refine fr_tableIn (tgt := 32) hB dX8_count_1 (by decide) (by decide) (by rfl) (by decide) ?_
      refine fr_aload_n hB dX8_count_32 rfl rfl ?_
      refine fr_getR hB dX8_count_33 lf_X8_14 rfl rfl ?_
      refine fr_getR hB dX8_count_36 lf_X8_266 rfl rfl ?_
      refine fr_getI hB dX8_count_39 lf_X8_282 rfl rfl ?_
      refine fr_eqi _ (hc.1.2.1) ?_
      exact fr_ireturn hB dX8_count_42 (⟨rfl, rfl⟩)
    · refine fr_tableIn (tgt := 43) hB dX8_count_1 (by decide) (by decide) (by rfl) (by decide) ?_
      refine fr_aload_n hB dX8_count_43 rfl rfl ?_
      refine fr_getR hB dX8_count_44 lf_X8_14 rfl rfl ?_
      refine fr_getR hB dX8_count_47 lf_X8_288 rfl rfl ?_
      refine fr_getI hB dX8_count_50 lf_X8_282 rfl rfl ?_
      refine fr_eqi _ (hc.1.2.2.2.2.1) ?_
      exact fr_ireturn hB dX8_count_53 (⟨rfl, rfl⟩)
    · refine fr_tableIn (tgt := 54) hB dX8_count_1 (by decide) (by decide) (by rfl) (by decide) ?_
      refine fr_aload_n hB dX8_count_54 rfl rfl ?_
      refine fr_getR hB dX8_count_55 lf_X8_14 rfl rfl ?_
      refine fr_getR hB dX8_count_58 lf_X8_295 rfl rfl ?_
      refine fr_getI hB dX8_count_61 lf_X8_282 rfl rfl ?_
      refine fr_eqi _ (hc.1.2.2.2.2.2.2.2.1) ?_
      exact fr_ireturn hB dX8_count_64 (⟨rfl, rfl⟩)
    · refine fr_tableIn (tgt := 65) hB dX8_count_1 (by decide) (by decide) (by rfl) (by decide) ?_
      refine fr_aload_n hB dX8_count_65 rfl rfl ?_
      refine fr_getR hB dX8_count_66 lf_X8_52 rfl rfl ?_
      refine fr_getI hB dX8_count_69 lf_X8_142 rfl rfl ?_
      refine fr_eqi _ (hc.2.2.1.1) ?_
      exact fr_ireturn hB dX8_count_72 (⟨rfl, rfl⟩)
  · have e : ∀ i : Nat, i < 4 → ¬ w = nI i := fun i hi q => by
      rw [q, nI_toInt (by omega)] at hout
      omega
    refine fr_tableOut (tgt := 73) hB dX8_count_1 (by omega) (by decide) ?_
    refine fr_bipush (v := -2) hB dX8_count_73 (by decide) ?_
    exact fr_ireturn hB dX8_count_75 (⟨by rw [sp_count, if_neg (e 0 (by decide)), if_neg (e 1 (by decide)), if_neg (e 2 (by decide)), if_neg (e 3 (by decide))], rfl⟩)
def sp_at (P : fm_P) (n : Int32) : Int32 := if fm_lt n (P 0 0) then nI (P 2 n.toNatClampNeg) else -1
theorem cc_at {E : fm_E} {n : Int32} {Z : fm_Z} {M : fm_M} (hc : fm_CR Z M) (hw : fm_WZ Z) : fm_C shC E mX8_at 2 [.ref (E.2.1 0), .int n] M (fun r M' => r = some (.int (sp_at Z.1 n)) ∧ M' = M) := by
  have h6 := hw.1.1.p6
  refine fm_C.of (by decide +kernel) (Nat.le_of_ble_eq_true rfl) ?_
  intro X hE hR hB
  subst hE
  have hB : fm_B _ X cX8_at 2 RX8 (some .int) := hB
  refine fr_lv [some (.ref (fm_rh X 0)), some (.int n)] ⟨rfl, rfl, trivial⟩ ?_
  refine fr_aload_n hB dX8_at_0 rfl rfl ?_
  refine fr_getR hB dX8_at_1 lf_X8_14 rfl rfl ?_
  refine fr_getR hB dX8_at_4 lf_X8_67 rfl rfl ?_
  refine fr_iload_n hB dX8_at_7 rfl rfl ?_
  refine fr_callV hB _ _ dX8_at_8 lm_X8_184 rfl (ct_X3_hasPlace shC_Pl2 hc.1.pl.parts) rfl rfl (Nat.le_of_ble_eq_true rfl) (fm_room hR (by decide) (by decide)) ?_
  rintro _ M9 ⟨rfl, hM9⟩
  rw [hM9]
  clear hM9 M9
  refine fr_ret1 ?_
  refine fr_if_eqB (tgt := 29) hB dX8_at_11 (by decide) (fun h => ?_) (fun h => ?_)
  · refine fr_iconst (v := -1) hB dX8_at_29 (by decide) ?_
    exact fr_ireturn hB dX8_at_30 (⟨by rw [sp_at, h]; rfl, rfl⟩)
  · obtain ⟨a, ha, rfl⟩ := fm_lt_of (by omega) h
    refine fr_aload_n hB dX8_at_14 rfl rfl ?_
    refine fr_getR hB dX8_at_15 lf_X8_14 rfl rfl ?_
    refine fr_getR hB dX8_at_18 lf_X8_67 rfl rfl ?_
    refine fr_getR hB dX8_at_21 lf_X8_211 rfl rfl ?_
    refine fr_iload_n hB dX8_at_24 rfl rfl ?_
    refine fr_iald hB (_) dX8_at_25 rfl (rfl) (by omega) (by decide) ?_
    refine fr_eqi _ (hc.1.pl.order _ (by omega)) ?_
    refine fr_goto (tgt := 30) hB dX8_at_26 (by decide) ?_
    exact fr_ireturn hB dX8_at_30 (⟨by rw [sp_at, if_pos h, nI_clamp (show a < 2 ^ 31 by omega)], rfl⟩)
theorem fm_mv_nI {f : Nat → Int32} {g : Nat → Nat} {a b : Nat} (h : ∀ j, j < 6 → f j = nI (g j)) (ha : a < 6) (hb : b < 6) : ∀ j, j < 6 → fm_mv f a b j = nI (fm_mv g a b j) := by
  intro j hj
  unfold fm_mv
  by_cases e1 : j = b
  · rw [if_pos e1, if_pos e1]; exact h a ha
  · rw [if_neg e1, if_neg e1]
    by_cases e2 : a ≤ j ∧ j < b
    · rw [if_pos e2, if_pos e2]; exact h _ (by omega)
    · rw [if_neg e2, if_neg e2]
      by_cases e3 : b < j ∧ j ≤ a
      · rw [if_pos e3, if_pos e3]; exact h _ (by omega)
      · rw [if_neg e3, if_neg e3]; exact h j hj
theorem fm_PR.mv {k : Nat} {P : fm_P} {M : fm_M} (h : fm_PR k P M) {a b : Nat} (ha : a < 6) (hb : b < 6) : fm_PR k (fm_row P 2 (fm_mv (P 2) a b)) (fm_row M.1 (k + 2) (fm_mv (M.1 (k + 2)) a b), M.2) := by
  refine ⟨?_, ?_, ?_, ?_, ?_, ?_, ?_, ?_, ?_, ?_, ?_, ?_⟩
  · simpa [fm_row] using h.parts
  · simpa [fm_row] using h.odds
  · simpa [fm_row] using fm_mv_nI h.order ha hb
  · simpa [fm_row] using h.gates
  · simpa [fm_row] using h.kind
  · simpa [fm_row] using h.need
  · simpa [fm_row] using h.cnt
  · simpa [fm_row] using h.inp
  · simpa [fm_row] using h.top
  · simpa [fm_row] using h.causes
  · simpa [fm_row] using h.codds
  · simpa [fm_row] using h.cbits
theorem fm_SR.mv {P : fm_P} {M : fm_M} (h : fm_SR 1 P M) {a b : Nat} (ha : a < 6) (hb : b < 6) : fm_SR 1 (fm_row P 2 (fm_mv (P 2) a b)) (fm_row M.1 4 (fm_mv (M.1 4) a b), M.2) := by
  refine ⟨h.1.mv ha hb, ?_, ?_, ?_, ?_, ?_, ?_, ?_, ?_⟩
  · simpa [fm_row] using h.2.1
  · simpa [fm_row] using h.2.2.1
  · simpa [fm_row] using h.2.2.2.1
  · simpa [fm_row] using h.2.2.2.2.1
  · simpa [fm_row] using h.2.2.2.2.2.1
  · simpa [fm_row] using h.2.2.2.2.2.2.1
  · simpa [fm_row] using h.2.2.2.2.2.2.2.1
  · simpa [fm_row] using h.2.2.2.2.2.2.2.2
def sp_mv (P : fm_P) (a b : Nat) : fm_P := fm_row P 2 (fm_mv (P 2) (fm_pos (P 2) a) b)
def sp_move (P : fm_P) (n m : Int32) : Int32 × fm_P := if fm_lt n (P 0 0) then (if fm_lt m (P 0 0) then (nI (fm_pos (P 2) n.toNatClampNeg), sp_mv P n.toNatClampNeg m.toNatClampNeg) else (-2, P)) else (-1, P)
theorem cc_move {E : fm_E} {n m : Int32} {Z : fm_Z} {M : fm_M} (hc : fm_CR Z M) (hw : fm_WZ Z) : fm_C shC E mX8_move 2 [.ref (E.2.1 0), .int n, .int m] M (fun r M' => r = some (.int (sp_move Z.1 n m).1) ∧ fm_CR ((sp_move Z.1 n m).2, Z.2) M') := by
  have h6 := hw.1.1.p6
  refine fm_C.of (by decide +kernel) (Nat.le_of_ble_eq_true rfl) ?_
  intro X hE hR hB
  subst hE
  have hB : fm_B _ X cX8_move 4 RX8 (some .int) := hB
  refine fr_lv [some (.ref (fm_rh X 0)), some (.int n), some (.int m), none] ⟨rfl, rfl, rfl, trivial⟩ ?_
  refine fr_aload_n hB dX8_move_0 rfl rfl ?_
  refine fr_getR hB dX8_move_1 lf_X8_14 rfl rfl ?_
  refine fr_getR hB dX8_move_4 lf_X8_67 rfl rfl ?_
  refine fr_astore_n hB dX8_move_7 rfl (by decide) rfl ?_
  refine fr_aload_n hB dX8_move_8 rfl rfl ?_
  refine fr_iload_n hB dX8_move_9 rfl rfl ?_
  refine fr_callV hB _ _ dX8_move_10 lm_X8_94 rfl (ct_X3_hasPart shC_Pl2 hc.1.pl.parts) rfl rfl (Nat.le_of_ble_eq_true rfl) (fm_room hR (by decide) (by decide)) ?_
  rintro _ M9 ⟨rfl, hM9⟩
  rw [hM9]
  clear hM9 M9
  refine fr_ret1 ?_
  refine fr_if_neB (tgt := 18) hB dX8_move_13 (by decide) (fun h => ?_) (fun h => ?_)
  · refine fr_aload_n hB dX8_move_18 rfl rfl ?_
    refine fr_iload_n hB dX8_move_19 rfl rfl ?_
    refine fr_callV hB _ _ dX8_move_20 lm_X8_184 rfl (ct_X3_hasPlace shC_Pl2 hc.1.pl.parts) rfl rfl (Nat.le_of_ble_eq_true rfl) (fm_room hR (by decide) (by decide)) ?_
    rintro _ M9 ⟨rfl, hM9⟩
    rw [hM9]
    clear hM9 M9
    refine fr_ret1 ?_
    refine fr_if_neB (tgt := 29) hB dX8_move_23 (by decide) (fun h2 => ?_) (fun h2 => ?_)
    · obtain ⟨a, ha, rfl⟩ := fm_lt_of (by omega) h
      obtain ⟨b, hb, rfl⟩ := fm_lt_of (by omega) h2
      have hpos := hw.1.1.ord.pos h6 ha
      have e : sp_move Z.1 (nI a) (nI b) = (nI (fm_pos (Z.1 2) a), sp_mv Z.1 a b) := by rw [sp_move, if_pos h, if_pos h2, nI_clamp (show a < 2 ^ 31 by omega), nI_clamp (show b < 2 ^ 31 by omega)]
      refine fr_aload_n hB dX8_move_29 rfl rfl ?_
      refine fr_iload_n hB dX8_move_30 rfl rfl ?_
      refine fr_iload_n hB dX8_move_31 rfl rfl ?_
      refine fr_callV hB _ _ dX8_move_32 lm_X8_187 rfl (ct_X3_putAt shC_Pl2 hc.1.pl hw.1.1 ha hb) rfl rfl (Nat.le_of_ble_eq_true rfl) (fm_room hR (by decide) (by decide)) ?_
      rintro _ M9 ⟨rfl, hM9⟩
      rw [hM9]
      clear hM9 M9
      refine fr_ret1 ?_
      exact fr_ireturn hB dX8_move_35 (⟨by rw [e], by rw [e]; exact hc.now (hc.1.mv (by omega) (by omega)) (fun c hcc => fm_row_ne _ _ (by omega)) (fun _ _ => rfl)⟩)
    · refine fr_bipush (v := -2) hB dX8_move_26 (by decide) ?_
      exact fr_ireturn hB dX8_move_28 (⟨by rw [sp_move, if_pos h, h2]; rfl, by rw [sp_move, if_pos h, h2]; exact hc⟩)
  · refine fr_iconst (v := -1) hB dX8_move_16 (by decide) ?_
    exact fr_ireturn hB dX8_move_17 (⟨by rw [sp_move, h]; rfl, by rw [sp_move, h]; exact hc⟩)
def fm_bn (b : Bool) : Nat := match b with
  | true => 1
  | false => 0
theorem fm_ib_bn (b : Bool) : fm_ib b = nI (fm_bn b) := by cases b <;> rfl
def sp_see (P : fm_P) (n : Int32) (b : Bool) : Int32 × fm_P := if n = -1 then (nI 0, fm_u P 12 0 0) else if fm_lt n (2 ^ P 0 0) then (if P 12 0 < 6 then (nI (P 12 0 + 1), fm_u (fm_u (fm_u P 13 (P 12 0) n.toNatClampNeg) 14 (P 12 0) (fm_bn b)) 12 0 (P 12 0 + 1)) else (-4, P)) else (-2, P)
theorem cc_see {E : fm_E} {n : Int32} {b : Bool} {Z : fm_Z} {M : fm_M} (hc : fm_CR Z M) (hw : fm_WZ Z) : fm_C shC E mX8_see 1 [.ref (E.2.1 0), .int n, .int (fm_ib b)] M (fun r M' => r = some (.int (sp_see Z.1 n b).1) ∧ fm_CR ((sp_see Z.1 n b).2, Z.2) M') := by
  have h6 := hw.1.1.p6
  have h2c := fm_2c h6
  have hr6 := hw.1.2.1
  refine fm_C.of (by decide +kernel) (Nat.le_of_ble_eq_true rfl) ?_
  intro X hE hR hB
  subst hE
  have hB : fm_B _ X cX8_see 3 RX8 (some .int) := hB
  refine fr_lv [some (.ref (fm_rh X 0)), some (.int n), some (.int (fm_ib b))] ⟨rfl, rfl, rfl, trivial⟩ ?_
  have cut : ∀ a : Nat, n = nI a → ¬ n = -1 → fm_lt n (2 ^ Z.1 0 0) = true → fm_W shC X 3 50 [some (.ref (fm_rh X 0)), some (.int n), none] [.int (nI (fm_bn b)), .int (nI a), .ref (fm_rh X 13)] M (fm_Q shC X (fun r M' => r = some (.int (sp_see Z.1 n b).1) ∧ fm_CR ((sp_see Z.1 n b).2, Z.2) M')) := by
    intro a ha hne hlt
    obtain ⟨a2, ha2, ha3⟩ := fm_lt_of (by omega) hlt
    have ec : n.toNatClampNeg = a2 := by rw [ha3]; exact nI_clamp (by omega)
    have ea : nI a = nI a2 := by rw [← ha, ← ha3]
    rw [ea]
    refine fr_callV hB _ _ dX8_see_50 lm_X8_275 rfl (ct_X4_add shC_Ro13 (by omega) hc.1.2.1 hr6) rfl rfl (Nat.le_of_ble_eq_true rfl) (fm_room hR (by decide) (by decide)) ?_
    rintro _ M9 ⟨rfl, hM9⟩
    rw [hM9]
    clear hM9 M9
    refine fr_ret1 ?_
    unfold sp_see
    rw [if_neg hne, if_pos hlt, ec]
    by_cases hp : Z.1 12 0 < 6
    · rw [if_pos hp, if_pos hp, if_pos hp]
      exact fr_ireturn hB dX8_see_53 (⟨rfl, hc.now hc.1.see (fun b hb => by simp [fm_u, show ¬ b = 13 by omega, show ¬ b = 14 by omega, show ¬ b = 15 by omega]) (fun _ _ => rfl)⟩)
    · rw [if_neg hp, if_neg hp, if_neg hp]
      exact fr_ireturn hB dX8_see_53 (⟨rfl, hc⟩)
  refine fr_iload_n hB dX8_see_0 rfl rfl ?_
  refine fr_iconst (v := -1) hB dX8_see_1 (by decide) ?_
  refine fr_icmp_ne (tgt := 16) hB dX8_see_2 (by decide) (fun h => ?_) (fun h => ?_)
  · refine fr_aload_n hB dX8_see_16 rfl rfl ?_
    refine fr_getR hB dX8_see_17 lf_X8_14 rfl rfl ?_
    refine fr_getR hB dX8_see_20 lf_X8_67 rfl rfl ?_
    refine fr_iload_n hB dX8_see_23 rfl rfl ?_
    refine fr_callV hB _ _ dX8_see_24 lm_X8_111 rfl (ct_X3_hasBits shC_Pl2 hc.1.pl.parts h6) rfl rfl (Nat.le_of_ble_eq_true rfl) (fm_room hR (by decide) (by decide)) ?_
    rintro _ M9 ⟨rfl, hM9⟩
    rw [hM9]
    clear hM9 M9
    refine fr_ret1 ?_
    refine fr_if_neB (tgt := 33) hB dX8_see_27 (by decide) (fun h2 => ?_) (fun h2 => ?_)
    · obtain ⟨a, ha, hn⟩ := fm_lt_of (by omega) h2
      refine fr_aload_n hB dX8_see_33 rfl rfl ?_
      refine fr_getR hB dX8_see_34 lf_X8_14 rfl rfl ?_
      refine fr_getR hB dX8_see_37 lf_X8_266 rfl rfl ?_
      refine fr_iload_n hB dX8_see_40 rfl rfl ?_
      refine fr_iload_n hB dX8_see_41 rfl rfl ?_
      refine fr_if_eqB (tgt := 49) hB dX8_see_42 (by decide) (fun hb => ?_) (fun hb => ?_)
      · refine fr_iconst (v := nI 0) hB dX8_see_49 (by decide) ?_
        refine fr_lv [some (.ref (fm_rh X 0)), some (.int n), none] ⟨rfl, rfl, trivial⟩ ?_
        have hcut := cut a hn h h2
        rw [hb, ← hn] at hcut
        rw [hb]
        exact hcut
      · refine fr_iconst (v := nI 1) hB dX8_see_45 (by decide) ?_
        refine fr_goto (tgt := 50) hB dX8_see_46 (by decide) ?_
        refine fr_lv [some (.ref (fm_rh X 0)), some (.int n), none] ⟨rfl, rfl, trivial⟩ ?_
        have hcut := cut a hn h h2
        rw [hb, ← hn] at hcut
        rw [hb]
        exact hcut
    · refine fr_bipush (v := -2) hB dX8_see_30 (by decide) ?_
      exact fr_ireturn hB dX8_see_32 (⟨by rw [sp_see, if_neg h, h2]; rfl, by rw [sp_see, if_neg h, h2]; exact hc⟩)
  · have h : n = -1 := Decidable.not_not.mp h
    refine fr_aload_n hB dX8_see_5 rfl rfl ?_
    refine fr_getR hB dX8_see_6 lf_X8_14 rfl rfl ?_
    refine fr_getR hB dX8_see_9 lf_X8_266 rfl rfl ?_
    refine fr_callV hB _ _ dX8_see_12 lm_X8_270 rfl (ct_X4_empty shC_Ro13) rfl rfl (Nat.le_of_ble_eq_true rfl) (fm_room hR (by decide) (by decide)) ?_
    rintro _ M9 ⟨rfl, hM9⟩
    rw [hM9]
    clear hM9 M9
    refine fr_ret1 ?_
    exact fr_ireturn hB dX8_see_15 (⟨by rw [sp_see, if_pos h], by rw [sp_see, if_pos h]; exact hc.now hc.1.see0 (fun b hb => by simp [fm_u, show ¬ b = 13 by omega]) (fun _ _ => rfl)⟩)
def sp_book (P : fm_P) (n : Int32) : Int32 × fm_P := if n = -1 then (nI 0, fm_u P 18 0 0) else if fm_lt n (2 ^ P 0 0) then (if P 18 0 < 8 then (nI (P 18 0 + 1), fm_u (fm_u P 19 (P 18 0) n.toNatClampNeg) 18 0 (P 18 0 + 1)) else (-4, P)) else (-2, P)
theorem cc_book {E : fm_E} {n : Int32} {Z : fm_Z} {M : fm_M} (hc : fm_CR Z M) (hw : fm_WZ Z) : fm_C shC E mX8_book 1 [.ref (E.2.1 0), .int n] M (fun r M' => r = some (.int (sp_book Z.1 n).1) ∧ fm_CR ((sp_book Z.1 n).2, Z.2) M') := by
  have h6 := hw.1.1.p6
  have h2c := fm_2c h6
  have hr8 := hw.1.2.2.2.1
  refine fm_C.of (by decide +kernel) (Nat.le_of_ble_eq_true rfl) ?_
  intro X hE hR hB
  subst hE
  have hB : fm_B _ X cX8_book 2 RX8 (some .int) := hB
  refine fr_lv [some (.ref (fm_rh X 0)), some (.int n)] ⟨rfl, rfl, trivial⟩ ?_
  refine fr_iload_n hB dX8_book_0 rfl rfl ?_
  refine fr_iconst (v := -1) hB dX8_book_1 (by decide) ?_
  refine fr_icmp_ne (tgt := 16) hB dX8_book_2 (by decide) (fun h => ?_) (fun h => ?_)
  · refine fr_aload_n hB dX8_book_16 rfl rfl ?_
    refine fr_getR hB dX8_book_17 lf_X8_14 rfl rfl ?_
    refine fr_getR hB dX8_book_20 lf_X8_67 rfl rfl ?_
    refine fr_iload_n hB dX8_book_23 rfl rfl ?_
    refine fr_callV hB _ _ dX8_book_24 lm_X8_111 rfl (ct_X3_hasBits shC_Pl2 hc.1.pl.parts h6) rfl rfl (Nat.le_of_ble_eq_true rfl) (fm_room hR (by decide) (by decide)) ?_
    rintro _ M9 ⟨rfl, hM9⟩
    rw [hM9]
    clear hM9 M9
    refine fr_ret1 ?_
    refine fr_if_neB (tgt := 33) hB dX8_book_27 (by decide) (fun h2 => ?_) (fun h2 => ?_)
    · obtain ⟨a, ha, rfl⟩ := fm_lt_of (by omega) h2
      refine fr_aload_n hB dX8_book_33 rfl rfl ?_
      refine fr_getR hB dX8_book_34 lf_X8_14 rfl rfl ?_
      refine fr_getR hB dX8_book_37 lf_X8_295 rfl rfl ?_
      refine fr_iload_n hB dX8_book_40 rfl rfl ?_
      refine fr_iconst (v := nI 0) hB dX8_book_41 (by decide) ?_
      refine fr_callV hB _ _ dX8_book_42 lm_X8_275 rfl (ct_X4_add shC_Ro19 (by omega) hc.1.2.2.2.2.2.2.2.1 hr8) rfl rfl (Nat.le_of_ble_eq_true rfl) (fm_room hR (by decide) (by decide)) ?_
      rintro _ M9 ⟨rfl, hM9⟩
      rw [hM9]
      clear hM9 M9
      refine fr_ret1 ?_
      unfold sp_book
      rw [if_neg h, if_pos h2, nI_clamp (show a < 2 ^ 31 by omega)]
      by_cases hp : Z.1 18 0 < 8
      · rw [if_pos hp, if_pos hp, if_pos hp]
        exact fr_ireturn hB dX8_book_45 (⟨rfl, hc.now hc.1.book (fun b hb => by simp [fm_u, show ¬ b = 19 by omega, show ¬ b = 20 by omega, show ¬ b = 21 by omega]) (fun _ _ => rfl)⟩)
      · rw [if_neg hp, if_neg hp, if_neg hp]
        exact fr_ireturn hB dX8_book_45 (⟨rfl, hc⟩)
    · refine fr_bipush (v := -2) hB dX8_book_30 (by decide) ?_
      exact fr_ireturn hB dX8_book_32 (⟨by rw [sp_book, if_neg h, h2]; rfl, by rw [sp_book, if_neg h, h2]; exact hc⟩)
  · have h : n = -1 := Decidable.not_not.mp h
    refine fr_aload_n hB dX8_book_5 rfl rfl ?_
    refine fr_getR hB dX8_book_6 lf_X8_14 rfl rfl ?_
    refine fr_getR hB dX8_book_9 lf_X8_295 rfl rfl ?_
    refine fr_callV hB _ _ dX8_book_12 lm_X8_270 rfl (ct_X4_empty shC_Ro19) rfl rfl (Nat.le_of_ble_eq_true rfl) (fm_room hR (by decide) (by decide)) ?_
    rintro _ M9 ⟨rfl, hM9⟩
    rw [hM9]
    clear hM9 M9
    refine fr_ret1 ?_
    exact fr_ireturn hB dX8_book_15 (⟨by rw [sp_book, if_pos h], by rw [sp_book, if_pos h]; exact hc.now hc.1.book0 (fun b hb => by simp [fm_u, show ¬ b = 19 by omega]) (fun _ _ => rfl)⟩)
