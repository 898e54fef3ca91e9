/-! ===== the reference: tapes ===== -/
theorem fm_lNlt {a b : Nat} (ha : a < 2 ^ 63) (hb : b < 2 ^ 63) : lN a < lN b ↔ a < b := by
  rw [Int64.lt_iff_toInt_lt, lN, lN, lg_ofNat_toInt ha, lg_ofNat_toInt hb]
  omega
theorem fm_MR.tp {Z : fm_Z} {M M' : fm_M} (h : fm_MR Z M) (e0 : M'.1 0 = M.1 0) (e : ∀ a, a < 22 → M'.1 a = M.1 a) {so le : Nat → Nat} {it : Nat → Nat → Int64} (hk : fm_MK so le it M') : fm_MR (Z.1, Z.2.1, Z.2.2.1, Z.2.2.2.1, so, le, it) M' := ⟨h.1.kept (fun a h1 h2 => e a (by omega)) (fun j hj => by rw [e0]), h.2.1.mf (by rw [e0]) (e 21 (by omega)), h.2.2.1.mf (by rw [e0]) (e 13 (by omega)), hk⟩
theorem ct_X9_bits {sh : List fm_S} {E : fm_E} {so : Nat} {v : Int64} {M : fm_M} (h4 : so ≤ 4) : fm_C sh E mX9_bits 0 [.int (nI so), .long v] M (fun r M' => r = some (.long (fm_as so v)) ∧ M' = M) := by
  refine fm_C.of (by decide +kernel) (Nat.le_of_ble_eq_true rfl) ?_
  intro X hE hR hB
  subst hE
  have hB : fm_B _ X cX9_bits 3 RX9 (some .long) := hB
  refine fr_lv [some (.int (nI so)), some (.long v), none] ⟨rfl, rfl, trivial⟩ ?_
  refine fr_iload_n hB dX9_bits_0 rfl rfl ?_
  rcases (show so = 0 ∨ so = 1 ∨ so = 2 ∨ so = 3 ∨ so = 4 by omega) with rfl | rfl | rfl | rfl | rfl
  · refine fr_tableIn (tgt := 32) hB dX9_bits_1 (by decide) (by decide) (by rfl) (by decide) ?_
    refine fr_lload_n hB dX9_bits_32 rfl rfl ?_
    refine fr_l2i (v := _) hB dX9_bits_33 (rfl) ?_
    refine fr_i2b (v := _) hB dX9_bits_34 (rfl) ?_
    refine fr_i2l (v := _) hB dX9_bits_35 (rfl) ?_
    exact fr_lreturn hB dX9_bits_36 (⟨rfl, rfl⟩)
  · refine fr_tableIn (tgt := 37) hB dX9_bits_1 (by decide) (by decide) (by rfl) (by decide) ?_
    refine fr_lload_n hB dX9_bits_37 rfl rfl ?_
    refine fr_l2i (v := _) hB dX9_bits_38 (rfl) ?_
    refine fr_i2s (v := _) hB dX9_bits_39 (rfl) ?_
    refine fr_i2l (v := _) hB dX9_bits_40 (rfl) ?_
    exact fr_lreturn hB dX9_bits_41 (⟨rfl, rfl⟩)
  · refine fr_tableIn (tgt := 42) hB dX9_bits_1 (by decide) (by decide) (by rfl) (by decide) ?_
    refine fr_lload_n hB dX9_bits_42 rfl rfl ?_
    refine fr_l2i (v := _) hB dX9_bits_43 (rfl) ?_
    refine fr_i2l (v := _) hB dX9_bits_44 (rfl) ?_
    exact fr_lreturn hB dX9_bits_45 (⟨rfl, rfl⟩)
  · refine fr_tableIn (tgt := 46) hB dX9_bits_1 (by decide) (by decide) (by rfl) (by decide) ?_
    refine fr_lload_n hB dX9_bits_46 rfl rfl ?_
    exact fr_lreturn hB dX9_bits_47 (⟨rfl, rfl⟩)
  · refine fr_tableOut (tgt := 48) hB dX9_bits_1 (by decide) (by decide) ?_
    refine fr_lload_n hB dX9_bits_48 rfl rfl ?_
    refine fr_lconst (v := 0) hB dX9_bits_49 (by decide) ?_
    refine fr_lcmp hB dX9_bits_50 ?_
    refine fr_if_eq (tgt := 58) hB dX9_bits_51 (by decide) (fun h => ?_) (fun h => ?_)
    · refine fr_lconst (v := 0) hB dX9_bits_58 (by decide) ?_
      exact fr_lreturn hB dX9_bits_59 (⟨by rw [show fm_as 4 v = 0 by simp [fm_as, (lg_cmp_eq v 0).mp h]], rfl⟩)
    · refine fr_lconst (v := 1) hB dX9_bits_54 (by decide) ?_
      refine fr_goto (tgt := 59) hB dX9_bits_55 (by decide) ?_
      have h2 : ¬ v = 0 := fun q => h ((lg_cmp_eq v 0).mpr q)
      exact fr_lreturn hB dX9_bits_59 (⟨by rw [show fm_as 4 v = 1 by simp [fm_as, h2]], rfl⟩)
theorem fm_wn_m1 {v : Int32} : fm_wn v (-1) (nI 4) = (decide (v = -1) || fm_lt v 5) := by
  have e : nI 4 = nI 5 - nI 1 := by decide
  by_cases h : v = -1
  · subst h; decide
  · rw [decide_eq_false h, Bool.false_or, ← fm_wn_le (show 4 + 1 < 2 ^ 31 by omega)]
    unfold fm_wn
    have k : v < -1 ↔ v < nI 0 := by
      rw [Int32.lt_iff_toInt_lt, Int32.lt_iff_toInt_lt]
      have h1 : (-1 : Int32).toInt = -1 := by decide
      have h2 : (nI 0).toInt = 0 := by decide
      have h3 : v.toInt ≠ -1 := fun q => h (Int32.toInt_inj.mp (by rw [q, h1]))
      rw [h1, h2]
      omega
    by_cases q : v < -1
    · rw [decide_eq_true q, decide_eq_true (k.mp q)]
    · rw [decide_eq_false q, decide_eq_false (fun z => q (k.mpr z))]
theorem mm_tape {E : fm_E} {t s n : Int32} {Z : fm_Z} {M : fm_M} (hm : fm_MR Z M) (hw : fm_WZ Z) : fm_C shM E mX9_tape 2 [.ref (E.2.1 0), .int t, .int s, .int n] M (fun r M' => r = some (.int (sp_tape Z t s n).1) ∧ fm_MR (sp_tape Z t s n).2 M') := by
  refine fm_C.of (by decide +kernel) (Nat.le_of_ble_eq_true rfl) ?_
  intro X hE hR hB
  subst hE
  have hB : fm_B _ X cX9_tape 5 RX9 (some .int) := hB
  refine fr_lv [some (.ref (fm_rh X 0)), some (.int t), some (.int s), some (.int n), none] ⟨rfl, rfl, rfl, rfl, trivial⟩ ?_
  refine fr_iload_n hB dX9_tape_0 rfl rfl ?_
  refine fr_callS hB _ _ dX9_tape_1 lm_X9_284 (ct_X9_isTape) rfl rfl (Nat.le_of_ble_eq_true rfl) (fm_room hR (by decide) (by decide)) ?_
  rintro _ M9 ⟨rfl, hM9⟩
  rw [hM9]
  clear hM9 M9
  refine fr_ret1 ?_
  refine fr_if_neB (tgt := 9) hB dX9_tape_4 (by decide) (fun ht => ?_) (fun ht => ?_)
  · obtain ⟨a, ha, rfl⟩ := fm_lt_of (by omega) ht
    have ea : (nI a).toNatClampNeg = a := nI_clamp (by omega)
    have fin : ∀ (so le : Nat) (M1 : fm_M), M1.2 = M.2 → M1.1 0 = M.1 0 → (∀ q, q < 22 → M1.1 q = M.1 q) → M1.1 22 = (fun j => if j = a then nI so - 1 else M.1 22 j) → M1.1 23 = (fun j => if j = a then nI le else M.1 23 j) → fm_W shM X 5 64 [some (.ref (fm_rh X 0)), some (.int (nI a)), some (.int s), some (.int n), none] [] M1 (fm_Q shM X (fun r M' => r = some (.int (nI 1)) ∧ fm_MR (Z.1, Z.2.1, Z.2.2.1, Z.2.2.2.1, fm_up Z.2.2.2.2.1 a so, fm_up Z.2.2.2.2.2.1 a le, fm_up Z.2.2.2.2.2.2 a (fun _ => 0)) M')) := by
      intro so le M1 e2 e0 e1 es el
      have l1 : ∀ (d i : Nat), i + d = 60 → fm_W shM X 5 67 [some (.ref (fm_rh X 0)), some (.int (nI a)), some (.int s), some (.int n), some (.int (nI i))] [] (M1.1, fm_row M1.2 24 (fun x => if 60 * a ≤ x ∧ x < 60 * a + i then 0 else M.2 24 x)) (fm_Q shM X (fun r M' => r = some (.int (nI 1)) ∧ fm_MR (Z.1, Z.2.1, Z.2.2.1, Z.2.2.2.1, fm_up Z.2.2.2.2.1 a so, fm_up Z.2.2.2.2.2.1 a le, fm_up Z.2.2.2.2.2.2 a (fun _ => 0)) M')) := by
        intro d
        induction d with
        | zero =>
          intro i hi
          refine fr_iload hB dX9_tape_67 rfl ?_
          refine fr_bipush (v := nI 60) hB dX9_tape_69 (by decide) ?_
          refine fr_icmp_geN (tgt := 93) hB dX9_tape_71 (by decide) (by omega) (by omega) (fun h => ?_) (fun h => ?_)
          · refine fr_iconst (v := nI 1) hB dX9_tape_93 (by decide) ?_
            have hi : i = 60 := by omega
            subst hi
            refine fr_ireturn hB dX9_tape_94 ⟨rfl, fm_MR.tp hm ?_ ?_ ?_⟩
            · exact e0
            · exact e1
            intro j hj
            obtain ⟨q1, q2, q3⟩ := hm.2.2.2 j hj
            refine ⟨?_, ?_, fun p hp => ?_⟩
            · show M1.1 22 j = nI (fm_up Z.2.2.2.2.1 a so j) - 1
              rw [es]
              by_cases e : j = a
              · simp [fm_up, e]
              · simp [fm_up, e, q1]
            · show M1.1 23 j = nI (fm_up Z.2.2.2.2.2.1 a le j)
              rw [el]
              by_cases e : j = a
              · simp [fm_up, e]
              · simp [fm_up, e, q2]
            · show (if 60 * a ≤ 60 * j + p ∧ 60 * j + p < 60 * a + 60 then 0 else M.2 24 (60 * j + p)) = fm_up Z.2.2.2.2.2.2 a (fun _ => 0) j p
              rw [fm_up_at]
              by_cases e : j = a
              · rw [if_pos e, if_pos (by omega)]
              · rw [if_neg e, if_neg (by omega)]
                exact q3 p hp
          · exact absurd h (by omega)
        | succ d ih =>
          intro i hi
          refine fr_iload hB dX9_tape_67 rfl ?_
          refine fr_bipush (v := nI 60) hB dX9_tape_69 (by decide) ?_
          refine fr_icmp_geN (tgt := 93) hB dX9_tape_71 (by decide) (by omega) (by omega) (fun h => ?_) (fun h => ?_)
          · exact absurd h (by omega)
          · refine fr_aload_n hB dX9_tape_74 rfl rfl ?_
            refine fr_getR hB dX9_tape_75 lf_X9_87 rfl rfl ?_
            refine fr_bipush (v := nI 60) hB dX9_tape_78 (by decide) ?_
            refine fr_iload_n hB dX9_tape_80 rfl rfl ?_
            refine fr_imulN hB dX9_tape_81 ?_
            refine fr_iload hB dX9_tape_82 rfl ?_
            refine fr_iaddN hB dX9_tape_84 ?_
            refine fr_lconst (v := 0) hB dX9_tape_85 (by decide) ?_
            refine fr_last hB (_) dX9_tape_86 rfl (rfl) (by omega) (by decide) ?_
            refine fr_iincN (b := 1) hB dX9_tape_87 rfl (by decide) (by decide) rfl ?_
            refine fr_goto (tgt := 67) hB dX9_tape_90 (by decide) ?_
            refine fr_mem _ (fm_pl_row (fun j => ?_)) (ih (i + 1) (by omega))
            by_cases e : j = 60 * a + i
            · rw [if_pos e, if_pos (by omega)]
            · rw [if_neg e]
              by_cases e2 : 60 * a ≤ j ∧ j < 60 * a + i
              · rw [if_pos e2, if_pos (by omega)]
              · rw [if_neg e2, if_neg (by omega)]
      refine fr_iconst (v := nI 0) hB dX9_tape_64 (by decide) ?_
      refine fr_istore hB dX9_tape_65 (by decide) rfl ?_
      refine fr_mem (M1.1, fm_row M1.2 24 (fun x => if 60 * a ≤ x ∧ x < 60 * a + 0 then 0 else M.2 24 x)) ?_ (l1 60 0 (by omega))
      have e : (fun x => if 60 * a ≤ x ∧ x < 60 * a + 0 then 0 else M.2 24 x) = M1.2 24 := by
        funext x
        rw [if_neg (by omega), e2]
      rw [e, fm_row_self]
    refine fr_iload_n hB dX9_tape_9 rfl rfl ?_
    refine fr_iconst (v := -1) hB dX9_tape_10 (by decide) ?_
    refine fr_iconst (v := nI 4) hB dX9_tape_11 (by decide) ?_
    refine fr_callS hB _ _ dX9_tape_12 lm_X9_93 (ct_X9_within) rfl rfl (Nat.le_of_ble_eq_true rfl) (fm_room hR (by decide) (by decide)) ?_
    rintro _ M9 ⟨rfl, hM9⟩
    rw [hM9]
    clear hM9 M9
    refine fr_ret1 ?_
    rw [fm_wn_m1]
    refine fr_if_eqB (tgt := 28) hB dX9_tape_15 (by decide) (fun h1 => ?_) (fun h1 => ?_)
    · have h1' : ¬ s = -1 ∧ fm_lt s 5 = false := by simpa using h1
      have e : sp_tape Z (nI a) s n = (-2, Z) := by rw [sp_tape, if_pos ht, if_neg h1'.1, if_neg (fun q => by rw [h1'.2] at q; cases q.1)]
      refine fr_bipush (v := -2) hB dX9_tape_28 (by decide) ?_
      exact fr_ireturn hB dX9_tape_30 (⟨by rw [e], by rw [e]; exact hm⟩)
    · by_cases hs : s = -1
      · have e : sp_tape Z (nI a) s n = (nI 1, (Z.1, Z.2.1, Z.2.2.1, Z.2.2.2.1, fm_up Z.2.2.2.2.1 a 0, fm_up Z.2.2.2.2.2.1 a 0, fm_up Z.2.2.2.2.2.2 a (fun _ => 0))) := by rw [sp_tape, if_pos ht, if_pos hs, ea]
        rw [e]
        refine fr_iload_n hB dX9_tape_18 rfl rfl ?_
        refine fr_if_lt (tgt := 31) hB dX9_tape_19 (by decide) (fun h2 => ?_) (fun h2 => ?_)
        · refine fr_iload_n hB dX9_tape_31 rfl rfl ?_
          refine fr_if_lt (tgt := 42) hB dX9_tape_32 (by decide) (fun h3 => ?_) (fun h3 => ?_)
          · refine fr_aload_n hB dX9_tape_42 rfl rfl ?_
            refine fr_getR hB dX9_tape_43 lf_X9_81 rfl rfl ?_
            refine fr_iload_n hB dX9_tape_46 rfl rfl ?_
            refine fr_iload_n hB dX9_tape_47 rfl rfl ?_
            refine fr_iast hB (_) dX9_tape_48 rfl (rfl) (by omega) (by decide) ?_
            refine fr_aload_n hB dX9_tape_49 rfl rfl ?_
            refine fr_getR hB dX9_tape_50 lf_X9_84 rfl rfl ?_
            refine fr_iload_n hB dX9_tape_53 rfl rfl ?_
            refine fr_iload_n hB dX9_tape_54 rfl rfl ?_
            refine fr_if_ge (tgt := 62) hB dX9_tape_55 (by decide) (fun h4 => ?_) (fun h4 => ?_)
            · exact absurd h2 (Int32.not_lt.mpr h4)
            · refine fr_iconst (v := nI 0) hB dX9_tape_58 (by decide) ?_
              refine fr_goto (tgt := 63) hB dX9_tape_59 (by decide) ?_
              refine fr_iast hB (_) dX9_tape_63 rfl (rfl) (by omega) (by decide) ?_
              refine fin 0 0 _ rfl rfl (fun q hq => by simp [fm_u, show ¬ q = 22 by omega, show ¬ q = 23 by omega]) ?_ ?_
              · funext j; simp [fm_u, hs, show nI 0 - 1 = (-1 : Int32) by decide]
              · funext j; simp [fm_u]
          · exact absurd h2 h3
        · exact absurd (by rw [hs]; decide) h2
      · have h5 : fm_lt s 5 = true := by simpa [hs] using h1
        obtain ⟨b, hb, rfl⟩ := fm_lt_of (by omega) h5
        have eb : (nI b).toNatClampNeg = b := nI_clamp (by omega)
        refine fr_iload_n hB dX9_tape_18 rfl rfl ?_
        refine fr_if_ltN (tgt := 31) hB dX9_tape_19 (by decide) (by omega) ?_
        refine fr_iload_n hB dX9_tape_22 rfl rfl ?_
        refine fr_bipush (v := nI 60) hB dX9_tape_23 (by decide) ?_
        refine fr_icmp_le (tgt := 31) hB dX9_tape_25 (by decide) (fun h3 => ?_) (fun h3 => ?_)
        · refine fr_iload_n hB dX9_tape_31 rfl rfl ?_
          refine fr_if_ltN (tgt := 42) hB dX9_tape_32 (by decide) (by omega) ?_
          refine fr_iload_n hB dX9_tape_35 rfl rfl ?_
          refine fr_if_ge (tgt := 42) hB dX9_tape_36 (by decide) (fun h6 => ?_) (fun h6 => ?_)
          · obtain ⟨c, hc, rfl⟩ := nI_of (Int32.not_lt.mpr h6)
            have ec : (nI c).toNatClampNeg = c := nI_clamp (by omega)
            have e : sp_tape Z (nI a) (nI b) (nI c) = (nI 1, (Z.1, Z.2.1, Z.2.2.1, Z.2.2.2.1, fm_up Z.2.2.2.2.1 a (b + 1), fm_up Z.2.2.2.2.2.1 a c, fm_up Z.2.2.2.2.2.2 a (fun _ => 0))) := by rw [sp_tape, if_pos ht, if_neg hs, if_pos ⟨h5, h3⟩, if_neg (Int32.not_lt.mpr h6), ea, eb, ec]
            rw [e]
            refine fr_aload_n hB dX9_tape_42 rfl rfl ?_
            refine fr_getR hB dX9_tape_43 lf_X9_81 rfl rfl ?_
            refine fr_iload_n hB dX9_tape_46 rfl rfl ?_
            refine fr_iload_n hB dX9_tape_47 rfl rfl ?_
            refine fr_iast hB (_) dX9_tape_48 rfl (rfl) (by omega) (by decide) ?_
            refine fr_aload_n hB dX9_tape_49 rfl rfl ?_
            refine fr_getR hB dX9_tape_50 lf_X9_84 rfl rfl ?_
            refine fr_iload_n hB dX9_tape_53 rfl rfl ?_
            refine fr_iload_n hB dX9_tape_54 rfl rfl ?_
            refine fr_if_geN (tgt := 62) hB dX9_tape_55 (by decide) (by omega) ?_
            refine fr_iload_n hB dX9_tape_62 rfl rfl ?_
            refine fr_iast hB (_) dX9_tape_63 rfl (rfl) (by omega) (by decide) ?_
            refine fin (b + 1) c _ rfl rfl (fun q hq => by simp [fm_u, show ¬ q = 22 by omega, show ¬ q = 23 by omega]) ?_ ?_
            · funext j; rw [nI_p1]; simp [fm_u]
            · funext j; simp [fm_u]
          · have e : sp_tape Z (nI a) (nI b) n = (-14, Z) := by rw [sp_tape, if_pos ht, if_neg hs, if_pos ⟨h5, h3⟩, if_pos (Int32.not_le.mp h6)]
            refine fr_bipush (v := -14) hB dX9_tape_39 (by decide) ?_
            exact fr_ireturn hB dX9_tape_41 (⟨by rw [e], by rw [e]; exact hm⟩)
        · have e : sp_tape Z (nI a) (nI b) n = (-2, Z) := by rw [sp_tape, if_pos ht, if_neg hs, if_neg (fun q => h3 q.2)]
          refine fr_bipush (v := -2) hB dX9_tape_28 (by decide) ?_
          exact fr_ireturn hB dX9_tape_30 (⟨by rw [e], by rw [e]; exact hm⟩)
  · refine fr_iconst (v := -1) hB dX9_tape_7 (by decide) ?_
    exact fr_ireturn hB dX9_tape_8 (⟨by rw [sp_tape, ht]; rfl, by rw [sp_tape, ht]; exact hm⟩)
theorem mm_item {E : fm_E} {t i : Int32} {v : Int64} {Z : fm_Z} {M : fm_M} (hm : fm_MR Z M) (hw : fm_WZ Z) : fm_C shM E mX9_item 2 [.ref (E.2.1 0), .int t, .int i, .long v] M (fun r M' => r = some (.int (sp_item Z t i v).1) ∧ fm_MR (sp_item Z t i v).2 M') := by
  refine fm_C.of (by decide +kernel) (Nat.le_of_ble_eq_true rfl) ?_
  intro X hE hR hB
  subst hE
  have hB : fm_B _ X cX9_item 5 RX9 (some .int) := hB
  refine fr_lv [some (.ref (fm_rh X 0)), some (.int t), some (.int i), some (.long v), none] ⟨rfl, rfl, rfl, rfl, trivial⟩ ?_
  refine fr_iload_n hB dX9_item_0 rfl rfl ?_
  refine fr_callS hB _ _ dX9_item_1 lm_X9_284 (ct_X9_isTape) rfl rfl (Nat.le_of_ble_eq_true rfl) (fm_room hR (by decide) (by decide)) ?_
  rintro _ M9 ⟨rfl, hM9⟩
  rw [hM9]
  clear hM9 M9
  refine fr_ret1 ?_
  refine fr_if_neB (tgt := 9) hB dX9_item_4 (by decide) (fun ht => ?_) (fun ht => ?_)
  · obtain ⟨a, ha, rfl⟩ := fm_lt_of (by omega) ht
    have ea : (nI a).toNatClampNeg = a := nI_clamp (by omega)
    obtain ⟨k1, k2, k3⟩ := hm.2.2.2 a ha
    obtain ⟨w1, w2, w3⟩ := hw.2.2 a ha
    by_cases hs : Z.2.2.2.2.1 a = 0
    · have e : sp_item Z (nI a) i v = (-11, Z) := by rw [sp_item, if_pos ht, ea, if_pos hs]
      refine fr_aload_n hB dX9_item_9 rfl rfl ?_
      refine fr_getR hB dX9_item_10 lf_X9_81 rfl rfl ?_
      refine fr_iload_n hB dX9_item_13 rfl rfl ?_
      refine fr_iald hB (_) dX9_item_14 rfl (rfl) (by omega) (by decide) ?_
      rw [k1, hs]
      refine fr_if_ge (tgt := 21) hB dX9_item_15 (by decide) (fun h => ?_) (fun h => ?_)
      · exact absurd h (by decide)
      · refine fr_bipush (v := -11) hB dX9_item_18 (by decide) ?_
        exact fr_ireturn hB dX9_item_20 (⟨by rw [e], by rw [e]; exact hm⟩)
    · have k1 : M.1 22 a = nI (Z.2.2.2.2.1 a - 1) := by rw [k1]; exact (fm_sort _ w1).2 hs
      refine fr_aload_n hB dX9_item_9 rfl rfl ?_
      refine fr_getR hB dX9_item_10 lf_X9_81 rfl rfl ?_
      refine fr_iload_n hB dX9_item_13 rfl rfl ?_
      refine fr_iald hB (_) dX9_item_14 rfl (rfl) (by omega) (by decide) ?_
      refine fr_eqi _ (k1) ?_
      refine fr_if_geN (tgt := 21) hB dX9_item_15 (by decide) (by omega) ?_
      refine fr_iload_n hB dX9_item_21 rfl rfl ?_
      refine fr_iconst (v := nI 0) hB dX9_item_22 (by decide) ?_
      refine fr_aload_n hB dX9_item_23 rfl rfl ?_
      refine fr_getR hB dX9_item_24 lf_X9_84 rfl rfl ?_
      refine fr_iload_n hB dX9_item_27 rfl rfl ?_
      refine fr_iald hB (_) dX9_item_28 rfl (rfl) (by omega) (by decide) ?_
      refine fr_eqi _ (k2) ?_
      refine fr_iconst (v := nI 1) hB dX9_item_29 (by decide) ?_
      refine fr_isub hB dX9_item_30 ?_
      refine fr_callS hB _ _ dX9_item_31 lm_X9_93 (ct_X9_win (show Z.2.2.2.2.2.1 a < 2 ^ 31 by omega)) rfl rfl (Nat.le_of_ble_eq_true rfl) (fm_room hR (by decide) (by decide)) ?_
      rintro _ M9 ⟨rfl, hM9⟩
      rw [hM9]
      clear hM9 M9
      refine fr_ret1 ?_
      refine fr_if_neB (tgt := 40) hB dX9_item_34 (by decide) (fun h2 => ?_) (fun h2 => ?_)
      · obtain ⟨b, hb, rfl⟩ := fm_lt_of (by omega) h2
        have eb : (nI b).toNatClampNeg = b := nI_clamp (by omega)
        have e : sp_item Z (nI a) (nI b) v = (nI 1, (Z.1, Z.2.1, Z.2.2.1, Z.2.2.2.1, Z.2.2.2.2.1, Z.2.2.2.2.2.1, fm_u Z.2.2.2.2.2.2 a b (fm_as (Z.2.2.2.2.1 a - 1) v))) := by rw [sp_item, if_pos ht, ea, if_neg hs, if_pos h2, eb]
        refine fr_aload_n hB dX9_item_40 rfl rfl ?_
        refine fr_getR hB dX9_item_41 lf_X9_87 rfl rfl ?_
        refine fr_bipush (v := nI 60) hB dX9_item_44 (by decide) ?_
        refine fr_iload_n hB dX9_item_46 rfl rfl ?_
        refine fr_imulN hB dX9_item_47 ?_
        refine fr_iload_n hB dX9_item_48 rfl rfl ?_
        refine fr_iaddN hB dX9_item_49 ?_
        refine fr_aload_n hB dX9_item_50 rfl rfl ?_
        refine fr_getR hB dX9_item_51 lf_X9_81 rfl rfl ?_
        refine fr_iload_n hB dX9_item_54 rfl rfl ?_
        refine fr_iald hB (_) dX9_item_55 rfl (rfl) (by omega) (by decide) ?_
        refine fr_eqi _ (k1) ?_
        refine fr_lload_n hB dX9_item_56 rfl rfl ?_
        refine fr_callS hB _ _ dX9_item_57 lm_X9_291 (ct_X9_bits (show Z.2.2.2.2.1 a - 1 ≤ 4 by omega)) rfl rfl (Nat.le_of_ble_eq_true rfl) (fm_room hR (by decide) (by decide)) ?_
        rintro _ M9 ⟨rfl, hM9⟩
        rw [hM9]
        clear hM9 M9
        refine fr_ret1 ?_
        refine fr_last hB (_) dX9_item_60 rfl (rfl) (by omega) (by decide) ?_
        refine fr_iconst (v := nI 1) hB dX9_item_61 (by decide) ?_
        rw [e]
        refine fr_ireturn hB dX9_item_62 ⟨rfl, fm_MR.tp hm ?_ ?_ ?_⟩
        · rfl
        · intro _ _; rfl
        intro j hj
        obtain ⟨q1, q2, q3⟩ := hm.2.2.2 j hj
        refine ⟨q1, q2, fun p hp => ?_⟩
        show fm_u M.2 24 (60 * a + b) _ 24 (60 * j + p) = fm_u Z.2.2.2.2.2.2 a b _ j p
        rw [fm_u_at, fm_u_at]
        by_cases e1 : j = a ∧ p = b
        · rw [if_pos e1, if_pos (by omega)]
        · rw [if_neg e1, if_neg (by omega)]
          exact q3 p hp
      · have e : sp_item Z (nI a) i v = (-13, Z) := by rw [sp_item, if_pos ht, ea, if_neg hs, h2]; rfl
        refine fr_bipush (v := -13) hB dX9_item_37 (by decide) ?_
        exact fr_ireturn hB dX9_item_39 (⟨by rw [e], by rw [e]; exact hm⟩)
  · refine fr_iconst (v := -1) hB dX9_item_7 (by decide) ?_
    exact fr_ireturn hB dX9_item_8 (⟨by rw [sp_item, ht]; rfl, by rw [sp_item, ht]; exact hm⟩)
theorem mm_peek {E : fm_E} {t i : Int32} {Z : fm_Z} {M : fm_M} (hm : fm_MR Z M) (hw : fm_WZ Z) : fm_C shM E mX9_peek 2 [.ref (E.2.1 0), .int t, .int i] M (fun r M' => r = some (.long (sp_peek Z t i)) ∧ M' = M) := by
  refine fm_C.of (by decide +kernel) (Nat.le_of_ble_eq_true rfl) ?_
  intro X hE hR hB
  subst hE
  have hB : fm_B _ X cX9_peek 3 RX9 (some .long) := hB
  refine fr_lv [some (.ref (fm_rh X 0)), some (.int t), some (.int i)] ⟨rfl, rfl, rfl, trivial⟩ ?_
  refine fr_iload_n hB dX9_peek_0 rfl rfl ?_
  refine fr_callS hB _ _ dX9_peek_1 lm_X9_284 (ct_X9_isTape) rfl rfl (Nat.le_of_ble_eq_true rfl) (fm_room hR (by decide) (by decide)) ?_
  rintro _ M9 ⟨rfl, hM9⟩
  rw [hM9]
  clear hM9 M9
  refine fr_ret1 ?_
  refine fr_if_eqB (tgt := 46) hB dX9_peek_4 (by decide) (fun ht => ?_) (fun ht => ?_)
  · refine fr_ldc2 (v := -9223372036854775808) hB dX9_peek_46 lc_X9_241 ?_
    exact fr_lreturn hB dX9_peek_49 (⟨by rw [sp_peek, if_neg (fun q => by rw [ht] at q; cases q.1)], rfl⟩)
  · obtain ⟨a, ha, rfl⟩ := fm_lt_of (by omega) ht
    have ea : (nI a).toNatClampNeg = a := nI_clamp (by omega)
    obtain ⟨k1, k2, k3⟩ := hm.2.2.2 a ha
    obtain ⟨w1, w2, w3⟩ := hw.2.2 a ha
    by_cases hs : Z.2.2.2.2.1 a = 0
    · have e : sp_peek Z (nI a) i = -9223372036854775808 := by
        rw [sp_peek, ea, w3 hs, if_neg (fun q => by
          obtain ⟨x, hx, _⟩ := fm_lt_of (by omega) q.2
          omega)]
      refine fr_aload_n hB dX9_peek_7 rfl rfl ?_
      refine fr_getR hB dX9_peek_8 lf_X9_81 rfl rfl ?_
      refine fr_iload_n hB dX9_peek_11 rfl rfl ?_
      refine fr_iald hB (_) dX9_peek_12 rfl (rfl) (by omega) (by decide) ?_
      rw [k1, hs]
      refine fr_if_lt (tgt := 46) hB dX9_peek_13 (by decide) (fun h => ?_) (fun h => ?_)
      · refine fr_ldc2 (v := -9223372036854775808) hB dX9_peek_46 lc_X9_241 ?_
        exact fr_lreturn hB dX9_peek_49 (⟨by rw [e], rfl⟩)
      · exact absurd (by decide) h
    · have k1 : M.1 22 a = nI (Z.2.2.2.2.1 a - 1) := by rw [k1]; exact (fm_sort _ w1).2 hs
      refine fr_aload_n hB dX9_peek_7 rfl rfl ?_
      refine fr_getR hB dX9_peek_8 lf_X9_81 rfl rfl ?_
      refine fr_iload_n hB dX9_peek_11 rfl rfl ?_
      refine fr_iald hB (_) dX9_peek_12 rfl (rfl) (by omega) (by decide) ?_
      refine fr_eqi _ (k1) ?_
      refine fr_if_ltN (tgt := 46) hB dX9_peek_13 (by decide) (by omega) ?_
      refine fr_iload_n hB dX9_peek_16 rfl rfl ?_
      refine fr_iconst (v := nI 0) hB dX9_peek_17 (by decide) ?_
      refine fr_aload_n hB dX9_peek_18 rfl rfl ?_
      refine fr_getR hB dX9_peek_19 lf_X9_84 rfl rfl ?_
      refine fr_iload_n hB dX9_peek_22 rfl rfl ?_
      refine fr_iald hB (_) dX9_peek_23 rfl (rfl) (by omega) (by decide) ?_
      refine fr_eqi _ (k2) ?_
      refine fr_iconst (v := nI 1) hB dX9_peek_24 (by decide) ?_
      refine fr_isub hB dX9_peek_25 ?_
      refine fr_callS hB _ _ dX9_peek_26 lm_X9_93 (ct_X9_win (show Z.2.2.2.2.2.1 a < 2 ^ 31 by omega)) rfl rfl (Nat.le_of_ble_eq_true rfl) (fm_room hR (by decide) (by decide)) ?_
      rintro _ M9 ⟨rfl, hM9⟩
      rw [hM9]
      clear hM9 M9
      refine fr_ret1 ?_
      refine fr_if_eqB (tgt := 46) hB dX9_peek_29 (by decide) (fun h2 => ?_) (fun h2 => ?_)
      · refine fr_ldc2 (v := -9223372036854775808) hB dX9_peek_46 lc_X9_241 ?_
        exact fr_lreturn hB dX9_peek_49 (⟨by rw [sp_peek, ea, if_neg (fun q => by rw [h2] at q; cases q.2)], rfl⟩)
      · obtain ⟨b, hb, rfl⟩ := fm_lt_of (by omega) h2
        have eb : (nI b).toNatClampNeg = b := nI_clamp (by omega)
        refine fr_aload_n hB dX9_peek_32 rfl rfl ?_
        refine fr_getR hB dX9_peek_33 lf_X9_87 rfl rfl ?_
        refine fr_bipush (v := nI 60) hB dX9_peek_36 (by decide) ?_
        refine fr_iload_n hB dX9_peek_38 rfl rfl ?_
        refine fr_imulN hB dX9_peek_39 ?_
        refine fr_iload_n hB dX9_peek_40 rfl rfl ?_
        refine fr_iaddN hB dX9_peek_41 ?_
        refine fr_lald hB (_) dX9_peek_42 rfl (rfl) (by omega) (by decide) ?_
        refine fr_eql (Z.2.2.2.2.2.2 a b) (k3 b (by omega)) ?_
        refine fr_goto (tgt := 49) hB dX9_peek_43 (by decide) ?_
        exact fr_lreturn hB dX9_peek_49 (⟨by rw [sp_peek, ea, if_pos ⟨ht, h2⟩, eb], rfl⟩)
/-- a row whose places m .. n-1 from b on hold what stood from a on -/
def fm_cp {α : Type} (g : Nat → α) (a b m n : Nat) : Nat → α := fun x => if b + m ≤ x ∧ x < b + n then g (a + (x - b)) else g x
theorem mm_shift {E : fm_E} {t i u j n : Int32} {Z : fm_Z} {M : fm_M} (hm : fm_MR Z M) (hw : fm_WZ Z) : fm_C shM E mX9_shift 2 [.ref (E.2.1 0), .int t, .int i, .int u, .int j, .int n] M (fun r M' => r = some (.int (sp_shift Z t i u j n).1) ∧ fm_MR (sp_shift Z t i u j n).2 M') := by
  refine fm_C.of (by decide +kernel) (Nat.le_of_ble_eq_true rfl) ?_
  intro X hE hR hB
  subst hE
  have hB : fm_B _ X cX9_shift 7 RX9 (some .int) := hB
  refine fr_lv [some (.ref (fm_rh X 0)), some (.int t), some (.int i), some (.int u), some (.int j), some (.int n), none] ⟨rfl, rfl, rfl, rfl, rfl, rfl, trivial⟩ ?_
  refine fr_iload_n hB dX9_shift_0 rfl rfl ?_
  refine fr_callS hB _ _ dX9_shift_1 lm_X9_284 (ct_X9_isTape) rfl rfl (Nat.le_of_ble_eq_true rfl) (fm_room hR (by decide) (by decide)) ?_
  rintro _ M9 ⟨rfl, hM9⟩
  rw [hM9]
  clear hM9 M9
  refine fr_ret1 ?_
  refine fr_if_eqB (tgt := 14) hB dX9_shift_4 (by decide) (fun ht => ?_) (fun ht => ?_)
  · have e : sp_shift Z t i u j n = (-1, Z) := by rw [sp_shift, if_neg (fun q => by rw [ht] at q; cases q.1)]
    refine fr_iconst (v := -1) hB dX9_shift_14 (by decide) ?_
    exact fr_ireturn hB dX9_shift_15 (⟨by rw [e], by rw [e]; exact hm⟩)
  · refine fr_iload_n hB dX9_shift_7 rfl rfl ?_
    refine fr_callS hB _ _ dX9_shift_8 lm_X9_284 (ct_X9_isTape) rfl rfl (Nat.le_of_ble_eq_true rfl) (fm_room hR (by decide) (by decide)) ?_
    rintro _ M9 ⟨rfl, hM9⟩
    rw [hM9]
    clear hM9 M9
    refine fr_ret1 ?_
    refine fr_if_neB (tgt := 16) hB dX9_shift_11 (by decide) (fun hu => ?_) (fun hu => ?_)
    · obtain ⟨a, ha, rfl⟩ := fm_lt_of (by omega) ht
      have ea : (nI a).toNatClampNeg = a := nI_clamp (by omega)
      obtain ⟨k1, k2, k3⟩ := hm.2.2.2 a ha
      obtain ⟨w1, w2, w3⟩ := hw.2.2 a ha
      obtain ⟨b, hb, rfl⟩ := fm_lt_of (by omega) hu
      have eb : (nI b).toNatClampNeg = b := nI_clamp (by omega)
      obtain ⟨m1, m2, m3⟩ := hm.2.2.2 b hb
      obtain ⟨v1, v2, v3⟩ := hw.2.2 b hb
      by_cases hs : Z.2.2.2.2.1 a = 0
      · have e : sp_shift Z (nI a) i (nI b) j n = (-11, Z) := by rw [sp_shift, if_pos ⟨ht, hu⟩, ea, eb, if_pos (Or.inl hs)]
        refine fr_aload_n hB dX9_shift_16 rfl rfl ?_
        refine fr_getR hB dX9_shift_17 lf_X9_81 rfl rfl ?_
        refine fr_iload_n hB dX9_shift_20 rfl rfl ?_
        refine fr_iald hB (_) dX9_shift_21 rfl (rfl) (by omega) (by decide) ?_
        rw [k1, hs]
        refine fr_if_lt (tgt := 34) hB dX9_shift_22 (by decide) (fun h => ?_) (fun h => ?_)
        · refine fr_bipush (v := -11) hB dX9_shift_34 (by decide) ?_
          exact fr_ireturn hB dX9_shift_36 (⟨by rw [e], by rw [e]; exact hm⟩)
        · exact absurd (by decide) h
      · have k1 : M.1 22 a = nI (Z.2.2.2.2.1 a - 1) := by rw [k1]; exact (fm_sort _ w1).2 hs
        refine fr_aload_n hB dX9_shift_16 rfl rfl ?_
        refine fr_getR hB dX9_shift_17 lf_X9_81 rfl rfl ?_
        refine fr_iload_n hB dX9_shift_20 rfl rfl ?_
        refine fr_iald hB (_) dX9_shift_21 rfl (rfl) (by omega) (by decide) ?_
        refine fr_eqi _ (k1) ?_
        refine fr_if_ltN (tgt := 34) hB dX9_shift_22 (by decide) (by omega) ?_
        by_cases hs2 : Z.2.2.2.2.1 b = 0
        · have e : sp_shift Z (nI a) i (nI b) j n = (-11, Z) := by rw [sp_shift, if_pos ⟨ht, hu⟩, ea, eb, if_pos (Or.inr hs2)]
          refine fr_aload_n hB dX9_shift_25 rfl rfl ?_
          refine fr_getR hB dX9_shift_26 lf_X9_81 rfl rfl ?_
          refine fr_iload_n hB dX9_shift_29 rfl rfl ?_
          refine fr_iald hB (_) dX9_shift_30 rfl (rfl) (by omega) (by decide) ?_
          rw [m1, hs2]
          refine fr_if_ge (tgt := 37) hB dX9_shift_31 (by decide) (fun h => ?_) (fun h => ?_)
          · exact absurd h (by decide)
          · refine fr_bipush (v := -11) hB dX9_shift_34 (by decide) ?_
            exact fr_ireturn hB dX9_shift_36 (⟨by rw [e], by rw [e]; exact hm⟩)
        · have m1 : M.1 22 b = nI (Z.2.2.2.2.1 b - 1) := by rw [m1]; exact (fm_sort _ v1).2 hs2
          have hor : ¬ (Z.2.2.2.2.1 a = 0 ∨ Z.2.2.2.2.1 b = 0) := fun q => q.elim hs hs2
          refine fr_aload_n hB dX9_shift_25 rfl rfl ?_
          refine fr_getR hB dX9_shift_26 lf_X9_81 rfl rfl ?_
          refine fr_iload_n hB dX9_shift_29 rfl rfl ?_
          refine fr_iald hB (_) dX9_shift_30 rfl (rfl) (by omega) (by decide) ?_
          refine fr_eqi _ (m1) ?_
          refine fr_if_geN (tgt := 37) hB dX9_shift_31 (by decide) (by omega) ?_
          refine fr_aload_n hB dX9_shift_37 rfl rfl ?_
          refine fr_getR hB dX9_shift_38 lf_X9_81 rfl rfl ?_
          refine fr_iload_n hB dX9_shift_41 rfl rfl ?_
          refine fr_iald hB (_) dX9_shift_42 rfl (rfl) (by omega) (by decide) ?_
          refine fr_eqi _ (k1) ?_
          refine fr_aload_n hB dX9_shift_43 rfl rfl ?_
          refine fr_getR hB dX9_shift_44 lf_X9_81 rfl rfl ?_
          refine fr_iload_n hB dX9_shift_47 rfl rfl ?_
          refine fr_iald hB (_) dX9_shift_48 rfl (rfl) (by omega) (by decide) ?_
          refine fr_eqi _ (m1) ?_
          refine fr_icmp_eqN (tgt := 55) hB dX9_shift_49 (by decide) (by omega) (by omega) (fun h3 => ?_) (fun h3 => ?_)
          · have h3 : Z.2.2.2.2.1 a = Z.2.2.2.2.1 b := by omega
            have bad : ¬ (fm_run i n (Z.2.2.2.2.2.1 a) = true ∧ fm_run j n (Z.2.2.2.2.2.1 b) = true) → fm_W shM X 7 104 [some (.ref (fm_rh X 0)), some (.int (nI a)), some (.int i), some (.int (nI b)), some (.int j), some (.int n), none] [] M (fm_Q shM X (fun r M' => r = some (.int (sp_shift Z (nI a) i (nI b) j n).1) ∧ fm_MR (sp_shift Z (nI a) i (nI b) j n).2 M')) := by
              intro hq
              have e : sp_shift Z (nI a) i (nI b) j n = (-13, Z) := by rw [sp_shift, if_pos ⟨ht, hu⟩, ea, eb, if_neg hor, if_pos h3, if_neg hq]
              refine fr_bipush (v := -13) hB dX9_shift_104 (by decide) ?_
              exact fr_ireturn hB dX9_shift_106 (⟨by rw [e], by rw [e]; exact hm⟩)
            refine fr_iload hB dX9_shift_55 rfl ?_
            refine fr_if_lt (tgt := 104) hB dX9_shift_57 (by decide) (fun h4 => ?_) (fun h4 => ?_)
            · exact bad (fun q => by
                have := q.1
                simp only [fm_run, Bool.and_eq_true, decide_eq_true_eq] at this
                exact this.2.1 h4)
            · refine fr_iload_n hB dX9_shift_60 rfl rfl ?_
              refine fr_if_lt (tgt := 104) hB dX9_shift_61 (by decide) (fun h5 => ?_) (fun h5 => ?_)
              · exact bad (fun q => by
                  have := q.1
                  simp only [fm_run, Bool.and_eq_true, decide_eq_true_eq] at this
                  exact this.1 h5)
              · refine fr_iload hB dX9_shift_64 rfl ?_
                refine fr_if_lt (tgt := 104) hB dX9_shift_66 (by decide) (fun h6 => ?_) (fun h6 => ?_)
                · exact bad (fun q => by
                    have := q.2
                    simp only [fm_run, Bool.and_eq_true, decide_eq_true_eq] at this
                    exact this.1 h6)
                · obtain ⟨z, hz, rfl⟩ := nI_of h4
                  obtain ⟨x, hx, rfl⟩ := nI_of h5
                  obtain ⟨y, hy, rfl⟩ := nI_of h6
                  have er1 : fm_run (nI x) (nI z) (Z.2.2.2.2.2.1 a) = decide (x + z ≤ Z.2.2.2.2.2.1 a) := by
                    rw [fm_run, nI_clamp hx, nI_clamp hz, decide_eq_true h5, decide_eq_true h4]; simp
                  have er2 : fm_run (nI y) (nI z) (Z.2.2.2.2.2.1 b) = decide (y + z ≤ Z.2.2.2.2.2.1 b) := by
                    rw [fm_run, nI_clamp hy, nI_clamp hz, decide_eq_true h6, decide_eq_true h4]; simp
                  refine fr_iload_n hB dX9_shift_69 rfl rfl ?_
                  refine fr_i2l (v := lN x) hB dX9_shift_70 (nI_l hx) ?_
                  refine fr_iload hB dX9_shift_71 rfl ?_
                  refine fr_i2l (v := lN z) hB dX9_shift_73 (nI_l hz) ?_
                  refine fr_ladd hB dX9_shift_74 ?_
                  refine fr_eql (lN (x + z)) (lN_add x z) ?_
                  refine fr_aload_n hB dX9_shift_75 rfl rfl ?_
                  refine fr_getR hB dX9_shift_76 lf_X9_84 rfl rfl ?_
                  refine fr_iload_n hB dX9_shift_79 rfl rfl ?_
                  refine fr_iald hB (_) dX9_shift_80 rfl (rfl) (by omega) (by decide) ?_
                  refine fr_eqi _ (k2) ?_
                  refine fr_i2l (v := lN (Z.2.2.2.2.2.1 a)) hB dX9_shift_81 (nI_l (by omega)) ?_
                  refine fr_lcmp hB dX9_shift_82 ?_
                  refine fr_if_gt (tgt := 104) hB dX9_shift_83 (by decide) (fun h7 => ?_) (fun h7 => ?_)
                  · have h7 := (fm_lNlt (by omega) (by omega)).mp ((lg_cmp_gt _ _).mp h7)
                    exact bad (fun q => by rw [er1] at q; have := of_decide_eq_true q.1; omega)
                  · have h7 : ¬ Z.2.2.2.2.2.1 a < x + z := fun q => h7 ((lg_cmp_gt _ _).mpr ((fm_lNlt (by omega) (by omega)).mpr q))
                    refine fr_iload hB dX9_shift_86 rfl ?_
                    refine fr_i2l (v := lN y) hB dX9_shift_88 (nI_l hy) ?_
                    refine fr_iload hB dX9_shift_89 rfl ?_
                    refine fr_i2l (v := lN z) hB dX9_shift_91 (nI_l hz) ?_
                    refine fr_ladd hB dX9_shift_92 ?_
                    refine fr_eql (lN (y + z)) (lN_add y z) ?_
                    refine fr_aload_n hB dX9_shift_93 rfl rfl ?_
                    refine fr_getR hB dX9_shift_94 lf_X9_84 rfl rfl ?_
                    refine fr_iload_n hB dX9_shift_97 rfl rfl ?_
                    refine fr_iald hB (_) dX9_shift_98 rfl (rfl) (by omega) (by decide) ?_
                    refine fr_eqi _ (m2) ?_
                    refine fr_i2l (v := lN (Z.2.2.2.2.2.1 b)) hB dX9_shift_99 (nI_l (by omega)) ?_
                    refine fr_lcmp hB dX9_shift_100 ?_
                    refine fr_if_le (tgt := 107) hB dX9_shift_101 (by decide) (fun h8 => ?_) (fun h8 => ?_)
                    · have h8 : ¬ Z.2.2.2.2.2.1 b < y + z := fun q => absurd ((lg_cmp_gt _ _).mpr ((fm_lNlt (by omega) (by omega)).mpr q)) (Int32.not_lt.mpr h8)
                      have e : sp_shift Z (nI a) (nI x) (nI b) (nI y) (nI z) = (nI z, (Z.1, Z.2.1, Z.2.2.1, Z.2.2.2.1, Z.2.2.2.2.1, Z.2.2.2.2.2.1, fm_row Z.2.2.2.2.2.2 b (va_cpy (Z.2.2.2.2.2.2 a) (Z.2.2.2.2.2.2 b) x y z))) := by
                        rw [sp_shift, if_pos ⟨ht, hu⟩, ea, eb, if_neg hor, if_pos h3, er1, er2, if_pos ⟨decide_eq_true (by omega), decide_eq_true (by omega)⟩, nI_clamp hx, nI_clamp hy, nI_clamp hz]
                      rw [e]
                      have fin : fm_W shM X 7 212 [some (.ref (fm_rh X 0)), some (.int (nI a)), some (.int (nI x)), some (.int (nI b)), some (.int (nI y)), some (.int (nI z)), none] [] (M.1, fm_row M.2 24 (fm_cp (M.2 24) (60 * a + x) (60 * b + y) 0 z)) (fm_Q shM X (fun r M' => r = some (.int (nI z)) ∧ fm_MR (Z.1, Z.2.1, Z.2.2.1, Z.2.2.2.1, Z.2.2.2.2.1, Z.2.2.2.2.2.1, fm_row Z.2.2.2.2.2.2 b (va_cpy (Z.2.2.2.2.2.2 a) (Z.2.2.2.2.2.2 b) x y z)) M')) := by
                        refine fr_iload hB dX9_shift_212 rfl ?_
                        refine fr_ireturn hB dX9_shift_214 ⟨rfl, fm_MR.tp hm ?_ ?_ ?_⟩
                        · rfl
                        · intro _ _; rfl
                        intro q hq
                        obtain ⟨q1, q2, q3⟩ := hm.2.2.2 q hq
                        refine ⟨q1, q2, fun p hp => ?_⟩
                        show fm_row M.2 24 (fm_cp (M.2 24) (60 * a + x) (60 * b + y) 0 z) 24 (60 * q + p) = fm_row Z.2.2.2.2.2.2 b (va_cpy (Z.2.2.2.2.2.2 a) (Z.2.2.2.2.2.2 b) x y z) q p
                        rw [fm_row_same]
                        unfold fm_cp
                        by_cases eq : q = b
                        · subst eq
                          rw [fm_row_same]
                          unfold va_cpy
                          by_cases ec : y ≤ p ∧ p < y + z
                          · rw [if_pos ec, if_pos (by omega), show 60 * a + x + (60 * q + p - (60 * q + y)) = 60 * a + (x + (p - y)) by omega]
                            exact k3 _ (by omega)
                          · rw [if_neg ec, if_neg (by omega)]; exact m3 p hp
                        · rw [fm_row_ne _ _ eq, if_neg (by omega)]
                          exact q3 p hp
                      have up : ¬ (a = b ∧ x < y) → fm_W shM X 7 167 [some (.ref (fm_rh X 0)), some (.int (nI a)), some (.int (nI x)), some (.int (nI b)), some (.int (nI y)), some (.int (nI z)), none] [] M (fm_Q shM X (fun r M' => r = some (.int (nI z)) ∧ fm_MR (Z.1, Z.2.1, Z.2.2.1, Z.2.2.2.1, Z.2.2.2.2.1, Z.2.2.2.2.2.1, fm_row Z.2.2.2.2.2.2 b (va_cpy (Z.2.2.2.2.2.2 a) (Z.2.2.2.2.2.2 b) x y z)) M')) := by
                        intro hnx
                        have l1 : ∀ d k : Nat, k + d = z → fm_W shM X 7 170 [some (.ref (fm_rh X 0)), some (.int (nI a)), some (.int (nI x)), some (.int (nI b)), some (.int (nI y)), some (.int (nI z)), some (.int (nI k))] [] (M.1, fm_row M.2 24 (fm_cp (M.2 24) (60 * a + x) (60 * b + y) 0 k)) (fm_Q shM X (fun r M' => r = some (.int (nI z)) ∧ fm_MR (Z.1, Z.2.1, Z.2.2.1, Z.2.2.2.1, Z.2.2.2.2.1, Z.2.2.2.2.2.1, fm_row Z.2.2.2.2.2.2 b (va_cpy (Z.2.2.2.2.2.2 a) (Z.2.2.2.2.2.2 b) x y z)) M')) := by
                          intro d
                          induction d with
                          | zero =>
                            intro k hk
                            have hk : k = z := by omega
                            subst hk
                            refine fr_iload hB dX9_shift_170 rfl ?_
                            refine fr_iload hB dX9_shift_172 rfl ?_
                            refine fr_icmp_geN (tgt := 212) hB dX9_shift_174 (by decide) (by omega) (by omega) (fun h9 => ?_) (fun h9 => ?_)
                            · refine fr_lv [some (.ref (fm_rh X 0)), some (.int (nI a)), some (.int (nI x)), some (.int (nI b)), some (.int (nI y)), some (.int (nI k)), none] ⟨rfl, rfl, rfl, rfl, rfl, rfl, trivial⟩ ?_
                              exact fin
                            · exact absurd h9 (by omega)
                          | succ d ih =>
                            intro k hk
                            refine fr_iload hB dX9_shift_170 rfl ?_
                            refine fr_iload hB dX9_shift_172 rfl ?_
                            refine fr_icmp_geN (tgt := 212) hB dX9_shift_174 (by decide) (by omega) (by omega) (fun h9 => ?_) (fun h9 => ?_)
                            · exact absurd h9 (by omega)
                            · refine fr_aload_n hB dX9_shift_177 rfl rfl ?_
                              refine fr_getR hB dX9_shift_178 lf_X9_87 rfl rfl ?_
                              refine fr_bipush (v := nI 60) hB dX9_shift_181 (by decide) ?_
                              refine fr_iload_n hB dX9_shift_183 rfl rfl ?_
                              refine fr_imulN hB dX9_shift_184 ?_
                              refine fr_iload hB dX9_shift_185 rfl ?_
                              refine fr_iaddN hB dX9_shift_187 ?_
                              refine fr_iload hB dX9_shift_188 rfl ?_
                              refine fr_iaddN hB dX9_shift_190 ?_
                              refine fr_aload_n hB dX9_shift_191 rfl rfl ?_
                              refine fr_getR hB dX9_shift_192 lf_X9_87 rfl rfl ?_
                              refine fr_bipush (v := nI 60) hB dX9_shift_195 (by decide) ?_
                              refine fr_iload_n hB dX9_shift_197 rfl rfl ?_
                              refine fr_imulN hB dX9_shift_198 ?_
                              refine fr_iload_n hB dX9_shift_199 rfl rfl ?_
                              refine fr_iaddN hB dX9_shift_200 ?_
                              refine fr_iload hB dX9_shift_201 rfl ?_
                              refine fr_iaddN hB dX9_shift_203 ?_
                              refine fr_lald hB (_) dX9_shift_204 rfl (rfl) (by omega) (by decide) ?_
                              refine fr_eql (M.2 24 (60 * a + x + k)) (by show fm_row M.2 24 (fm_cp _ _ _ _ _) 24 _ = _; rw [fm_row_same, fm_cp, if_neg (by omega)]) ?_
                              refine fr_last hB (_) dX9_shift_205 rfl (rfl) (by omega) (by decide) ?_
                              refine fr_iincN (b := 1) hB dX9_shift_206 rfl (by decide) (by decide) rfl ?_
                              refine fr_goto (tgt := 170) hB dX9_shift_209 (by decide) ?_
                              refine fr_mem _ (fm_pl_row (fun q => ?_)) (ih (k + 1) (by omega))
                              unfold fm_cp
                              by_cases e1 : q = 60 * b + y + k
                              · rw [if_pos e1, if_pos (by omega), show 60 * a + x + (q - (60 * b + y)) = 60 * a + x + k by omega]
                              · rw [if_neg e1]
                                by_cases e2 : 60 * b + y + 0 ≤ q ∧ q < 60 * b + y + k
                                · rw [if_pos e2, if_pos (by omega)]
                                · rw [if_neg e2, if_neg (by omega)]
                        refine fr_iconst (v := nI 0) hB dX9_shift_167 (by decide) ?_
                        refine fr_istore hB dX9_shift_168 (by decide) rfl ?_
                        refine fr_mem (M.1, fm_row M.2 24 (fm_cp (M.2 24) (60 * a + x) (60 * b + y) 0 0)) ?_ (l1 z 0 (by omega))
                        have e : fm_cp (M.2 24) (60 * a + x) (60 * b + y) 0 0 = M.2 24 := by
                          funext q
                          rw [fm_cp, if_neg (by omega)]
                        rw [e, fm_row_self]
                      refine fr_iload_n hB dX9_shift_107 rfl rfl ?_
                      refine fr_iload_n hB dX9_shift_108 rfl rfl ?_
                      refine fr_icmp_neN (tgt := 167) hB dX9_shift_109 (by decide) (by omega) (by omega) (fun h9 => ?_) (fun h9 => ?_)
                      · exact up (fun q => h9 q.1)
                      · refine fr_iload_n hB dX9_shift_112 rfl rfl ?_
                        refine fr_iload hB dX9_shift_113 rfl ?_
                        refine fr_icmp_geN (tgt := 167) hB dX9_shift_115 (by decide) (by omega) (by omega) (fun h10 => ?_) (fun h10 => ?_)
                        · exact up (fun q => by omega)
                        · have l1 : ∀ m : Nat, m ≤ z → fm_W shM X 7 124 [some (.ref (fm_rh X 0)), some (.int (nI a)), some (.int (nI x)), some (.int (nI b)), some (.int (nI y)), some (.int (nI z)), some (.int (nI m - 1))] [] (M.1, fm_row M.2 24 (fm_cp (M.2 24) (60 * a + x) (60 * b + y) m z)) (fm_Q shM X (fun r M' => r = some (.int (nI z)) ∧ fm_MR (Z.1, Z.2.1, Z.2.2.1, Z.2.2.2.1, Z.2.2.2.2.1, Z.2.2.2.2.2.1, fm_row Z.2.2.2.2.2.2 b (va_cpy (Z.2.2.2.2.2.2 a) (Z.2.2.2.2.2.2 b) x y z)) M')) := by
                            intro m
                            induction m with
                            | zero =>
                              intro hk
                              refine fr_iload hB dX9_shift_124 rfl ?_
                              refine fr_if_lt (tgt := 164) hB dX9_shift_126 (by decide) (fun h11 => ?_) (fun h11 => ?_)
                              · refine fr_goto (tgt := 212) hB dX9_shift_164 (by decide) ?_
                                refine fr_lv [some (.ref (fm_rh X 0)), some (.int (nI a)), some (.int (nI x)), some (.int (nI b)), some (.int (nI y)), some (.int (nI z)), none] ⟨rfl, rfl, rfl, rfl, rfl, rfl, trivial⟩ ?_
                                exact fin
                              · exact absurd (by decide) h11
                            | succ m ih =>
                              intro hk
                              rw [nI_p1]
                              refine fr_iload hB dX9_shift_124 rfl ?_
                              refine fr_if_ltN (tgt := 164) hB dX9_shift_126 (by decide) (by omega) ?_
                              refine fr_aload_n hB dX9_shift_129 rfl rfl ?_
                              refine fr_getR hB dX9_shift_130 lf_X9_87 rfl rfl ?_
                              refine fr_bipush (v := nI 60) hB dX9_shift_133 (by decide) ?_
                              refine fr_iload_n hB dX9_shift_135 rfl rfl ?_
                              refine fr_imulN hB dX9_shift_136 ?_
                              refine fr_iload hB dX9_shift_137 rfl ?_
                              refine fr_iaddN hB dX9_shift_139 ?_
                              refine fr_iload hB dX9_shift_140 rfl ?_
                              refine fr_iaddN hB dX9_shift_142 ?_
                              refine fr_aload_n hB dX9_shift_143 rfl rfl ?_
                              refine fr_getR hB dX9_shift_144 lf_X9_87 rfl rfl ?_
                              refine fr_bipush (v := nI 60) hB dX9_shift_147 (by decide) ?_
                              refine fr_iload_n hB dX9_shift_149 rfl rfl ?_
                              refine fr_imulN hB dX9_shift_150 ?_
                              refine fr_iload_n hB dX9_shift_151 rfl rfl ?_
                              refine fr_iaddN hB dX9_shift_152 ?_
                              refine fr_iload hB dX9_shift_153 rfl ?_
                              refine fr_iaddN hB dX9_shift_155 ?_
                              refine fr_lald hB (_) dX9_shift_156 rfl (rfl) (by omega) (by decide) ?_
                              refine fr_eql (M.2 24 (60 * a + x + m)) (by show fm_row M.2 24 (fm_cp _ _ _ _ _) 24 _ = _; rw [fm_row_same, fm_cp, if_neg (by omega)]) ?_
                              refine fr_last hB (_) dX9_shift_157 rfl (rfl) (by omega) (by decide) ?_
                              refine fr_iinc (v := nI m - 1) hB dX9_shift_158 rfl (nI_m1 m) (by decide) rfl ?_
                              refine fr_goto (tgt := 124) hB dX9_shift_161 (by decide) ?_
                              refine fr_mem _ (fm_pl_row (fun q => ?_)) (ih (by omega))
                              unfold fm_cp
                              by_cases e1 : q = 60 * b + y + m
                              · rw [if_pos e1, if_pos (by omega), show 60 * a + x + (q - (60 * b + y)) = 60 * a + x + m by omega]
                              · rw [if_neg e1]
                                by_cases e2 : 60 * b + y + (m + 1) ≤ q ∧ q < 60 * b + y + z
                                · rw [if_pos e2, if_pos (by omega)]
                                · rw [if_neg e2, if_neg (by omega)]
                          refine fr_iload hB dX9_shift_118 rfl ?_
                          refine fr_iconst (v := nI 1) hB dX9_shift_120 (by decide) ?_
                          refine fr_isub hB dX9_shift_121 ?_
                          refine fr_istore hB dX9_shift_122 (by decide) rfl ?_
                          rw [show nI z - nI 1 = nI z - 1 from rfl]
                          refine fr_mem (M.1, fm_row M.2 24 (fm_cp (M.2 24) (60 * a + x) (60 * b + y) z z)) ?_ (l1 z (Nat.le_refl z))
                          have e : fm_cp (M.2 24) (60 * a + x) (60 * b + y) z z = M.2 24 := by
                            funext q
                            rw [fm_cp, if_neg (by omega)]
                          rw [e, fm_row_self]
                    · have h8 := (fm_lNlt (by omega) (by omega)).mp ((lg_cmp_gt _ _).mp (Int32.not_le.mp h8))
                      exact bad (fun q => by rw [er2] at q; have := of_decide_eq_true q.2; omega)
          · have h3 : ¬ Z.2.2.2.2.1 a = Z.2.2.2.2.1 b := fun q => h3 (by rw [q])
            have e : sp_shift Z (nI a) i (nI b) j n = (-12, Z) := by rw [sp_shift, if_pos ⟨ht, hu⟩, ea, eb, if_neg hor, if_neg h3]
            refine fr_bipush (v := -12) hB dX9_shift_52 (by decide) ?_
            exact fr_ireturn hB dX9_shift_54 (⟨by rw [e], by rw [e]; exact hm⟩)
    · have e : sp_shift Z t i u j n = (-1, Z) := by rw [sp_shift, if_neg (fun q => by rw [hu] at q; cases q.2)]
      refine fr_iconst (v := -1) hB dX9_shift_14 (by decide) ?_
      exact fr_ireturn hB dX9_shift_15 (⟨by rw [e], by rw [e]; exact hm⟩)
