/-! ===== FaultGraph$Plant: what is there ===== -/
theorem ct_X3_hasPart {sh : List fm_S} {E : fm_E} {k c : Nat} {n : Int32} {M : fm_M} (hs : fm_Pl sh k) (hc : M.1 k 2 = nI c) : fm_C sh E mX3_hasPart 0 [.ref (E.2.1 k), .int n] M (fun r M' => r = some (.int (fm_ib (fm_lt n c))) ∧ M' = M) := by
  refine fm_C.of (by decide +kernel) (Nat.le_of_ble_eq_true rfl) ?_
  intro X hE hR hB
  subst hE
  have hB : fm_B _ X cX3_hasPart 2 RX3 (some .boolean) := hB
  refine fr_lv [some (.ref (fm_rh X k)), some (.int n)] ⟨rfl, rfl, trivial⟩ ?_
  refine fr_iload_n hB dX3_hasPart_0 rfl rfl ?_
  refine fr_if_lt (tgt := 16) hB dX3_hasPart_1 (by decide) (fun h => ?_) (fun h => ?_)
  · refine fr_iconst (v := nI 0) hB dX3_hasPart_16 (by decide) ?_
    exact fr_zreturn hB dX3_hasPart_17 (by first | exact fm_nar0 | exact fm_nar1 | exact fm_nar _) (⟨by rw [fm_lt_neg c h]; rfl, rfl⟩)
  · refine fr_iload_n hB dX3_hasPart_4 rfl rfl ?_
    refine fr_aload_n hB dX3_hasPart_5 rfl rfl ?_
    refine fr_getI hB dX3_hasPart_6 lf_X3_47 hs.o rfl ?_
    refine fr_eqi _ (hc) ?_
    refine fr_icmp_ge (tgt := 16) hB dX3_hasPart_9 (by decide) (fun h2 => ?_) (fun h2 => ?_)
    · refine fr_iconst (v := nI 0) hB dX3_hasPart_16 (by decide) ?_
      exact fr_zreturn hB dX3_hasPart_17 (by first | exact fm_nar0 | exact fm_nar1 | exact fm_nar _) (⟨by rw [fm_lt_ge h2]; rfl, rfl⟩)
    · refine fr_iconst (v := nI 1) hB dX3_hasPart_12 (by decide) ?_
      refine fr_goto (tgt := 17) hB dX3_hasPart_13 (by decide) ?_
      exact fr_zreturn hB dX3_hasPart_17 (by first | exact fm_nar0 | exact fm_nar1 | exact fm_nar _) (⟨by rw [fm_lt_in h h2]; rfl, rfl⟩)
theorem ct_X3_hasPlace {sh : List fm_S} {E : fm_E} {k c : Nat} {n : Int32} {M : fm_M} (hs : fm_Pl sh k) (hc : M.1 k 2 = nI c) : fm_C sh E mX3_hasPlace 1 [.ref (E.2.1 k), .int n] M (fun r M' => r = some (.int (fm_ib (fm_lt n c))) ∧ M' = M) := by
  refine fm_C.of (by decide +kernel) (Nat.le_of_ble_eq_true rfl) ?_
  intro X hE hR hB
  subst hE
  have hB : fm_B _ X cX3_hasPlace 2 RX3 (some .boolean) := hB
  refine fr_lv [some (.ref (fm_rh X k)), some (.int n)] ⟨rfl, rfl, trivial⟩ ?_
  refine fr_aload_n hB dX3_hasPlace_0 rfl rfl ?_
  refine fr_iload_n hB dX3_hasPlace_1 rfl rfl ?_
  refine fr_callV hB _ _ dX3_hasPlace_2 lm_X3_50 hs.o (ct_X3_hasPart hs hc) rfl rfl (Nat.le_of_ble_eq_true rfl) (fm_room hR (by decide) (by decide)) ?_
  rintro _ M9 ⟨rfl, hM9⟩
  rw [hM9]
  clear hM9 M9
  refine fr_ret1 ?_
  exact fr_zreturn hB dX3_hasPlace_5 (fm_nar _) (⟨rfl, rfl⟩)
theorem ct_X3_hasGate {sh : List fm_S} {E : fm_E} {k c : Nat} {n : Int32} {M : fm_M} (hs : fm_Pl sh k) (hc : M.1 k 7 = nI c) : fm_C sh E mX3_hasGate 0 [.ref (E.2.1 k), .int n] M (fun r M' => r = some (.int (fm_ib (fm_lt n c))) ∧ M' = M) := by
  refine fm_C.of (by decide +kernel) (Nat.le_of_ble_eq_true rfl) ?_
  intro X hE hR hB
  subst hE
  have hB : fm_B _ X cX3_hasGate 2 RX3 (some .boolean) := hB
  refine fr_lv [some (.ref (fm_rh X k)), some (.int n)] ⟨rfl, rfl, trivial⟩ ?_
  refine fr_iload_n hB dX3_hasGate_0 rfl rfl ?_
  refine fr_if_lt (tgt := 16) hB dX3_hasGate_1 (by decide) (fun h => ?_) (fun h => ?_)
  · refine fr_iconst (v := nI 0) hB dX3_hasGate_16 (by decide) ?_
    exact fr_zreturn hB dX3_hasGate_17 (by first | exact fm_nar0 | exact fm_nar1 | exact fm_nar _) (⟨by rw [fm_lt_neg c h]; rfl, rfl⟩)
  · refine fr_iload_n hB dX3_hasGate_4 rfl rfl ?_
    refine fr_aload_n hB dX3_hasGate_5 rfl rfl ?_
    refine fr_getI hB dX3_hasGate_6 lf_X3_54 hs.o rfl ?_
    refine fr_eqi _ (hc) ?_
    refine fr_icmp_ge (tgt := 16) hB dX3_hasGate_9 (by decide) (fun h2 => ?_) (fun h2 => ?_)
    · refine fr_iconst (v := nI 0) hB dX3_hasGate_16 (by decide) ?_
      exact fr_zreturn hB dX3_hasGate_17 (by first | exact fm_nar0 | exact fm_nar1 | exact fm_nar _) (⟨by rw [fm_lt_ge h2]; rfl, rfl⟩)
    · refine fr_iconst (v := nI 1) hB dX3_hasGate_12 (by decide) ?_
      refine fr_goto (tgt := 17) hB dX3_hasGate_13 (by decide) ?_
      exact fr_zreturn hB dX3_hasGate_17 (by first | exact fm_nar0 | exact fm_nar1 | exact fm_nar _) (⟨by rw [fm_lt_in h h2]; rfl, rfl⟩)
theorem ct_X3_hasCause {sh : List fm_S} {E : fm_E} {k c : Nat} {n : Int32} {M : fm_M} (hs : fm_Pl sh k) (hc : M.1 k 11 = nI c) : fm_C sh E mX3_hasCause 0 [.ref (E.2.1 k), .int n] M (fun r M' => r = some (.int (fm_ib (fm_lt n c))) ∧ M' = M) := by
  refine fm_C.of (by decide +kernel) (Nat.le_of_ble_eq_true rfl) ?_
  intro X hE hR hB
  subst hE
  have hB : fm_B _ X cX3_hasCause 2 RX3 (some .boolean) := hB
  refine fr_lv [some (.ref (fm_rh X k)), some (.int n)] ⟨rfl, rfl, trivial⟩ ?_
  refine fr_iload_n hB dX3_hasCause_0 rfl rfl ?_
  refine fr_if_lt (tgt := 16) hB dX3_hasCause_1 (by decide) (fun h => ?_) (fun h => ?_)
  · refine fr_iconst (v := nI 0) hB dX3_hasCause_16 (by decide) ?_
    exact fr_zreturn hB dX3_hasCause_17 (by first | exact fm_nar0 | exact fm_nar1 | exact fm_nar _) (⟨by rw [fm_lt_neg c h]; rfl, rfl⟩)
  · refine fr_iload_n hB dX3_hasCause_4 rfl rfl ?_
    refine fr_aload_n hB dX3_hasCause_5 rfl rfl ?_
    refine fr_getI hB dX3_hasCause_6 lf_X3_57 hs.o rfl ?_
    refine fr_eqi _ (hc) ?_
    refine fr_icmp_ge (tgt := 16) hB dX3_hasCause_9 (by decide) (fun h2 => ?_) (fun h2 => ?_)
    · refine fr_iconst (v := nI 0) hB dX3_hasCause_16 (by decide) ?_
      exact fr_zreturn hB dX3_hasCause_17 (by first | exact fm_nar0 | exact fm_nar1 | exact fm_nar _) (⟨by rw [fm_lt_ge h2]; rfl, rfl⟩)
    · refine fr_iconst (v := nI 1) hB dX3_hasCause_12 (by decide) ?_
      refine fr_goto (tgt := 17) hB dX3_hasCause_13 (by decide) ?_
      exact fr_zreturn hB dX3_hasCause_17 (by first | exact fm_nar0 | exact fm_nar1 | exact fm_nar _) (⟨by rw [fm_lt_in h h2]; rfl, rfl⟩)
theorem ct_X3_hasBits {sh : List fm_S} {E : fm_E} {k c : Nat} {n : Int32} {M : fm_M} (hs : fm_Pl sh k) (hc : M.1 k 2 = nI c) (h6 : c ≤ 6) : fm_C sh E mX3_hasBits 0 [.ref (E.2.1 k), .int n] M (fun r M' => r = some (.int (fm_ib (fm_lt n (2 ^ c)))) ∧ M' = M) := by
  refine fm_C.of (by decide +kernel) (Nat.le_of_ble_eq_true rfl) ?_
  intro X hE hR hB
  subst hE
  have hB : fm_B _ X cX3_hasBits 2 RX3 (some .boolean) := hB
  refine fr_lv [some (.ref (fm_rh X k)), some (.int n)] ⟨rfl, rfl, trivial⟩ ?_
  refine fr_iload_n hB dX3_hasBits_0 rfl rfl ?_
  refine fr_if_lt (tgt := 18) hB dX3_hasBits_1 (by decide) (fun h => ?_) (fun h => ?_)
  · refine fr_iconst (v := nI 0) hB dX3_hasBits_18 (by decide) ?_
    exact fr_zreturn hB dX3_hasBits_19 (by first | exact fm_nar0 | exact fm_nar1 | exact fm_nar _) (⟨by rw [fm_lt_neg (2 ^ c) h]; rfl, rfl⟩)
  · refine fr_iload_n hB dX3_hasBits_4 rfl rfl ?_
    refine fr_iconst (v := nI 1) hB dX3_hasBits_5 (by decide) ?_
    refine fr_aload_n hB dX3_hasBits_6 rfl rfl ?_
    refine fr_getI hB dX3_hasBits_7 lf_X3_47 hs.o rfl ?_
    refine fr_eqi _ (hc) ?_
    refine fr_ishl hB dX3_hasBits_10 ?_
    refine fr_eqi (nI (2 ^ c)) (fm_shl1 h6) ?_
    refine fr_icmp_ge (tgt := 18) hB dX3_hasBits_11 (by decide) (fun h2 => ?_) (fun h2 => ?_)
    · refine fr_iconst (v := nI 0) hB dX3_hasBits_18 (by decide) ?_
      exact fr_zreturn hB dX3_hasBits_19 (by first | exact fm_nar0 | exact fm_nar1 | exact fm_nar _) (⟨by rw [fm_lt_ge h2]; rfl, rfl⟩)
    · refine fr_iconst (v := nI 1) hB dX3_hasBits_14 (by decide) ?_
      refine fr_goto (tgt := 19) hB dX3_hasBits_15 (by decide) ?_
      exact fr_zreturn hB dX3_hasBits_19 (by first | exact fm_nar0 | exact fm_nar1 | exact fm_nar _) (⟨by rw [fm_lt_in h h2]; rfl, rfl⟩)
theorem ct_X3_addPart {sh : List fm_S} {E : fm_E} {k c : Nat} {n : Int32} {M : fm_M} (hs : fm_Pl sh k) (hc : M.1 k 2 = nI c) (h6 : c ≤ 6) : fm_C sh E mX3_addPart 0 [.ref (E.2.1 k), .int n] M (fun r M' => r = some (.int (if c < 6 then nI c else -4)) ∧ M' = if c < 6 then fm_pi (fm_pi (fm_pi M (k + 1) c n) (k + 2) c (nI c)) k 2 (nI (c + 1)) else M) := by
  refine fm_C.of (by decide +kernel) (Nat.le_of_ble_eq_true rfl) ?_
  intro X hE hR hB
  subst hE
  have hB : fm_B _ X cX3_addPart 2 RX3 (some .int) := hB
  refine fr_lv [some (.ref (fm_rh X k)), some (.int n)] ⟨rfl, rfl, trivial⟩ ?_
  refine fr_aload_n hB dX3_addPart_0 rfl rfl ?_
  refine fr_getI hB dX3_addPart_1 lf_X3_47 hs.o rfl ?_
  refine fr_eqi _ (hc) ?_
  refine fr_bipush (v := nI 6) hB dX3_addPart_4 (by decide) ?_
  refine fr_icmp_ltN (tgt := 12) hB dX3_addPart_6 (by decide) (by omega) (by omega) (fun h => ?_) (fun h => ?_)
  · refine fr_aload_n hB dX3_addPart_12 rfl rfl ?_
    refine fr_getR hB dX3_addPart_13 lf_X3_9 hs.o rfl ?_
    refine fr_aload_n hB dX3_addPart_16 rfl rfl ?_
    refine fr_getI hB dX3_addPart_17 lf_X3_47 hs.o rfl ?_
    refine fr_eqi _ (hc) ?_
    refine fr_iload_n hB dX3_addPart_20 rfl rfl ?_
    refine fr_iast hB (_) dX3_addPart_21 hs.a1 (rfl) (by omega) (by decide) ?_
    refine fr_aload_n hB dX3_addPart_22 rfl rfl ?_
    refine fr_getR hB dX3_addPart_23 lf_X3_15 hs.o rfl ?_
    refine fr_aload_n hB dX3_addPart_26 rfl rfl ?_
    refine fr_getI hB dX3_addPart_27 lf_X3_47 hs.o rfl ?_
    refine fr_eqi (nI (c)) (by simp [fm_u_at, hc]) ?_
    refine fr_aload_n hB dX3_addPart_30 rfl rfl ?_
    refine fr_getI hB dX3_addPart_31 lf_X3_47 hs.o rfl ?_
    refine fr_eqi (nI (c)) (by simp [fm_u_at, hc]) ?_
    refine fr_iast hB (_) dX3_addPart_34 hs.a2 (rfl) (by omega) (by decide) ?_
    refine fr_aload_n hB dX3_addPart_35 rfl rfl ?_
    refine fr_dup hB dX3_addPart_36 rfl ?_
    refine fr_getI hB dX3_addPart_37 lf_X3_47 hs.o rfl ?_
    refine fr_eqi (nI (c)) (by simp [fm_u_at, hc]) ?_
    refine fr_iconst (v := nI 1) hB dX3_addPart_40 (by decide) ?_
    refine fr_iaddN hB dX3_addPart_41 ?_
    refine fr_putI hB dX3_addPart_42 lp_X3_47 hs.o rfl ?_
    refine fr_aload_n hB dX3_addPart_45 rfl rfl ?_
    refine fr_getI hB dX3_addPart_46 lf_X3_47 hs.o rfl ?_
    refine fr_eqi (nI (c + 1)) (by simp [fm_u_at]) ?_
    refine fr_iconst (v := nI 1) hB dX3_addPart_49 (by decide) ?_
    refine fr_isubN hB dX3_addPart_50 (by omega) ?_
    exact fr_ireturn hB dX3_addPart_51 (⟨by rw [if_pos h, Nat.add_sub_cancel], by rw [if_pos h]⟩)
  · refine fr_bipush (v := -4) hB dX3_addPart_9 (by decide) ?_
    exact fr_ireturn hB dX3_addPart_11 (⟨by rw [if_neg (Nat.not_lt.mpr h)], by rw [if_neg (Nat.not_lt.mpr h)]⟩)
theorem ct_X3_addGate {sh : List fm_S} {E : fm_E} {k c : Nat} {n n2 : Int32} {M : fm_M} (hs : fm_Pl sh k) (hc : M.1 k 7 = nI c) (h6 : c ≤ 8) : fm_C sh E mX3_addGate 0 [.ref (E.2.1 k), .int n, .int n2] M (fun r M' => r = some (.int (if c < 8 then nI c else -4)) ∧ M' = if c < 8 then fm_pi (fm_pi (fm_pi (fm_pi M (k + 3) c n) (k + 4) c n2) (k + 6) c (nI 0)) k 7 (nI (c + 1)) else M) := by
  refine fm_C.of (by decide +kernel) (Nat.le_of_ble_eq_true rfl) ?_
  intro X hE hR hB
  subst hE
  have hB : fm_B _ X cX3_addGate 3 RX3 (some .int) := hB
  refine fr_lv [some (.ref (fm_rh X k)), some (.int n), some (.int n2)] ⟨rfl, rfl, rfl, trivial⟩ ?_
  refine fr_aload_n hB dX3_addGate_0 rfl rfl ?_
  refine fr_getI hB dX3_addGate_1 lf_X3_54 hs.o rfl ?_
  refine fr_eqi _ (hc) ?_
  refine fr_bipush (v := nI 8) hB dX3_addGate_4 (by decide) ?_
  refine fr_icmp_ltN (tgt := 12) hB dX3_addGate_6 (by decide) (by omega) (by omega) (fun h => ?_) (fun h => ?_)
  · refine fr_aload_n hB dX3_addGate_12 rfl rfl ?_
    refine fr_getR hB dX3_addGate_13 lf_X3_18 hs.o rfl ?_
    refine fr_aload_n hB dX3_addGate_16 rfl rfl ?_
    refine fr_getI hB dX3_addGate_17 lf_X3_54 hs.o rfl ?_
    refine fr_eqi _ (hc) ?_
    refine fr_iload_n hB dX3_addGate_20 rfl rfl ?_
    refine fr_iast hB (_) dX3_addGate_21 hs.a3 (rfl) (by omega) (by decide) ?_
    refine fr_aload_n hB dX3_addGate_22 rfl rfl ?_
    refine fr_getR hB dX3_addGate_23 lf_X3_21 hs.o rfl ?_
    refine fr_aload_n hB dX3_addGate_26 rfl rfl ?_
    refine fr_getI hB dX3_addGate_27 lf_X3_54 hs.o rfl ?_
    refine fr_eqi (nI (c)) (by simp [fm_u_at, hc]) ?_
    refine fr_iload_n hB dX3_addGate_30 rfl rfl ?_
    refine fr_iast hB (_) dX3_addGate_31 hs.a4 (rfl) (by omega) (by decide) ?_
    refine fr_aload_n hB dX3_addGate_32 rfl rfl ?_
    refine fr_getR hB dX3_addGate_33 lf_X3_27 hs.o rfl ?_
    refine fr_aload_n hB dX3_addGate_36 rfl rfl ?_
    refine fr_getI hB dX3_addGate_37 lf_X3_54 hs.o rfl ?_
    refine fr_eqi (nI (c)) (by simp [fm_u_at, hc]) ?_
    refine fr_iconst (v := nI 0) hB dX3_addGate_40 (by decide) ?_
    refine fr_iast hB (_) dX3_addGate_41 hs.a6 (rfl) (by omega) (by decide) ?_
    refine fr_aload_n hB dX3_addGate_42 rfl rfl ?_
    refine fr_dup hB dX3_addGate_43 rfl ?_
    refine fr_getI hB dX3_addGate_44 lf_X3_54 hs.o rfl ?_
    refine fr_eqi (nI (c)) (by simp [fm_u_at, hc]) ?_
    refine fr_iconst (v := nI 1) hB dX3_addGate_47 (by decide) ?_
    refine fr_iaddN hB dX3_addGate_48 ?_
    refine fr_putI hB dX3_addGate_49 lp_X3_54 hs.o rfl ?_
    refine fr_aload_n hB dX3_addGate_52 rfl rfl ?_
    refine fr_getI hB dX3_addGate_53 lf_X3_54 hs.o rfl ?_
    refine fr_eqi (nI (c + 1)) (by simp [fm_u_at]) ?_
    refine fr_iconst (v := nI 1) hB dX3_addGate_56 (by decide) ?_
    refine fr_isubN hB dX3_addGate_57 (by omega) ?_
    exact fr_ireturn hB dX3_addGate_58 (⟨by rw [if_pos h, Nat.add_sub_cancel], by rw [if_pos h]⟩)
  · refine fr_bipush (v := -4) hB dX3_addGate_9 (by decide) ?_
    exact fr_ireturn hB dX3_addGate_11 (⟨by rw [if_neg (Nat.not_lt.mpr h)], by rw [if_neg (Nat.not_lt.mpr h)]⟩)
theorem ct_X3_addCause {sh : List fm_S} {E : fm_E} {k c : Nat} {n n2 : Int32} {M : fm_M} (hs : fm_Pl sh k) (hc : M.1 k 11 = nI c) (h6 : c ≤ 3) : fm_C sh E mX3_addCause 0 [.ref (E.2.1 k), .int n, .int n2] M (fun r M' => r = some (.int (if c < 3 then nI c else -4)) ∧ M' = if c < 3 then fm_pi (fm_pi (fm_pi M (k + 7) c n) (k + 8) c n2) k 11 (nI (c + 1)) else M) := by
  refine fm_C.of (by decide +kernel) (Nat.le_of_ble_eq_true rfl) ?_
  intro X hE hR hB
  subst hE
  have hB : fm_B _ X cX3_addCause 3 RX3 (some .int) := hB
  refine fr_lv [some (.ref (fm_rh X k)), some (.int n), some (.int n2)] ⟨rfl, rfl, rfl, trivial⟩ ?_
  refine fr_aload_n hB dX3_addCause_0 rfl rfl ?_
  refine fr_getI hB dX3_addCause_1 lf_X3_57 hs.o rfl ?_
  refine fr_eqi _ (hc) ?_
  refine fr_iconst (v := nI 3) hB dX3_addCause_4 (by decide) ?_
  refine fr_icmp_ltN (tgt := 11) hB dX3_addCause_5 (by decide) (by omega) (by omega) (fun h => ?_) (fun h => ?_)
  · refine fr_aload_n hB dX3_addCause_11 rfl rfl ?_
    refine fr_getR hB dX3_addCause_12 lf_X3_34 hs.o rfl ?_
    refine fr_aload_n hB dX3_addCause_15 rfl rfl ?_
    refine fr_getI hB dX3_addCause_16 lf_X3_57 hs.o rfl ?_
    refine fr_eqi _ (hc) ?_
    refine fr_iload_n hB dX3_addCause_19 rfl rfl ?_
    refine fr_iast hB (_) dX3_addCause_20 hs.a7 (rfl) (by omega) (by decide) ?_
    refine fr_aload_n hB dX3_addCause_21 rfl rfl ?_
    refine fr_getR hB dX3_addCause_22 lf_X3_37 hs.o rfl ?_
    refine fr_aload_n hB dX3_addCause_25 rfl rfl ?_
    refine fr_getI hB dX3_addCause_26 lf_X3_57 hs.o rfl ?_
    refine fr_eqi (nI (c)) (by simp [fm_u_at, hc]) ?_
    refine fr_iload_n hB dX3_addCause_29 rfl rfl ?_
    refine fr_iast hB (_) dX3_addCause_30 hs.a8 (rfl) (by omega) (by decide) ?_
    refine fr_aload_n hB dX3_addCause_31 rfl rfl ?_
    refine fr_dup hB dX3_addCause_32 rfl ?_
    refine fr_getI hB dX3_addCause_33 lf_X3_57 hs.o rfl ?_
    refine fr_eqi (nI (c)) (by simp [fm_u_at, hc]) ?_
    refine fr_iconst (v := nI 1) hB dX3_addCause_36 (by decide) ?_
    refine fr_iaddN hB dX3_addCause_37 ?_
    refine fr_putI hB dX3_addCause_38 lp_X3_57 hs.o rfl ?_
    refine fr_aload_n hB dX3_addCause_41 rfl rfl ?_
    refine fr_getI hB dX3_addCause_42 lf_X3_57 hs.o rfl ?_
    refine fr_eqi (nI (c + 1)) (by simp [fm_u_at]) ?_
    refine fr_iconst (v := nI 1) hB dX3_addCause_45 (by decide) ?_
    refine fr_isubN hB dX3_addCause_46 (by omega) ?_
    exact fr_ireturn hB dX3_addCause_47 (⟨by rw [if_pos h, Nat.add_sub_cancel], by rw [if_pos h]⟩)
  · refine fr_bipush (v := -4) hB dX3_addCause_8 (by decide) ?_
    exact fr_ireturn hB dX3_addCause_10 (⟨by rw [if_neg (Nat.not_lt.mpr h)], by rw [if_neg (Nat.not_lt.mpr h)]⟩)
theorem ct_X3_addInput {sh : List fm_S} {E : fm_E} {k g c : Nat} {n : Int32} {M : fm_M} (hs : fm_Pl sh k) (hg : g < 8) (hc : M.1 (k + 6) g = nI c) (h6 : c ≤ 4) : fm_C sh E mX3_addInput 0 [.ref (E.2.1 k), .int (nI g), .int n] M (fun r M' => r = some (.int (if c < 4 then nI (c + 1) else -4)) ∧ M' = if c < 4 then fm_pi (fm_pi M (k + 5) (g * 4 + c) n) (k + 6) g (nI (c + 1)) else M) := by
  refine fm_C.of (by decide +kernel) (Nat.le_of_ble_eq_true rfl) ?_
  intro X hE hR hB
  subst hE
  have hB : fm_B _ X cX3_addInput 4 RX3 (some .int) := hB
  refine fr_lv [some (.ref (fm_rh X k)), some (.int (nI g)), some (.int n), none] ⟨rfl, rfl, rfl, trivial⟩ ?_
  refine fr_aload_n hB dX3_addInput_0 rfl rfl ?_
  refine fr_getR hB dX3_addInput_1 lf_X3_27 hs.o rfl ?_
  refine fr_iload_n hB dX3_addInput_4 rfl rfl ?_
  refine fr_iald hB (_) dX3_addInput_5 hs.a6 (rfl) (by omega) (by decide) ?_
  refine fr_eqi _ (hc) ?_
  refine fr_istore_n hB dX3_addInput_6 rfl (by decide) rfl ?_
  refine fr_iload_n hB dX3_addInput_7 rfl rfl ?_
  refine fr_iconst (v := nI 4) hB dX3_addInput_8 (by decide) ?_
  refine fr_icmp_ltN (tgt := 15) hB dX3_addInput_9 (by decide) (by omega) (by omega) (fun h => ?_) (fun h => ?_)
  · refine fr_aload_n hB dX3_addInput_15 rfl rfl ?_
    refine fr_getR hB dX3_addInput_16 lf_X3_24 hs.o rfl ?_
    refine fr_iload_n hB dX3_addInput_19 rfl rfl ?_
    refine fr_iconst (v := nI 4) hB dX3_addInput_20 (by decide) ?_
    refine fr_imulN hB dX3_addInput_21 ?_
    refine fr_iload_n hB dX3_addInput_22 rfl rfl ?_
    refine fr_iaddN hB dX3_addInput_23 ?_
    refine fr_iload_n hB dX3_addInput_24 rfl rfl ?_
    refine fr_iast hB (_) dX3_addInput_25 hs.a5 (rfl) (by omega) (by decide) ?_
    refine fr_aload_n hB dX3_addInput_26 rfl rfl ?_
    refine fr_getR hB dX3_addInput_27 lf_X3_27 hs.o rfl ?_
    refine fr_iload_n hB dX3_addInput_30 rfl rfl ?_
    refine fr_iload_n hB dX3_addInput_31 rfl rfl ?_
    refine fr_iconst (v := nI 1) hB dX3_addInput_32 (by decide) ?_
    refine fr_iaddN hB dX3_addInput_33 ?_
    refine fr_iast hB (_) dX3_addInput_34 hs.a6 (rfl) (by omega) (by decide) ?_
    refine fr_iload_n hB dX3_addInput_35 rfl rfl ?_
    refine fr_iconst (v := nI 1) hB dX3_addInput_36 (by decide) ?_
    refine fr_iaddN hB dX3_addInput_37 ?_
    exact fr_ireturn hB dX3_addInput_38 (⟨by rw [if_pos h], by rw [if_pos h]⟩)
  · refine fr_bipush (v := -4) hB dX3_addInput_12 (by decide) ?_
    exact fr_ireturn hB dX3_addInput_14 (⟨by rw [if_neg (Nat.not_lt.mpr h)], by rw [if_neg (Nat.not_lt.mpr h)]⟩)
/-- the top's number, or -5; t is 0 if it is the last gate's, else one more than the gate's -/
def fm_top (g t : Nat) : Int32 := if g = 0 then -5 else if t = 0 then nI (g - 1) else nI (t - 1)
theorem ct_X3_topGate {sh : List fm_S} {E : fm_E} {k g t : Nat} {M : fm_M} (hs : fm_Pl sh k) (hc : M.1 k 7 = nI g) (h8 : g ≤ 8) (ht : M.1 k 8 = nI t - 1) (ht8 : t ≤ 8) : fm_C sh E mX3_topGate 0 [.ref (E.2.1 k)] M (fun r M' => r = some (.int (fm_top g t)) ∧ M' = M) := by
  have e0 : ∀ t : Nat, t ≤ 8 → (nI t - 1 = -1 ↔ t = 0) := by decide
  have e1 : ∀ t : Nat, t ≤ 8 → t ≠ 0 → nI t - 1 = nI (t - 1) := by decide
  refine fm_C.of (by decide +kernel) (Nat.le_of_ble_eq_true rfl) ?_
  intro X hE hR hB
  subst hE
  have hB : fm_B _ X cX3_topGate 1 RX3 (some .int) := hB
  refine fr_lv [some (.ref (fm_rh X k))] ⟨rfl, trivial⟩ ?_
  refine fr_aload_n hB dX3_topGate_0 rfl rfl ?_
  refine fr_getI hB dX3_topGate_1 lf_X3_54 hs.o rfl ?_
  refine fr_eqi _ (hc) ?_
  refine fr_if_neN (tgt := 10) hB dX3_topGate_4 (by decide) (by omega) (fun h => ?_) (fun h => ?_)
  · refine fr_aload_n hB dX3_topGate_10 rfl rfl ?_
    refine fr_getI hB dX3_topGate_11 lf_X3_30 hs.o rfl ?_
    rw [ht]
    refine fr_iconst (v := -1) hB dX3_topGate_14 (by decide) ?_
    refine fr_icmp_ne (tgt := 27) hB dX3_topGate_15 (by decide) (fun h2 => ?_) (fun h2 => ?_)
    · refine fr_aload_n hB dX3_topGate_27 rfl rfl ?_
      refine fr_getI hB dX3_topGate_28 lf_X3_30 hs.o rfl ?_
      rw [ht]
      have h3 : t ≠ 0 := fun q => h2 ((e0 t ht8).mpr q)
      exact fr_ireturn hB dX3_topGate_31 (⟨by rw [e1 t ht8 h3, fm_top, if_neg (by omega), if_neg h3], rfl⟩)
    · refine fr_aload_n hB dX3_topGate_18 rfl rfl ?_
      refine fr_getI hB dX3_topGate_19 lf_X3_54 hs.o rfl ?_
      refine fr_eqi _ (hc) ?_
      refine fr_iconst (v := nI 1) hB dX3_topGate_22 (by decide) ?_
      refine fr_isubN hB dX3_topGate_23 (by omega) ?_
      refine fr_goto (tgt := 31) hB dX3_topGate_24 (by decide) ?_
      have h3 : t = 0 := (e0 t ht8).mp (Decidable.not_not.mp h2)
      exact fr_ireturn hB dX3_topGate_31 (⟨by rw [fm_top, if_neg (by omega), if_pos h3], rfl⟩)
  · refine fr_bipush (v := -5) hB dX3_topGate_7 (by decide) ?_
    exact fr_ireturn hB dX3_topGate_9 (⟨by rw [fm_top, if_pos h], rfl⟩)
