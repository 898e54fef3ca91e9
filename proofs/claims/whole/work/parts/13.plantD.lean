/-- a table's bit is looked up -/
theorem fm_bit_1 : ∀ s : Nat, s < 64 → fm_bit 1 s = decide (s = 0) := by decide +kernel
theorem fm_and1 (v : Int64) : v &&& 1 = 0 ↔ fm_bit v 0 = false := by
  constructor
  · intro h
    have h2 : fm_bit (v &&& 1) 0 = false := by rw [h]; exact fm_bit_0 0
    rw [fm_bit_and, fm_bit_1 0 (by decide)] at h2
    simpa using h2
  · intro h
    apply fm_bit_ext
    intro s hs
    rw [fm_bit_and, fm_bit_1 s hs, fm_bit_0]
    by_cases e : s = 0
    · rw [e, h]; rfl
    · simp [e]
theorem ct_X8_says {sh : List fm_S} {E : fm_E} {s : Nat} {T : Int64} {M : fm_M} (hs : s < 64) : fm_C sh E mX8_says 0 [.long T, .int (nI s)] M (fun r M' => r = some (.int (fm_ib (fm_bit T s))) ∧ M' = M) := by
  refine fm_C.of (by decide +kernel) (Nat.le_of_ble_eq_true rfl) ?_
  intro X hE hR hB
  subst hE
  have hB : fm_B _ X cX8_says 3 RX8 (some .boolean) := hB
  refine fr_lv [some (.long T), none, some (.int (nI s))] ⟨rfl, rfl, trivial⟩ ?_
  refine fr_lload_n hB dX8_says_0 rfl rfl ?_
  refine fr_iload_n hB dX8_says_1 rfl rfl ?_
  refine fr_lushr (v := _) hB dX8_says_2 (rfl) ?_
  refine fr_lconst (v := 1) hB dX8_says_3 (by decide) ?_
  refine fr_land hB dX8_says_4 ?_
  refine fr_lconst (v := 0) hB dX8_says_5 (by decide) ?_
  refine fr_lcmp hB dX8_says_6 ?_
  have e := fm_bit_ushr T (n := s) (s := 0) hs
  rw [Nat.add_zero] at e
  refine fr_if_eq (tgt := 14) hB dX8_says_7 (by decide) (fun h => ?_) (fun h => ?_)
  · refine fr_iconst (v := nI 0) hB dX8_says_14 (by decide) ?_
    have h2 := (fm_and1 _).mp ((lg_cmp_eq _ _).mp h)
    rw [e] at h2
    exact fr_zreturn hB dX8_says_15 (by first | exact fm_nar0 | exact fm_nar1 | exact fm_nar _) (⟨by rw [h2]; rfl, rfl⟩)
  · refine fr_iconst (v := nI 1) hB dX8_says_10 (by decide) ?_
    refine fr_goto (tgt := 15) hB dX8_says_11 (by decide) ?_
    have h2 : fm_bit T s = true := by
      cases hb : fm_bit T s with
      | true => rfl
      | false => exact absurd ((lg_cmp_eq _ _).mpr ((fm_and1 _).mpr (by rw [e]; exact hb))) h
    exact fr_zreturn hB dX8_says_15 (by first | exact fm_nar0 | exact fm_nar1 | exact fm_nar _) (⟨by rw [h2]; rfl, rfl⟩)
theorem ct_X3_ifWorks {sh : List fm_S} {E : fm_E} {p : Nat} {T : Int64} {M : fm_M} (hp : p < 6) : fm_C sh E mX3_ifWorks 0 [.long T, .int (nI p)] M (fun r M' => r = some (.long (fm_iw T p)) ∧ M' = M) := by
  refine fm_C.of (by decide +kernel) (Nat.le_of_ble_eq_true rfl) ?_
  intro X hE hR hB
  subst hE
  have hB : fm_B _ X cX3_ifWorks 5 RX3 (some .long) := hB
  refine fr_lv [some (.long T), none, some (.int (nI p)), none, none] ⟨rfl, rfl, trivial⟩ ?_
  refine fr_iload_n hB dX3_ifWorks_0 rfl rfl ?_
  refine fr_if_ltN (tgt := 12) hB dX3_ifWorks_1 (by decide) (by omega) ?_
  refine fr_iload_n hB dX3_ifWorks_4 rfl rfl ?_
  refine fr_getPT hB dX3_ifWorks_5 lg_X3_90 (fun tp hT => ?_)
  refine fr_PTlen hB hT dX3_ifWorks_8 ?_
  refine fr_icmp_ltN (tgt := 14) hB dX3_ifWorks_9 (by decide) (by omega) (by omega) (fun h2 => ?_) (fun h2 => ?_)
  · refine fr_lload_n hB dX3_ifWorks_14 rfl rfl ?_
    refine fr_getPT hB dX3_ifWorks_15 lg_X3_90 (fun tp hT => ?_)
    refine fr_iload_n hB dX3_ifWorks_18 rfl rfl ?_
    refine fr_PTld hB (_) hT dX3_ifWorks_19 (rfl) (by omega) ?_
    refine fr_ldc2 (v := -1) hB dX3_ifWorks_20 lc_X3_85 ?_
    refine fr_lxor hB dX3_ifWorks_23 ?_
    refine fr_land hB dX3_ifWorks_24 ?_
    refine fr_lstore_n hB dX3_ifWorks_25 rfl (by decide) rfl ?_
    refine fr_lload_n hB dX3_ifWorks_26 rfl rfl ?_
    refine fr_lload_n hB dX3_ifWorks_27 rfl rfl ?_
    refine fr_iconst (v := nI 1) hB dX3_ifWorks_28 (by decide) ?_
    refine fr_iload_n hB dX3_ifWorks_29 rfl rfl ?_
    refine fr_ishl hB dX3_ifWorks_30 ?_
    refine fr_eqi (nI (2 ^ p)) (fm_shl1 (by omega)) ?_
    refine fr_lshl (v := _) hB dX3_ifWorks_31 (rfl) ?_
    refine fr_lor hB dX3_ifWorks_32 ?_
    exact fr_lreturn hB dX3_ifWorks_33 (⟨rfl, rfl⟩)
  · exact absurd h2 (by omega)
theorem ct_X3_ifFails {sh : List fm_S} {E : fm_E} {p : Nat} {T : Int64} {M : fm_M} (hp : p < 6) : fm_C sh E mX3_ifFails 0 [.long T, .int (nI p)] M (fun r M' => r = some (.long (fm_if T p)) ∧ M' = M) := by
  refine fm_C.of (by decide +kernel) (Nat.le_of_ble_eq_true rfl) ?_
  intro X hE hR hB
  subst hE
  have hB : fm_B _ X cX3_ifFails 5 RX3 (some .long) := hB
  refine fr_lv [some (.long T), none, some (.int (nI p)), none, none] ⟨rfl, rfl, trivial⟩ ?_
  refine fr_iload_n hB dX3_ifFails_0 rfl rfl ?_
  refine fr_if_ltN (tgt := 12) hB dX3_ifFails_1 (by decide) (by omega) ?_
  refine fr_iload_n hB dX3_ifFails_4 rfl rfl ?_
  refine fr_getPT hB dX3_ifFails_5 lg_X3_90 (fun tp hT => ?_)
  refine fr_PTlen hB hT dX3_ifFails_8 ?_
  refine fr_icmp_ltN (tgt := 14) hB dX3_ifFails_9 (by decide) (by omega) (by omega) (fun h2 => ?_) (fun h2 => ?_)
  · refine fr_lload_n hB dX3_ifFails_14 rfl rfl ?_
    refine fr_getPT hB dX3_ifFails_15 lg_X3_90 (fun tp hT => ?_)
    refine fr_iload_n hB dX3_ifFails_18 rfl rfl ?_
    refine fr_PTld hB (_) hT dX3_ifFails_19 (rfl) (by omega) ?_
    refine fr_land hB dX3_ifFails_20 ?_
    refine fr_lstore_n hB dX3_ifFails_21 rfl (by decide) rfl ?_
    refine fr_lload_n hB dX3_ifFails_22 rfl rfl ?_
    refine fr_lload_n hB dX3_ifFails_23 rfl rfl ?_
    refine fr_iconst (v := nI 1) hB dX3_ifFails_24 (by decide) ?_
    refine fr_iload_n hB dX3_ifFails_25 rfl rfl ?_
    refine fr_ishl hB dX3_ifFails_26 ?_
    refine fr_eqi (nI (2 ^ p)) (fm_shl1 (by omega)) ?_
    refine fr_lushr (v := _) hB dX3_ifFails_27 (rfl) ?_
    refine fr_lor hB dX3_ifFails_28 ?_
    exact fr_lreturn hB dX3_ifFails_29 (⟨rfl, rfl⟩)
  · exact absurd h2 (by omega)
