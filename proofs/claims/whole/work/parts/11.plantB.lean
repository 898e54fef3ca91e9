/-! ===== FaultGraph$Plant: places, what is told of parts, gates, causes ===== -/
theorem ct_X3_placeOf {sh : List fm_S} {E : fm_E} {k a : Nat} {P : fm_P} {M : fm_M} (hs : fm_Pl sh k) (hr : fm_PR k P M) (hw : fm_wf P) (ha : a < P 0 0) : fm_C sh E mX3_placeOf 0 [.ref (E.2.1 k), .int (nI a)] M (fun r M' => r = some (.int (nI (fm_pos (P 2) a))) ∧ M' = M) := by
  have h6 := hw.p6
  obtain ⟨p1, p2⟩ := hw.ord.pos h6 ha
  have p3 := fun j (h : j < fm_pos (P 2) a) => fm_pos_before (P 2) a h
  have ob := hw.ord.1
  generalize hj0 : fm_pos (P 2) a = j0 at p1 p2 p3
  refine fm_C.of (by decide +kernel) (Nat.le_of_ble_eq_true rfl) ?_
  intro X hE hR hB
  subst hE
  have hB : fm_B _ X cX3_placeOf 3 RX3 (some .int) := hB
  refine fr_lv [some (.ref (fm_rh X k)), some (.int (nI a)), none] ⟨rfl, rfl, trivial⟩ ?_
  refine fr_iconst (v := nI 0) hB dX3_placeOf_0 (by decide) ?_
  refine fr_istore_n hB dX3_placeOf_1 rfl (by decide) rfl ?_
  have loop : ∀ d i : Nat, i + d = j0 → fm_W sh X 3 2 [some (.ref (fm_rh X k)), some (.int (nI a)), some (.int (nI i))] [] M (fm_Q sh X (fun r M' => r = some (.int (nI j0)) ∧ M' = M)) := by
    intro d
    induction d using Nat.strongRecOn with
    | ind d ih =>
      intro i hi
      have hbi := ob i (by omega)
      refine fr_iload_n hB dX3_placeOf_2 rfl rfl ?_
      refine fr_aload_n hB dX3_placeOf_3 rfl rfl ?_
      refine fr_getI hB dX3_placeOf_4 lf_X3_47 hs.o rfl ?_
      refine fr_eqi _ (hr.parts) ?_
      refine fr_icmp_geN (tgt := 28) hB dX3_placeOf_7 (by decide) (by omega) (by omega) (fun h => ?_) (fun h => ?_)
      · exact absurd h (by omega)
      · refine fr_aload_n hB dX3_placeOf_10 rfl rfl ?_
        refine fr_getR hB dX3_placeOf_11 lf_X3_15 hs.o rfl ?_
        refine fr_iload_n hB dX3_placeOf_14 rfl rfl ?_
        refine fr_iald hB (_) dX3_placeOf_15 hs.a2 (rfl) (by omega) (by decide) ?_
        refine fr_eqi _ (hr.order _ (by omega)) ?_
        refine fr_iload_n hB dX3_placeOf_16 rfl rfl ?_
        refine fr_icmp_neN (tgt := 22) hB dX3_placeOf_17 (by decide) (by omega) (by omega) (fun h3 => ?_) (fun h3 => ?_)
        · refine fr_iincN (b := 1) hB dX3_placeOf_22 rfl (by decide) (by decide) rfl ?_
          refine fr_goto (tgt := 2) hB dX3_placeOf_25 (by decide) ?_
          have hne : i ≠ j0 := fun q => h3 (by rw [q]; exact p2)
          exact ih (d - 1) (by omega) (i + 1) (by omega)
        · refine fr_iload_n hB dX3_placeOf_20 rfl rfl ?_
          have he : i = j0 := by
            rcases Nat.lt_or_ge i j0 with q | q
            · exact absurd h3 (p3 i q)
            · omega
          exact fr_ireturn hB dX3_placeOf_21 (⟨by rw [he], rfl⟩)
  exact loop j0 0 (by omega)
def fm_ofPart (P : fm_P) (n w : Int32) : Int32 := if fm_lt n (P 0 0) then (if w = nI 0 then nI (P 1 n.toNatClampNeg) else if w = nI 1 then nI (fm_pos (P 2) n.toNatClampNeg) else -1) else -1
theorem ct_X3_ofPart {sh : List fm_S} {E : fm_E} {k : Nat} {n w : Int32} {P : fm_P} {M : fm_M} (hs : fm_Pl sh k) (hr : fm_PR k P M) (hw : fm_wf P) : fm_C sh E mX3_ofPart 1 [.ref (E.2.1 k), .int n, .int w] M (fun r M' => r = some (.int (fm_ofPart P n w)) ∧ M' = M) := by
  have h6 := hw.p6
  refine fm_C.of (by decide +kernel) (Nat.le_of_ble_eq_true rfl) ?_
  intro X hE hR hB
  subst hE
  have hB : fm_B _ X cX3_ofPart 3 RX3 (some .int) := hB
  refine fr_lv [some (.ref (fm_rh X k)), some (.int n), some (.int w)] ⟨rfl, rfl, rfl, trivial⟩ ?_
  refine fr_aload_n hB dX3_ofPart_0 rfl rfl ?_
  refine fr_iload_n hB dX3_ofPart_1 rfl rfl ?_
  refine fr_callV hB _ _ dX3_ofPart_2 lm_X3_50 hs.o (ct_X3_hasPart hs hr.parts) rfl rfl (Nat.le_of_ble_eq_true rfl) (fm_room hR (by decide) (by decide)) ?_
  rintro _ M9 ⟨rfl, hM9⟩
  rw [hM9]
  clear hM9 M9
  refine fr_ret1 ?_
  refine fr_if_neB (tgt := 10) hB dX3_ofPart_5 (by decide) (fun h => ?_) (fun h => ?_)
  · obtain ⟨a, ha, rfl⟩ := fm_lt_of (by omega) h
    refine fr_iload_n hB dX3_ofPart_10 rfl rfl ?_
    by_cases h0 : w = nI 0
    · subst h0
      refine fr_lookup (tgt := 36) (off := 25) hB dX3_ofPart_11 (by decide) (by decide) (by decide) ?_
      refine fr_aload_n hB dX3_ofPart_36 rfl rfl ?_
      refine fr_getR hB dX3_ofPart_37 lf_X3_9 hs.o rfl ?_
      refine fr_iload_n hB dX3_ofPart_40 rfl rfl ?_
      refine fr_iald hB (_) dX3_ofPart_41 hs.a1 (rfl) (by omega) (by decide) ?_
      refine fr_eqi _ (hr.odds _ (by omega)) ?_
      exact fr_ireturn hB dX3_ofPart_42 (⟨by simp [fm_ofPart, h, nI_clamp (show a < 2 ^ 31 by omega)], rfl⟩)
    · by_cases h1 : w = nI 1
      · subst h1
        refine fr_lookup (tgt := 43) (off := 32) hB dX3_ofPart_11 (by decide) (by decide) (by decide) ?_
        refine fr_aload_n hB dX3_ofPart_43 rfl rfl ?_
        refine fr_iload_n hB dX3_ofPart_44 rfl rfl ?_
        refine fr_callV hB _ _ dX3_ofPart_45 lm_X3_60 hs.o (ct_X3_placeOf hs hr hw ha) rfl rfl (Nat.le_of_ble_eq_true rfl) (fm_room hR (by decide) (by decide)) ?_
        rintro _ M9 ⟨rfl, hM9⟩
        rw [hM9]
        clear hM9 M9
        refine fr_ret1 ?_
        exact fr_ireturn hB dX3_ofPart_48 (⟨by simp [fm_ofPart, h, nI_clamp (show a < 2 ^ 31 by omega), show ¬ nI 1 = nI 0 by decide], rfl⟩)
      · refine fr_lookup (tgt := 49) (off := 38) hB dX3_ofPart_11 (by decide) (by rw [lv_osw h0 (by decide), lv_osw h1 (by decide)]; rfl) (by decide) ?_
        refine fr_iconst (v := -1) hB dX3_ofPart_49 (by decide) ?_
        exact fr_ireturn hB dX3_ofPart_50 (⟨by simp [fm_ofPart, h, h0, h1], rfl⟩)
  · refine fr_iconst (v := -1) hB dX3_ofPart_8 (by decide) ?_
    exact fr_ireturn hB dX3_ofPart_9 (⟨by simp [fm_ofPart, h], rfl⟩)
def fm_ofCause (P : fm_P) (n w : Int32) : Int32 := if fm_lt n (P 9 0) then (if w = nI 0 then nI (P 10 n.toNatClampNeg) else if w = nI 1 then nI (P 11 n.toNatClampNeg) else -1) else -1
theorem ct_X3_ofCause {sh : List fm_S} {E : fm_E} {k : Nat} {n w : Int32} {P : fm_P} {M : fm_M} (hs : fm_Pl sh k) (hr : fm_PR k P M) (hw : fm_wf P) : fm_C sh E mX3_ofCause 1 [.ref (E.2.1 k), .int n, .int w] M (fun r M' => r = some (.int (fm_ofCause P n w)) ∧ M' = M) := by
  have h6 := hw.c3
  refine fm_C.of (by decide +kernel) (Nat.le_of_ble_eq_true rfl) ?_
  intro X hE hR hB
  subst hE
  have hB : fm_B _ X cX3_ofCause 3 RX3 (some .int) := hB
  refine fr_lv [some (.ref (fm_rh X k)), some (.int n), some (.int w)] ⟨rfl, rfl, rfl, trivial⟩ ?_
  refine fr_aload_n hB dX3_ofCause_0 rfl rfl ?_
  refine fr_iload_n hB dX3_ofCause_1 rfl rfl ?_
  refine fr_callV hB _ _ dX3_ofCause_2 lm_X3_67 hs.o (ct_X3_hasCause hs hr.causes) rfl rfl (Nat.le_of_ble_eq_true rfl) (fm_room hR (by decide) (by decide)) ?_
  rintro _ M9 ⟨rfl, hM9⟩
  rw [hM9]
  clear hM9 M9
  refine fr_ret1 ?_
  refine fr_if_neB (tgt := 10) hB dX3_ofCause_5 (by decide) (fun h => ?_) (fun h => ?_)
  · obtain ⟨a, ha, rfl⟩ := fm_lt_of (by omega) h
    refine fr_iload_n hB dX3_ofCause_10 rfl rfl ?_
    by_cases h0 : w = nI 0
    · subst h0
      refine fr_lookup (tgt := 36) (off := 25) hB dX3_ofCause_11 (by decide) (by decide) (by decide) ?_
      refine fr_aload_n hB dX3_ofCause_36 rfl rfl ?_
      refine fr_getR hB dX3_ofCause_37 lf_X3_34 hs.o rfl ?_
      refine fr_iload_n hB dX3_ofCause_40 rfl rfl ?_
      refine fr_iald hB (_) dX3_ofCause_41 hs.a7 (rfl) (by omega) (by decide) ?_
      refine fr_eqi _ (hr.codds _ (by omega)) ?_
      exact fr_ireturn hB dX3_ofCause_42 (⟨by simp [fm_ofCause, h, nI_clamp (show a < 2 ^ 31 by omega)], rfl⟩)
    · by_cases h1 : w = nI 1
      · subst h1
        refine fr_lookup (tgt := 43) (off := 32) hB dX3_ofCause_11 (by decide) (by decide) (by decide) ?_
        refine fr_aload_n hB dX3_ofCause_43 rfl rfl ?_
        refine fr_getR hB dX3_ofCause_44 lf_X3_37 hs.o rfl ?_
        refine fr_iload_n hB dX3_ofCause_47 rfl rfl ?_
        refine fr_iald hB (_) dX3_ofCause_48 hs.a8 (rfl) (by omega) (by decide) ?_
        refine fr_eqi _ (hr.cbits _ (by omega)) ?_
        exact fr_ireturn hB dX3_ofCause_49 (⟨by simp [fm_ofCause, h, nI_clamp (show a < 2 ^ 31 by omega), show ¬ nI 1 = nI 0 by decide], rfl⟩)
      · refine fr_lookup (tgt := 50) (off := 39) hB dX3_ofCause_11 (by decide) (by rw [lv_osw h0 (by decide), lv_osw h1 (by decide)]; rfl) (by decide) ?_
        refine fr_iconst (v := -1) hB dX3_ofCause_50 (by decide) ?_
        exact fr_ireturn hB dX3_ofCause_51 (⟨by simp [fm_ofCause, h, h0, h1], rfl⟩)
  · refine fr_iconst (v := -1) hB dX3_ofCause_8 (by decide) ?_
    exact fr_ireturn hB dX3_ofCause_9 (⟨by simp [fm_ofCause, h], rfl⟩)
/-- of the gate a what w -/
def fm_ofG (P : fm_P) (a : Nat) (w : Int32) : Int32 := if w = nI 0 then nI (P 4 a) else if w = nI 1 then nI (P 5 a) else if w = nI 2 then nI (P 6 a) else if fm_lt (w - nI 3) (P 6 a) then nI (P 7 (4 * a + (w.toNatClampNeg - 3))) else -1
def fm_ofGate (P : fm_P) (n w : Int32) : Int32 := if fm_lt n (P 3 0) then fm_ofG P n.toNatClampNeg w else -1
theorem fm_ofG_neg (P : fm_P) {a : Nat} (h4 : P 6 a ≤ 4) {w : Int32} (h : w < 0) : fm_ofG P a w = -1 := by
  have e : ∀ i : Nat, i < 2 ^ 31 → ¬ w = nI i := fun i hi q => by rw [q] at h; exact nI_pos hi h
  have h3 : fm_lt (w - nI 3) (P 6 a) = false := by
    cases hb : fm_lt (w - nI 3) (P 6 a) with
    | false => rfl
    | true =>
      obtain ⟨i, hi, he⟩ := fm_lt_of (by omega) hb
      have : w = nI (i + 3) := by rw [← nI_add, ← he]; exact (Int32.sub_add_cancel _ _).symm
      exact absurd this (e _ (by omega))
  simp [fm_ofG, e 0 (by decide), e 1 (by decide), e 2 (by decide), h3]
theorem fm_ofG_big (P : fm_P) {a : Nat} (h4 : P 6 a ≤ 4) {b : Nat} (hb : b < 2 ^ 31) (h : 7 ≤ b) : fm_ofG P a (nI b) = -1 := by
  have e : ∀ i : Nat, i < 7 → ¬ nI b = nI i := fun i hi q => by have := (nI_eq hb (by omega)).mp q; omega
  have h3 : fm_lt (nI b - nI 3) (P 6 a) = false := by
    rw [nI_sub (by omega), fm_lt_nat (by omega) (by omega)]
    simp; omega
  simp [fm_ofG, e 0 (by decide), e 1 (by decide), e 2 (by decide), h3]
theorem ct_X3_ofGate {sh : List fm_S} {E : fm_E} {k : Nat} {n w : Int32} {P : fm_P} {M : fm_M} (hs : fm_Pl sh k) (hr : fm_PR k P M) (hw : fm_wf P) : fm_C sh E mX3_ofGate 1 [.ref (E.2.1 k), .int n, .int w] M (fun r M' => r = some (.int (fm_ofGate P n w)) ∧ M' = M) := by
  have h6 := hw.g8
  refine fm_C.of (by decide +kernel) (Nat.le_of_ble_eq_true rfl) ?_
  intro X hE hR hB
  subst hE
  have hB : fm_B _ X cX3_ofGate 4 RX3 (some .int) := hB
  refine fr_lv [some (.ref (fm_rh X k)), some (.int n), some (.int w), none] ⟨rfl, rfl, rfl, trivial⟩ ?_
  refine fr_aload_n hB dX3_ofGate_0 rfl rfl ?_
  refine fr_iload_n hB dX3_ofGate_1 rfl rfl ?_
  refine fr_callV hB _ _ dX3_ofGate_2 lm_X3_64 hs.o (ct_X3_hasGate hs hr.gates) rfl rfl (Nat.le_of_ble_eq_true rfl) (fm_room hR (by decide) (by decide)) ?_
  rintro _ M9 ⟨rfl, hM9⟩
  rw [hM9]
  clear hM9 M9
  refine fr_ret1 ?_
  refine fr_if_eqB (tgt := 18) hB dX3_ofGate_5 (by decide) (fun h => ?_) (fun h => ?_)
  · refine fr_iconst (v := -1) hB dX3_ofGate_18 (by decide) ?_
    exact fr_ireturn hB dX3_ofGate_19 (⟨by simp [fm_ofGate, h], rfl⟩)
  · obtain ⟨a, ha, rfl⟩ := fm_lt_of (by omega) h
    have hi4 := hw.i4 a
    have hca : (nI a).toNatClampNeg = a := nI_clamp (by omega)
    refine fr_iload_n hB dX3_ofGate_8 rfl rfl ?_
    refine fr_if_lt (tgt := 18) hB dX3_ofGate_9 (by decide) (fun h1 => ?_) (fun h1 => ?_)
    · refine fr_iconst (v := -1) hB dX3_ofGate_18 (by decide) ?_
      exact fr_ireturn hB dX3_ofGate_19 (⟨by rw [fm_ofGate, if_pos h, hca, fm_ofG_neg P hi4 h1], rfl⟩)
    · obtain ⟨b, hb, rfl⟩ := nI_of h1
      refine fr_iload_n hB dX3_ofGate_12 rfl rfl ?_
      refine fr_bipush (v := nI 7) hB dX3_ofGate_13 (by decide) ?_
      refine fr_icmp_ltN (tgt := 20) hB dX3_ofGate_15 (by decide) (by omega) (by omega) (fun h2 => ?_) (fun h2 => ?_)
      · refine fr_iload_n hB dX3_ofGate_20 rfl rfl ?_
        rcases (show b = 0 ∨ b = 1 ∨ b = 2 ∨ 3 ≤ b by omega) with rfl | rfl | rfl | h3
        · refine fr_tableIn (tgt := 48) hB dX3_ofGate_21 (by decide) (by decide) (by rfl) (by decide) ?_
          refine fr_aload_n hB dX3_ofGate_48 rfl rfl ?_
          refine fr_getR hB dX3_ofGate_49 lf_X3_18 hs.o rfl ?_
          refine fr_iload_n hB dX3_ofGate_52 rfl rfl ?_
          refine fr_iald hB (_) dX3_ofGate_53 hs.a3 (rfl) (by omega) (by decide) ?_
          refine fr_eqi _ (hr.kind _ (by omega)) ?_
          exact fr_ireturn hB dX3_ofGate_54 (⟨by rw [fm_ofGate, if_pos h, hca, fm_ofG, if_pos rfl], rfl⟩)
        · refine fr_tableIn (tgt := 55) hB dX3_ofGate_21 (by decide) (by decide) (by rfl) (by decide) ?_
          refine fr_aload_n hB dX3_ofGate_55 rfl rfl ?_
          refine fr_getR hB dX3_ofGate_56 lf_X3_21 hs.o rfl ?_
          refine fr_iload_n hB dX3_ofGate_59 rfl rfl ?_
          refine fr_iald hB (_) dX3_ofGate_60 hs.a4 (rfl) (by omega) (by decide) ?_
          refine fr_eqi _ (hr.need _ (by omega)) ?_
          exact fr_ireturn hB dX3_ofGate_61 (⟨by rw [fm_ofGate, if_pos h, hca, fm_ofG, if_neg (by decide), if_pos rfl], rfl⟩)
        · refine fr_tableIn (tgt := 62) hB dX3_ofGate_21 (by decide) (by decide) (by rfl) (by decide) ?_
          refine fr_aload_n hB dX3_ofGate_62 rfl rfl ?_
          refine fr_getR hB dX3_ofGate_63 lf_X3_27 hs.o rfl ?_
          refine fr_iload_n hB dX3_ofGate_66 rfl rfl ?_
          refine fr_iald hB (_) dX3_ofGate_67 hs.a6 (rfl) (by omega) (by decide) ?_
          refine fr_eqi _ (hr.cnt _ (by omega)) ?_
          exact fr_ireturn hB dX3_ofGate_68 (⟨by rw [fm_ofGate, if_pos h, hca, fm_ofG, if_neg (by decide), if_neg (by decide), if_pos rfl], rfl⟩)
        · have hb7 : (nI b).toInt = (b : Int) := nI_toInt hb
          refine fr_tableOut (tgt := 69) hB dX3_ofGate_21 (Or.inr (by rw [hb7]; omega)) (by decide) ?_
          have e : ∀ i : Nat, i < 3 → ¬ nI b = nI i := fun i hi q => by have := (nI_eq hb (by omega)).mp q; omega
          have e3 : fm_lt (nI b - nI 3) (P 6 a) = decide (b - 3 < P 6 a) := by rw [nI_sub h3, fm_lt_nat (by omega) (by omega)]
          have e4 : fm_ofGate P (nI a) (nI b) = if b - 3 < P 6 a then nI (P 7 (4 * a + (b - 3))) else -1 := by
            rw [fm_ofGate, if_pos h, hca, fm_ofG, if_neg (e 0 (by decide)), if_neg (e 1 (by decide)), if_neg (e 2 (by decide)), e3, nI_clamp hb]
            simp
          refine fr_iload_n hB dX3_ofGate_69 rfl rfl ?_
          refine fr_iconst (v := nI 3) hB dX3_ofGate_70 (by decide) ?_
          refine fr_isubN hB dX3_ofGate_71 (h3) ?_
          refine fr_istore_n hB dX3_ofGate_72 rfl (by decide) rfl ?_
          refine fr_iload_n hB dX3_ofGate_73 rfl rfl ?_
          refine fr_aload_n hB dX3_ofGate_74 rfl rfl ?_
          refine fr_getR hB dX3_ofGate_75 lf_X3_27 hs.o rfl ?_
          refine fr_iload_n hB dX3_ofGate_78 rfl rfl ?_
          refine fr_iald hB (_) dX3_ofGate_79 hs.a6 (rfl) (by omega) (by decide) ?_
          refine fr_eqi _ (hr.cnt _ (by omega)) ?_
          refine fr_icmp_geN (tgt := 96) hB dX3_ofGate_80 (by decide) (by omega) (by omega) (fun h4 => ?_) (fun h4 => ?_)
          · refine fr_iconst (v := -1) hB dX3_ofGate_96 (by decide) ?_
            exact fr_ireturn hB dX3_ofGate_97 (⟨by rw [e4, if_neg (by omega)], rfl⟩)
          · refine fr_aload_n hB dX3_ofGate_83 rfl rfl ?_
            refine fr_getR hB dX3_ofGate_84 lf_X3_24 hs.o rfl ?_
            refine fr_iload_n hB dX3_ofGate_87 rfl rfl ?_
            refine fr_iconst (v := nI 4) hB dX3_ofGate_88 (by decide) ?_
            refine fr_imulN hB dX3_ofGate_89 ?_
            refine fr_iload_n hB dX3_ofGate_90 rfl rfl ?_
            refine fr_iaddN hB dX3_ofGate_91 ?_
            refine fr_iald hB (_) dX3_ofGate_92 hs.a5 (rfl) (by omega) (by decide) ?_
            refine fr_eqi (nI (P 7 (4 * a + (b - 3)))) (by rw [hr.inp _ (by omega), Nat.mul_comm]) ?_
            refine fr_goto (tgt := 97) hB dX3_ofGate_93 (by decide) ?_
            exact fr_ireturn hB dX3_ofGate_97 (⟨by rw [e4, if_pos (by omega)], rfl⟩)
      · refine fr_iconst (v := -1) hB dX3_ofGate_18 (by decide) ?_
        exact fr_ireturn hB dX3_ofGate_19 (⟨by rw [fm_ofGate, if_pos h, hca, fm_ofG_big P hi4 hb h2], rfl⟩)
/-- what an event does to the numbers -/
def fm_ev (M : fm_M) (k w n : Nat) : fm_M := if w = 0 then fm_pi M (k + 1) n (nI 0) else if w = 1 then fm_pi M (k + 1) n (nI 100) else if w = 2 then fm_pi M (k + 3) n (nI 0) else fm_pi M (k + 3) n (nI 1)
theorem ct_X3_undergo {sh : List fm_S} {E : fm_E} {k w n c g : Nat} {M : fm_M} (hs : fm_Pl sh k) (hw : w < 4) (hc : M.1 k 2 = nI c) (hg : M.1 k 7 = nI g) (hc6 : c ≤ 6) (hg8 : g ≤ 8) (hn : (w < 2 → n < c) ∧ (2 ≤ w → n < g)) : fm_C sh E mX3_undergo 1 [.ref (E.2.1 k), .int (nI w), .int (nI n)] M (fun r M' => r = none ∧ M' = fm_ev M k w n) := by
  have hn1 := hn.1
  have hn2 := hn.2
  have hn8 : n < 8 := by omega
  refine fm_C.of (by decide +kernel) (Nat.le_of_ble_eq_true rfl) ?_
  intro X hE hR hB
  subst hE
  have hB : fm_B _ X cX3_undergo 3 RX3 none := hB
  refine fr_lv [some (.ref (fm_rh X k)), some (.int (nI w)), some (.int (nI n))] ⟨rfl, rfl, rfl, trivial⟩ ?_
  refine fr_iload_n hB dX3_undergo_0 rfl rfl ?_
  refine fr_iconst (v := nI 1) hB dX3_undergo_1 (by decide) ?_
  refine fr_icmp_gtN (tgt := 32) hB dX3_undergo_2 (by decide) (by omega) (by omega) (fun h => ?_) (fun h => ?_)
  · refine fr_iload_n hB dX3_undergo_32 rfl rfl ?_
    refine fr_iconst (v := nI 2) hB dX3_undergo_33 (by decide) ?_
    refine fr_icmp_ltN (tgt := 61) hB dX3_undergo_34 (by decide) (by omega) (by omega) (fun h2 => ?_) (fun h2 => ?_)
    · exact absurd h2 (by omega)
    · have hn3 := hn2 h2
      refine fr_aload_n hB dX3_undergo_37 rfl rfl ?_
      refine fr_iload_n hB dX3_undergo_38 rfl rfl ?_
      refine fr_callV hB _ _ dX3_undergo_39 lm_X3_64 hs.o (ct_X3_hasGate hs hg) rfl rfl (Nat.le_of_ble_eq_true rfl) (fm_room hR (by decide) (by decide)) ?_
      rintro _ M9 ⟨rfl, hM9⟩
      rw [hM9]
      clear hM9 M9
      refine fr_ret1 ?_
      refine fr_if_eqB (tgt := 61) hB dX3_undergo_42 (by decide) (fun h3 => ?_) (fun h3 => ?_)
      · exact absurd h3 (by rw [fm_lt_nat (by omega) (by omega)]; simp; omega)
      · refine fr_aload_n hB dX3_undergo_45 rfl rfl ?_
        refine fr_getR hB dX3_undergo_46 lf_X3_18 hs.o rfl ?_
        refine fr_iload_n hB dX3_undergo_49 rfl rfl ?_
        refine fr_iload_n hB dX3_undergo_50 rfl rfl ?_
        refine fr_iconst (v := nI 2) hB dX3_undergo_51 (by decide) ?_
        refine fr_icmp_neN (tgt := 59) hB dX3_undergo_52 (by decide) (by omega) (by omega) (fun h4 => ?_) (fun h4 => ?_)
        · refine fr_iconst (v := nI 1) hB dX3_undergo_59 (by decide) ?_
          refine fr_iast hB (_) dX3_undergo_60 hs.a3 (rfl) (by omega) (by decide) ?_
          exact fr_return hB dX3_undergo_61 (⟨rfl, by rw [fm_ev, if_neg (by omega), if_neg (by omega), if_neg h4]⟩)
        · refine fr_iconst (v := nI 0) hB dX3_undergo_55 (by decide) ?_
          refine fr_goto (tgt := 60) hB dX3_undergo_56 (by decide) ?_
          refine fr_iast hB (_) dX3_undergo_60 hs.a3 (rfl) (by omega) (by decide) ?_
          exact fr_return hB dX3_undergo_61 (⟨rfl, by rw [fm_ev, if_neg (by omega), if_neg (by omega), if_pos h4]⟩)
  · have hn3 := hn1 (by omega)
    refine fr_aload_n hB dX3_undergo_5 rfl rfl ?_
    refine fr_iload_n hB dX3_undergo_6 rfl rfl ?_
    refine fr_callV hB _ _ dX3_undergo_7 lm_X3_50 hs.o (ct_X3_hasPart hs hc) rfl rfl (Nat.le_of_ble_eq_true rfl) (fm_room hR (by decide) (by decide)) ?_
    rintro _ M9 ⟨rfl, hM9⟩
    rw [hM9]
    clear hM9 M9
    refine fr_ret1 ?_
    refine fr_if_eqB (tgt := 32) hB dX3_undergo_10 (by decide) (fun h3 => ?_) (fun h3 => ?_)
    · exact absurd h3 (by rw [fm_lt_nat (by omega) (by omega)]; simp; omega)
    · refine fr_aload_n hB dX3_undergo_13 rfl rfl ?_
      refine fr_getR hB dX3_undergo_14 lf_X3_9 hs.o rfl ?_
      refine fr_iload_n hB dX3_undergo_17 rfl rfl ?_
      refine fr_iload_n hB dX3_undergo_18 rfl rfl ?_
      refine fr_if_neN (tgt := 26) hB dX3_undergo_19 (by decide) (by omega) (fun h4 => ?_) (fun h4 => ?_)
      · refine fr_bipush (v := nI 100) hB dX3_undergo_26 (by decide) ?_
        refine fr_iast hB (_) dX3_undergo_28 hs.a1 (rfl) (by omega) (by decide) ?_
        refine fr_goto (tgt := 61) hB dX3_undergo_29 (by decide) ?_
        exact fr_return hB dX3_undergo_61 (⟨rfl, by rw [fm_ev, if_neg (by omega), if_pos (by omega)]⟩)
      · refine fr_iconst (v := nI 0) hB dX3_undergo_22 (by decide) ?_
        refine fr_goto (tgt := 28) hB dX3_undergo_23 (by decide) ?_
        refine fr_iast hB (_) dX3_undergo_28 hs.a1 (rfl) (by omega) (by decide) ?_
        refine fr_goto (tgt := 61) hB dX3_undergo_29 (by decide) ?_
        exact fr_return hB dX3_undergo_61 (⟨rfl, by rw [fm_ev, if_pos h4]⟩)
