/-! ===== copies of plants and states ===== -/
theorem ct_X3_copyFrom_43_2 {E : fm_E} {P : fm_P} {M : fm_M} (hr : fm_PR 2 P M) : fm_C shC E mX3_copyFrom 1 [.ref (E.2.1 43), .ref (E.2.1 2)] M (fun r M' => r = none ∧ fm_PR 43 P M' ∧ (∀ a, a < 43 ∨ 43 + 10 < a → M'.1 a = M.1 a) ∧ M'.2 = M.2) := by
  refine fm_C.of (by decide +kernel) (Nat.le_of_ble_eq_true rfl) ?_
  intro X hE hR hB
  subst hE
  have hB : fm_B _ X cX3_copyFrom 2 RX3 none := hB
  refine fr_lv [some (.ref (fm_rh X 43)), some (.ref (fm_rh X 2))] ⟨rfl, rfl, trivial⟩ ?_
  refine fr_aload_n hB dX3_copyFrom_0 rfl rfl ?_
  refine fr_getR hB dX3_copyFrom_1 lf_X3_9 rfl rfl ?_
  refine fr_iconst (v := nI 0) hB dX3_copyFrom_4 (by decide) ?_
  refine fr_aload_n hB dX3_copyFrom_5 rfl rfl ?_
  refine fr_getR hB dX3_copyFrom_6 lf_X3_9 rfl rfl ?_
  refine fr_iconst (v := nI 0) hB dX3_copyFrom_9 (by decide) ?_
  refine fr_bipush (v := nI 6) hB dX3_copyFrom_10 (by decide) ?_
  refine fr_copyi hB (0) (0) (6) dX3_copyFrom_12 la_X3_93 rfl rfl rfl rfl rfl (by decide) (by decide) (by decide) (by decide) (Nat.le_of_ble_eq_true rfl) (fm_roomC hR (by decide)) ?_
  refine fr_aload_n hB dX3_copyFrom_15 rfl rfl ?_
  refine fr_getR hB dX3_copyFrom_16 lf_X3_15 rfl rfl ?_
  refine fr_iconst (v := nI 0) hB dX3_copyFrom_19 (by decide) ?_
  refine fr_aload_n hB dX3_copyFrom_20 rfl rfl ?_
  refine fr_getR hB dX3_copyFrom_21 lf_X3_15 rfl rfl ?_
  refine fr_iconst (v := nI 0) hB dX3_copyFrom_24 (by decide) ?_
  refine fr_bipush (v := nI 6) hB dX3_copyFrom_25 (by decide) ?_
  refine fr_copyi hB (0) (0) (6) dX3_copyFrom_27 la_X3_93 rfl rfl rfl rfl rfl (by decide) (by decide) (by decide) (by decide) (Nat.le_of_ble_eq_true rfl) (fm_roomC hR (by decide)) ?_
  refine fr_aload_n hB dX3_copyFrom_30 rfl rfl ?_
  refine fr_aload_n hB dX3_copyFrom_31 rfl rfl ?_
  refine fr_getI hB dX3_copyFrom_32 lf_X3_47 rfl rfl ?_
  refine fr_putI hB dX3_copyFrom_35 lp_X3_47 rfl rfl ?_
  refine fr_aload_n hB dX3_copyFrom_38 rfl rfl ?_
  refine fr_getR hB dX3_copyFrom_39 lf_X3_18 rfl rfl ?_
  refine fr_iconst (v := nI 0) hB dX3_copyFrom_42 (by decide) ?_
  refine fr_aload_n hB dX3_copyFrom_43 rfl rfl ?_
  refine fr_getR hB dX3_copyFrom_44 lf_X3_18 rfl rfl ?_
  refine fr_iconst (v := nI 0) hB dX3_copyFrom_47 (by decide) ?_
  refine fr_bipush (v := nI 8) hB dX3_copyFrom_48 (by decide) ?_
  refine fr_copyi hB (0) (0) (8) dX3_copyFrom_50 la_X3_93 rfl rfl rfl rfl rfl (by decide) (by decide) (by decide) (by decide) (Nat.le_of_ble_eq_true rfl) (fm_roomC hR (by decide)) ?_
  refine fr_aload_n hB dX3_copyFrom_53 rfl rfl ?_
  refine fr_getR hB dX3_copyFrom_54 lf_X3_21 rfl rfl ?_
  refine fr_iconst (v := nI 0) hB dX3_copyFrom_57 (by decide) ?_
  refine fr_aload_n hB dX3_copyFrom_58 rfl rfl ?_
  refine fr_getR hB dX3_copyFrom_59 lf_X3_21 rfl rfl ?_
  refine fr_iconst (v := nI 0) hB dX3_copyFrom_62 (by decide) ?_
  refine fr_bipush (v := nI 8) hB dX3_copyFrom_63 (by decide) ?_
  refine fr_copyi hB (0) (0) (8) dX3_copyFrom_65 la_X3_93 rfl rfl rfl rfl rfl (by decide) (by decide) (by decide) (by decide) (Nat.le_of_ble_eq_true rfl) (fm_roomC hR (by decide)) ?_
  refine fr_aload_n hB dX3_copyFrom_68 rfl rfl ?_
  refine fr_getR hB dX3_copyFrom_69 lf_X3_24 rfl rfl ?_
  refine fr_iconst (v := nI 0) hB dX3_copyFrom_72 (by decide) ?_
  refine fr_aload_n hB dX3_copyFrom_73 rfl rfl ?_
  refine fr_getR hB dX3_copyFrom_74 lf_X3_24 rfl rfl ?_
  refine fr_iconst (v := nI 0) hB dX3_copyFrom_77 (by decide) ?_
  refine fr_bipush (v := nI 32) hB dX3_copyFrom_78 (by decide) ?_
  refine fr_copyi hB (0) (0) (32) dX3_copyFrom_80 la_X3_93 rfl rfl rfl rfl rfl (by decide) (by decide) (by decide) (by decide) (Nat.le_of_ble_eq_true rfl) (fm_roomC hR (by decide)) ?_
  refine fr_aload_n hB dX3_copyFrom_83 rfl rfl ?_
  refine fr_getR hB dX3_copyFrom_84 lf_X3_27 rfl rfl ?_
  refine fr_iconst (v := nI 0) hB dX3_copyFrom_87 (by decide) ?_
  refine fr_aload_n hB dX3_copyFrom_88 rfl rfl ?_
  refine fr_getR hB dX3_copyFrom_89 lf_X3_27 rfl rfl ?_
  refine fr_iconst (v := nI 0) hB dX3_copyFrom_92 (by decide) ?_
  refine fr_bipush (v := nI 8) hB dX3_copyFrom_93 (by decide) ?_
  refine fr_copyi hB (0) (0) (8) dX3_copyFrom_95 la_X3_93 rfl rfl rfl rfl rfl (by decide) (by decide) (by decide) (by decide) (Nat.le_of_ble_eq_true rfl) (fm_roomC hR (by decide)) ?_
  refine fr_aload_n hB dX3_copyFrom_98 rfl rfl ?_
  refine fr_aload_n hB dX3_copyFrom_99 rfl rfl ?_
  refine fr_getI hB dX3_copyFrom_100 lf_X3_54 rfl rfl ?_
  refine fr_putI hB dX3_copyFrom_103 lp_X3_54 rfl rfl ?_
  refine fr_aload_n hB dX3_copyFrom_106 rfl rfl ?_
  refine fr_aload_n hB dX3_copyFrom_107 rfl rfl ?_
  refine fr_getI hB dX3_copyFrom_108 lf_X3_30 rfl rfl ?_
  refine fr_putI hB dX3_copyFrom_111 lp_X3_30 rfl rfl ?_
  refine fr_aload_n hB dX3_copyFrom_114 rfl rfl ?_
  refine fr_getR hB dX3_copyFrom_115 lf_X3_34 rfl rfl ?_
  refine fr_iconst (v := nI 0) hB dX3_copyFrom_118 (by decide) ?_
  refine fr_aload_n hB dX3_copyFrom_119 rfl rfl ?_
  refine fr_getR hB dX3_copyFrom_120 lf_X3_34 rfl rfl ?_
  refine fr_iconst (v := nI 0) hB dX3_copyFrom_123 (by decide) ?_
  refine fr_iconst (v := nI 3) hB dX3_copyFrom_124 (by decide) ?_
  refine fr_copyi hB (0) (0) (3) dX3_copyFrom_125 la_X3_93 rfl rfl rfl rfl rfl (by decide) (by decide) (by decide) (by decide) (Nat.le_of_ble_eq_true rfl) (fm_roomC hR (by decide)) ?_
  refine fr_aload_n hB dX3_copyFrom_128 rfl rfl ?_
  refine fr_getR hB dX3_copyFrom_129 lf_X3_37 rfl rfl ?_
  refine fr_iconst (v := nI 0) hB dX3_copyFrom_132 (by decide) ?_
  refine fr_aload_n hB dX3_copyFrom_133 rfl rfl ?_
  refine fr_getR hB dX3_copyFrom_134 lf_X3_37 rfl rfl ?_
  refine fr_iconst (v := nI 0) hB dX3_copyFrom_137 (by decide) ?_
  refine fr_iconst (v := nI 3) hB dX3_copyFrom_138 (by decide) ?_
  refine fr_copyi hB (0) (0) (3) dX3_copyFrom_139 la_X3_93 rfl rfl rfl rfl rfl (by decide) (by decide) (by decide) (by decide) (Nat.le_of_ble_eq_true rfl) (fm_roomC hR (by decide)) ?_
  refine fr_aload_n hB dX3_copyFrom_142 rfl rfl ?_
  refine fr_aload_n hB dX3_copyFrom_143 rfl rfl ?_
  refine fr_getI hB dX3_copyFrom_144 lf_X3_57 rfl rfl ?_
  refine fr_putI hB dX3_copyFrom_147 lp_X3_57 rfl rfl ?_
  refine fr_return hB dX3_copyFrom_150 ⟨rfl, ⟨?_, fun j hj => ?_, fun j hj => ?_, ?_, fun j hj => ?_, fun j hj => ?_, fun j hj => ?_, fun j hj => ?_, ?_, ?_, fun j hj => ?_, fun j hj => ?_⟩, fun a ha => ?_, rfl⟩
  · simpa [fm_row, fm_u, va_cpy] using hr.parts
  · simpa [fm_row, fm_u, va_cpy, hj] using hr.odds j hj
  · simpa [fm_row, fm_u, va_cpy, hj] using hr.order j hj
  · simpa [fm_row, fm_u, va_cpy] using hr.gates
  · simpa [fm_row, fm_u, va_cpy, hj] using hr.kind j hj
  · simpa [fm_row, fm_u, va_cpy, hj] using hr.need j hj
  · simpa [fm_row, fm_u, va_cpy, hj] using hr.cnt j hj
  · simpa [fm_row, fm_u, va_cpy, hj] using hr.inp j hj
  · simpa [fm_row, fm_u, va_cpy] using hr.top
  · simpa [fm_row, fm_u, va_cpy] using hr.causes
  · simpa [fm_row, fm_u, va_cpy, hj] using hr.codds j hj
  · simpa [fm_row, fm_u, va_cpy, hj] using hr.cbits j hj
  · have e0 : ¬ a = 43 := by omega
    have e1 : ¬ a = 43 + 1 := by omega
    have e2 : ¬ a = 43 + 2 := by omega
    have e3 : ¬ a = 43 + 3 := by omega
    have e4 : ¬ a = 43 + 4 := by omega
    have e5 : ¬ a = 43 + 5 := by omega
    have e6 : ¬ a = 43 + 6 := by omega
    have e7 : ¬ a = 43 + 7 := by omega
    have e8 : ¬ a = 43 + 8 := by omega
    simp only [Nat.reduceAdd] at e1 e2 e3 e4 e5 e6 e7 e8
    simp [fm_row, fm_u, e0, e1, e2, e3, e4, e5, e6, e7, e8]
theorem ct_X3_copyFrom_23_2 {E : fm_E} {P : fm_P} {M : fm_M} (hr : fm_PR 2 P M) : fm_C shC E mX3_copyFrom 1 [.ref (E.2.1 23), .ref (E.2.1 2)] M (fun r M' => r = none ∧ fm_PR 23 P M' ∧ (∀ a, a < 23 ∨ 23 + 10 < a → M'.1 a = M.1 a) ∧ M'.2 = M.2) := by
  refine fm_C.of (by decide +kernel) (Nat.le_of_ble_eq_true rfl) ?_
  intro X hE hR hB
  subst hE
  have hB : fm_B _ X cX3_copyFrom 2 RX3 none := hB
  refine fr_lv [some (.ref (fm_rh X 23)), some (.ref (fm_rh X 2))] ⟨rfl, rfl, trivial⟩ ?_
  refine fr_aload_n hB dX3_copyFrom_0 rfl rfl ?_
  refine fr_getR hB dX3_copyFrom_1 lf_X3_9 rfl rfl ?_
  refine fr_iconst (v := nI 0) hB dX3_copyFrom_4 (by decide) ?_
  refine fr_aload_n hB dX3_copyFrom_5 rfl rfl ?_
  refine fr_getR hB dX3_copyFrom_6 lf_X3_9 rfl rfl ?_
  refine fr_iconst (v := nI 0) hB dX3_copyFrom_9 (by decide) ?_
  refine fr_bipush (v := nI 6) hB dX3_copyFrom_10 (by decide) ?_
  refine fr_copyi hB (0) (0) (6) dX3_copyFrom_12 la_X3_93 rfl rfl rfl rfl rfl (by decide) (by decide) (by decide) (by decide) (Nat.le_of_ble_eq_true rfl) (fm_roomC hR (by decide)) ?_
  refine fr_aload_n hB dX3_copyFrom_15 rfl rfl ?_
  refine fr_getR hB dX3_copyFrom_16 lf_X3_15 rfl rfl ?_
  refine fr_iconst (v := nI 0) hB dX3_copyFrom_19 (by decide) ?_
  refine fr_aload_n hB dX3_copyFrom_20 rfl rfl ?_
  refine fr_getR hB dX3_copyFrom_21 lf_X3_15 rfl rfl ?_
  refine fr_iconst (v := nI 0) hB dX3_copyFrom_24 (by decide) ?_
  refine fr_bipush (v := nI 6) hB dX3_copyFrom_25 (by decide) ?_
  refine fr_copyi hB (0) (0) (6) dX3_copyFrom_27 la_X3_93 rfl rfl rfl rfl rfl (by decide) (by decide) (by decide) (by decide) (Nat.le_of_ble_eq_true rfl) (fm_roomC hR (by decide)) ?_
  refine fr_aload_n hB dX3_copyFrom_30 rfl rfl ?_
  refine fr_aload_n hB dX3_copyFrom_31 rfl rfl ?_
  refine fr_getI hB dX3_copyFrom_32 lf_X3_47 rfl rfl ?_
  refine fr_putI hB dX3_copyFrom_35 lp_X3_47 rfl rfl ?_
  refine fr_aload_n hB dX3_copyFrom_38 rfl rfl ?_
  refine fr_getR hB dX3_copyFrom_39 lf_X3_18 rfl rfl ?_
  refine fr_iconst (v := nI 0) hB dX3_copyFrom_42 (by decide) ?_
  refine fr_aload_n hB dX3_copyFrom_43 rfl rfl ?_
  refine fr_getR hB dX3_copyFrom_44 lf_X3_18 rfl rfl ?_
  refine fr_iconst (v := nI 0) hB dX3_copyFrom_47 (by decide) ?_
  refine fr_bipush (v := nI 8) hB dX3_copyFrom_48 (by decide) ?_
  refine fr_copyi hB (0) (0) (8) dX3_copyFrom_50 la_X3_93 rfl rfl rfl rfl rfl (by decide) (by decide) (by decide) (by decide) (Nat.le_of_ble_eq_true rfl) (fm_roomC hR (by decide)) ?_
  refine fr_aload_n hB dX3_copyFrom_53 rfl rfl ?_
  refine fr_getR hB dX3_copyFrom_54 lf_X3_21 rfl rfl ?_
  refine fr_iconst (v := nI 0) hB dX3_copyFrom_57 (by decide) ?_
  refine fr_aload_n hB dX3_copyFrom_58 rfl rfl ?_
  refine fr_getR hB dX3_copyFrom_59 lf_X3_21 rfl rfl ?_
  refine fr_iconst (v := nI 0) hB dX3_copyFrom_62 (by decide) ?_
  refine fr_bipush (v := nI 8) hB dX3_copyFrom_63 (by decide) ?_
  refine fr_copyi hB (0) (0) (8) dX3_copyFrom_65 la_X3_93 rfl rfl rfl rfl rfl (by decide) (by decide) (by decide) (by decide) (Nat.le_of_ble_eq_true rfl) (fm_roomC hR (by decide)) ?_
  refine fr_aload_n hB dX3_copyFrom_68 rfl rfl ?_
  refine fr_getR hB dX3_copyFrom_69 lf_X3_24 rfl rfl ?_
  refine fr_iconst (v := nI 0) hB dX3_copyFrom_72 (by decide) ?_
  refine fr_aload_n hB dX3_copyFrom_73 rfl rfl ?_
  refine fr_getR hB dX3_copyFrom_74 lf_X3_24 rfl rfl ?_
  refine fr_iconst (v := nI 0) hB dX3_copyFrom_77 (by decide) ?_
  refine fr_bipush (v := nI 32) hB dX3_copyFrom_78 (by decide) ?_
  refine fr_copyi hB (0) (0) (32) dX3_copyFrom_80 la_X3_93 rfl rfl rfl rfl rfl (by decide) (by decide) (by decide) (by decide) (Nat.le_of_ble_eq_true rfl) (fm_roomC hR (by decide)) ?_
  refine fr_aload_n hB dX3_copyFrom_83 rfl rfl ?_
  refine fr_getR hB dX3_copyFrom_84 lf_X3_27 rfl rfl ?_
  refine fr_iconst (v := nI 0) hB dX3_copyFrom_87 (by decide) ?_
  refine fr_aload_n hB dX3_copyFrom_88 rfl rfl ?_
  refine fr_getR hB dX3_copyFrom_89 lf_X3_27 rfl rfl ?_
  refine fr_iconst (v := nI 0) hB dX3_copyFrom_92 (by decide) ?_
  refine fr_bipush (v := nI 8) hB dX3_copyFrom_93 (by decide) ?_
  refine fr_copyi hB (0) (0) (8) dX3_copyFrom_95 la_X3_93 rfl rfl rfl rfl rfl (by decide) (by decide) (by decide) (by decide) (Nat.le_of_ble_eq_true rfl) (fm_roomC hR (by decide)) ?_
  refine fr_aload_n hB dX3_copyFrom_98 rfl rfl ?_
  refine fr_aload_n hB dX3_copyFrom_99 rfl rfl ?_
  refine fr_getI hB dX3_copyFrom_100 lf_X3_54 rfl rfl ?_
  refine fr_putI hB dX3_copyFrom_103 lp_X3_54 rfl rfl ?_
  refine fr_aload_n hB dX3_copyFrom_106 rfl rfl ?_
  refine fr_aload_n hB dX3_copyFrom_107 rfl rfl ?_
  refine fr_getI hB dX3_copyFrom_108 lf_X3_30 rfl rfl ?_
  refine fr_putI hB dX3_copyFrom_111 lp_X3_30 rfl rfl ?_
  refine fr_aload_n hB dX3_copyFrom_114 rfl rfl ?_
  refine fr_getR hB dX3_copyFrom_115 lf_X3_34 rfl rfl ?_
  refine fr_iconst (v := nI 0) hB dX3_copyFrom_118 (by decide) ?_
  refine fr_aload_n hB dX3_copyFrom_119 rfl rfl ?_
  refine fr_getR hB dX3_copyFrom_120 lf_X3_34 rfl rfl ?_
  refine fr_iconst (v := nI 0) hB dX3_copyFrom_123 (by decide) ?_
  refine fr_iconst (v := nI 3) hB dX3_copyFrom_124 (by decide) ?_
  refine fr_copyi hB (0) (0) (3) dX3_copyFrom_125 la_X3_93 rfl rfl rfl rfl rfl (by decide) (by decide) (by decide) (by decide) (Nat.le_of_ble_eq_true rfl) (fm_roomC hR (by decide)) ?_
  refine fr_aload_n hB dX3_copyFrom_128 rfl rfl ?_
  refine fr_getR hB dX3_copyFrom_129 lf_X3_37 rfl rfl ?_
  refine fr_iconst (v := nI 0) hB dX3_copyFrom_132 (by decide) ?_
  refine fr_aload_n hB dX3_copyFrom_133 rfl rfl ?_
  refine fr_getR hB dX3_copyFrom_134 lf_X3_37 rfl rfl ?_
  refine fr_iconst (v := nI 0) hB dX3_copyFrom_137 (by decide) ?_
  refine fr_iconst (v := nI 3) hB dX3_copyFrom_138 (by decide) ?_
  refine fr_copyi hB (0) (0) (3) dX3_copyFrom_139 la_X3_93 rfl rfl rfl rfl rfl (by decide) (by decide) (by decide) (by decide) (Nat.le_of_ble_eq_true rfl) (fm_roomC hR (by decide)) ?_
  refine fr_aload_n hB dX3_copyFrom_142 rfl rfl ?_
  refine fr_aload_n hB dX3_copyFrom_143 rfl rfl ?_
  refine fr_getI hB dX3_copyFrom_144 lf_X3_57 rfl rfl ?_
  refine fr_putI hB dX3_copyFrom_147 lp_X3_57 rfl rfl ?_
  refine fr_return hB dX3_copyFrom_150 ⟨rfl, ⟨?_, fun j hj => ?_, fun j hj => ?_, ?_, fun j hj => ?_, fun j hj => ?_, fun j hj => ?_, fun j hj => ?_, ?_, ?_, fun j hj => ?_, fun j hj => ?_⟩, fun a ha => ?_, rfl⟩
  · simpa [fm_row, fm_u, va_cpy] using hr.parts
  · simpa [fm_row, fm_u, va_cpy, hj] using hr.odds j hj
  · simpa [fm_row, fm_u, va_cpy, hj] using hr.order j hj
  · simpa [fm_row, fm_u, va_cpy] using hr.gates
  · simpa [fm_row, fm_u, va_cpy, hj] using hr.kind j hj
  · simpa [fm_row, fm_u, va_cpy, hj] using hr.need j hj
  · simpa [fm_row, fm_u, va_cpy, hj] using hr.cnt j hj
  · simpa [fm_row, fm_u, va_cpy, hj] using hr.inp j hj
  · simpa [fm_row, fm_u, va_cpy] using hr.top
  · simpa [fm_row, fm_u, va_cpy] using hr.causes
  · simpa [fm_row, fm_u, va_cpy, hj] using hr.codds j hj
  · simpa [fm_row, fm_u, va_cpy, hj] using hr.cbits j hj
  · have e0 : ¬ a = 23 := by omega
    have e1 : ¬ a = 23 + 1 := by omega
    have e2 : ¬ a = 23 + 2 := by omega
    have e3 : ¬ a = 23 + 3 := by omega
    have e4 : ¬ a = 23 + 4 := by omega
    have e5 : ¬ a = 23 + 5 := by omega
    have e6 : ¬ a = 23 + 6 := by omega
    have e7 : ¬ a = 23 + 7 := by omega
    have e8 : ¬ a = 23 + 8 := by omega
    simp only [Nat.reduceAdd] at e1 e2 e3 e4 e5 e6 e7 e8
    simp [fm_row, fm_u, e0, e1, e2, e3, e4, e5, e6, e7, e8]
theorem ct_X3_copyFrom_2_23 {E : fm_E} {P : fm_P} {M : fm_M} (hr : fm_PR 23 P M) : fm_C shC E mX3_copyFrom 1 [.ref (E.2.1 2), .ref (E.2.1 23)] M (fun r M' => r = none ∧ fm_PR 2 P M' ∧ (∀ a, a < 2 ∨ 2 + 10 < a → M'.1 a = M.1 a) ∧ M'.2 = M.2) := by
  refine fm_C.of (by decide +kernel) (Nat.le_of_ble_eq_true rfl) ?_
  intro X hE hR hB
  subst hE
  have hB : fm_B _ X cX3_copyFrom 2 RX3 none := hB
  refine fr_lv [some (.ref (fm_rh X 2)), some (.ref (fm_rh X 23))] ⟨rfl, rfl, trivial⟩ ?_
  refine fr_aload_n hB dX3_copyFrom_0 rfl rfl ?_
  refine fr_getR hB dX3_copyFrom_1 lf_X3_9 rfl rfl ?_
  refine fr_iconst (v := nI 0) hB dX3_copyFrom_4 (by decide) ?_
  refine fr_aload_n hB dX3_copyFrom_5 rfl rfl ?_
  refine fr_getR hB dX3_copyFrom_6 lf_X3_9 rfl rfl ?_
  refine fr_iconst (v := nI 0) hB dX3_copyFrom_9 (by decide) ?_
  refine fr_bipush (v := nI 6) hB dX3_copyFrom_10 (by decide) ?_
  refine fr_copyi hB (0) (0) (6) dX3_copyFrom_12 la_X3_93 rfl rfl rfl rfl rfl (by decide) (by decide) (by decide) (by decide) (Nat.le_of_ble_eq_true rfl) (fm_roomC hR (by decide)) ?_
  refine fr_aload_n hB dX3_copyFrom_15 rfl rfl ?_
  refine fr_getR hB dX3_copyFrom_16 lf_X3_15 rfl rfl ?_
  refine fr_iconst (v := nI 0) hB dX3_copyFrom_19 (by decide) ?_
  refine fr_aload_n hB dX3_copyFrom_20 rfl rfl ?_
  refine fr_getR hB dX3_copyFrom_21 lf_X3_15 rfl rfl ?_
  refine fr_iconst (v := nI 0) hB dX3_copyFrom_24 (by decide) ?_
  refine fr_bipush (v := nI 6) hB dX3_copyFrom_25 (by decide) ?_
  refine fr_copyi hB (0) (0) (6) dX3_copyFrom_27 la_X3_93 rfl rfl rfl rfl rfl (by decide) (by decide) (by decide) (by decide) (Nat.le_of_ble_eq_true rfl) (fm_roomC hR (by decide)) ?_
  refine fr_aload_n hB dX3_copyFrom_30 rfl rfl ?_
  refine fr_aload_n hB dX3_copyFrom_31 rfl rfl ?_
  refine fr_getI hB dX3_copyFrom_32 lf_X3_47 rfl rfl ?_
  refine fr_putI hB dX3_copyFrom_35 lp_X3_47 rfl rfl ?_
  refine fr_aload_n hB dX3_copyFrom_38 rfl rfl ?_
  refine fr_getR hB dX3_copyFrom_39 lf_X3_18 rfl rfl ?_
  refine fr_iconst (v := nI 0) hB dX3_copyFrom_42 (by decide) ?_
  refine fr_aload_n hB dX3_copyFrom_43 rfl rfl ?_
  refine fr_getR hB dX3_copyFrom_44 lf_X3_18 rfl rfl ?_
  refine fr_iconst (v := nI 0) hB dX3_copyFrom_47 (by decide) ?_
  refine fr_bipush (v := nI 8) hB dX3_copyFrom_48 (by decide) ?_
  refine fr_copyi hB (0) (0) (8) dX3_copyFrom_50 la_X3_93 rfl rfl rfl rfl rfl (by decide) (by decide) (by decide) (by decide) (Nat.le_of_ble_eq_true rfl) (fm_roomC hR (by decide)) ?_
  refine fr_aload_n hB dX3_copyFrom_53 rfl rfl ?_
  refine fr_getR hB dX3_copyFrom_54 lf_X3_21 rfl rfl ?_
  refine fr_iconst (v := nI 0) hB dX3_copyFrom_57 (by decide) ?_
  refine fr_aload_n hB dX3_copyFrom_58 rfl rfl ?_
  refine fr_getR hB dX3_copyFrom_59 lf_X3_21 rfl rfl ?_
  refine fr_iconst (v := nI 0) hB dX3_copyFrom_62 (by decide) ?_
  refine fr_bipush (v := nI 8) hB dX3_copyFrom_63 (by decide) ?_
  refine fr_copyi hB (0) (0) (8) dX3_copyFrom_65 la_X3_93 rfl rfl rfl rfl rfl (by decide) (by decide) (by decide) (by decide) (Nat.le_of_ble_eq_true rfl) (fm_roomC hR (by decide)) ?_
  refine fr_aload_n hB dX3_copyFrom_68 rfl rfl ?_
  refine fr_getR hB dX3_copyFrom_69 lf_X3_24 rfl rfl ?_
  refine fr_iconst (v := nI 0) hB dX3_copyFrom_72 (by decide) ?_
  refine fr_aload_n hB dX3_copyFrom_73 rfl rfl ?_
  refine fr_getR hB dX3_copyFrom_74 lf_X3_24 rfl rfl ?_
  refine fr_iconst (v := nI 0) hB dX3_copyFrom_77 (by decide) ?_
  refine fr_bipush (v := nI 32) hB dX3_copyFrom_78 (by decide) ?_
  refine fr_copyi hB (0) (0) (32) dX3_copyFrom_80 la_X3_93 rfl rfl rfl rfl rfl (by decide) (by decide) (by decide) (by decide) (Nat.le_of_ble_eq_true rfl) (fm_roomC hR (by decide)) ?_
  refine fr_aload_n hB dX3_copyFrom_83 rfl rfl ?_
  refine fr_getR hB dX3_copyFrom_84 lf_X3_27 rfl rfl ?_
  refine fr_iconst (v := nI 0) hB dX3_copyFrom_87 (by decide) ?_
  refine fr_aload_n hB dX3_copyFrom_88 rfl rfl ?_
  refine fr_getR hB dX3_copyFrom_89 lf_X3_27 rfl rfl ?_
  refine fr_iconst (v := nI 0) hB dX3_copyFrom_92 (by decide) ?_
  refine fr_bipush (v := nI 8) hB dX3_copyFrom_93 (by decide) ?_
  refine fr_copyi hB (0) (0) (8) dX3_copyFrom_95 la_X3_93 rfl rfl rfl rfl rfl (by decide) (by decide) (by decide) (by decide) (Nat.le_of_ble_eq_true rfl) (fm_roomC hR (by decide)) ?_
  refine fr_aload_n hB dX3_copyFrom_98 rfl rfl ?_
  refine fr_aload_n hB dX3_copyFrom_99 rfl rfl ?_
  refine fr_getI hB dX3_copyFrom_100 lf_X3_54 rfl rfl ?_
  refine fr_putI hB dX3_copyFrom_103 lp_X3_54 rfl rfl ?_
  refine fr_aload_n hB dX3_copyFrom_106 rfl rfl ?_
  refine fr_aload_n hB dX3_copyFrom_107 rfl rfl ?_
  refine fr_getI hB dX3_copyFrom_108 lf_X3_30 rfl rfl ?_
  refine fr_putI hB dX3_copyFrom_111 lp_X3_30 rfl rfl ?_
  refine fr_aload_n hB dX3_copyFrom_114 rfl rfl ?_
  refine fr_getR hB dX3_copyFrom_115 lf_X3_34 rfl rfl ?_
  refine fr_iconst (v := nI 0) hB dX3_copyFrom_118 (by decide) ?_
  refine fr_aload_n hB dX3_copyFrom_119 rfl rfl ?_
  refine fr_getR hB dX3_copyFrom_120 lf_X3_34 rfl rfl ?_
  refine fr_iconst (v := nI 0) hB dX3_copyFrom_123 (by decide) ?_
  refine fr_iconst (v := nI 3) hB dX3_copyFrom_124 (by decide) ?_
  refine fr_copyi hB (0) (0) (3) dX3_copyFrom_125 la_X3_93 rfl rfl rfl rfl rfl (by decide) (by decide) (by decide) (by decide) (Nat.le_of_ble_eq_true rfl) (fm_roomC hR (by decide)) ?_
  refine fr_aload_n hB dX3_copyFrom_128 rfl rfl ?_
  refine fr_getR hB dX3_copyFrom_129 lf_X3_37 rfl rfl ?_
  refine fr_iconst (v := nI 0) hB dX3_copyFrom_132 (by decide) ?_
  refine fr_aload_n hB dX3_copyFrom_133 rfl rfl ?_
  refine fr_getR hB dX3_copyFrom_134 lf_X3_37 rfl rfl ?_
  refine fr_iconst (v := nI 0) hB dX3_copyFrom_137 (by decide) ?_
  refine fr_iconst (v := nI 3) hB dX3_copyFrom_138 (by decide) ?_
  refine fr_copyi hB (0) (0) (3) dX3_copyFrom_139 la_X3_93 rfl rfl rfl rfl rfl (by decide) (by decide) (by decide) (by decide) (Nat.le_of_ble_eq_true rfl) (fm_roomC hR (by decide)) ?_
  refine fr_aload_n hB dX3_copyFrom_142 rfl rfl ?_
  refine fr_aload_n hB dX3_copyFrom_143 rfl rfl ?_
  refine fr_getI hB dX3_copyFrom_144 lf_X3_57 rfl rfl ?_
  refine fr_putI hB dX3_copyFrom_147 lp_X3_57 rfl rfl ?_
  refine fr_return hB dX3_copyFrom_150 ⟨rfl, ⟨?_, fun j hj => ?_, fun j hj => ?_, ?_, fun j hj => ?_, fun j hj => ?_, fun j hj => ?_, fun j hj => ?_, ?_, ?_, fun j hj => ?_, fun j hj => ?_⟩, fun a ha => ?_, rfl⟩
  · simpa [fm_row, fm_u, va_cpy] using hr.parts
  · simpa [fm_row, fm_u, va_cpy, hj] using hr.odds j hj
  · simpa [fm_row, fm_u, va_cpy, hj] using hr.order j hj
  · simpa [fm_row, fm_u, va_cpy] using hr.gates
  · simpa [fm_row, fm_u, va_cpy, hj] using hr.kind j hj
  · simpa [fm_row, fm_u, va_cpy, hj] using hr.need j hj
  · simpa [fm_row, fm_u, va_cpy, hj] using hr.cnt j hj
  · simpa [fm_row, fm_u, va_cpy, hj] using hr.inp j hj
  · simpa [fm_row, fm_u, va_cpy] using hr.top
  · simpa [fm_row, fm_u, va_cpy] using hr.causes
  · simpa [fm_row, fm_u, va_cpy, hj] using hr.codds j hj
  · simpa [fm_row, fm_u, va_cpy, hj] using hr.cbits j hj
  · have e0 : ¬ a = 2 := by omega
    have e1 : ¬ a = 2 + 1 := by omega
    have e2 : ¬ a = 2 + 2 := by omega
    have e3 : ¬ a = 2 + 3 := by omega
    have e4 : ¬ a = 2 + 4 := by omega
    have e5 : ¬ a = 2 + 5 := by omega
    have e6 : ¬ a = 2 + 6 := by omega
    have e7 : ¬ a = 2 + 7 := by omega
    have e8 : ¬ a = 2 + 8 := by omega
    simp only [Nat.reduceAdd] at e1 e2 e3 e4 e5 e6 e7 e8
    simp [fm_row, fm_u, e0, e1, e2, e3, e4, e5, e6, e7, e8]
