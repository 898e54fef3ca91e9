/-! ===== FaultGraph$Plant: the gates' tables ===== -/
theorem fm_PR.l {k : Nat} {P : fm_P} {M : fm_M} (h : fm_PR k P M) (L : Nat → Nat → Int64) : fm_PR k P (M.1, L) := h
/-- the tables of the gates ahead of g stand -/
def fm_GT (k : Nat) (P : fm_P) (g : Nat) (M : fm_M) : Prop := ∀ q, q < g → ∀ s, s < 64 → fm_bit (M.2 (k + 9) q) s = fm_down P q s
theorem fm_GT.row {k : Nat} {P : fm_P} {g : Nat} {M : fm_M} (h : fm_GT k P g M) (A : Nat → Int64) : fm_GT k P g (M.1, fm_row M.2 (k + 10) A) := by
  intro q hq s hs
  show fm_bit (fm_row M.2 (k + 10) A (k + 9) q) s = _
  rw [fm_row_ne _ _ (by omega)]
  exact h q hq s hs
theorem ct_X3_inputTable {sh : List fm_S} {E : fm_E} {k g x : Nat} {P : fm_P} {M : fm_M} (hs : fm_Pl sh k) (hr : fm_PR k P M) (hw : fm_wf P) (hg : g ≤ P 3 0) (hx : x < P 0 0 ∨ (10 ≤ x ∧ x < 10 + g)) (hG : fm_GT k P g M) : fm_C sh E mX3_inputTable 0 [.ref (E.2.1 k), .int (nI x)] M (fun r M' => (∃ T, r = some (.long T) ∧ ∀ s, s < 64 → fm_bit T s = fm_in1 (fun q => fm_down P q s) s x) ∧ M' = M) := by
  have h6 := hw.p6
  have h8 := hw.g8
  have e10 : ∀ x : Nat, x < 10 → nI x - nI 10 < 0 := by decide
  refine fm_C.of (by decide +kernel) (Nat.le_of_ble_eq_true rfl) ?_
  intro X hE hR hB
  subst hE
  have hB : fm_B _ X cX3_inputTable 3 RX3 (some .long) := hB
  refine fr_lv [some (.ref (fm_rh X k)), some (.int (nI x)), none] ⟨rfl, rfl, trivial⟩ ?_
  by_cases h10 : 10 ≤ x
  · refine fr_iload_n hB dX3_inputTable_0 rfl rfl ?_
    refine fr_bipush (v := nI 10) hB dX3_inputTable_1 (by decide) ?_
    refine fr_isubN hB dX3_inputTable_3 (h10) ?_
    refine fr_istore_n hB dX3_inputTable_4 rfl (by decide) rfl ?_
    refine fr_iload_n hB dX3_inputTable_5 rfl rfl ?_
    refine fr_if_ltN (tgt := 28) hB dX3_inputTable_6 (by decide) (by omega) ?_
    refine fr_iload_n hB dX3_inputTable_9 rfl rfl ?_
    refine fr_aload_n hB dX3_inputTable_10 rfl rfl ?_
    refine fr_getI hB dX3_inputTable_11 lf_X3_54 hs.o rfl ?_
    refine fr_eqi _ (hr.gates) ?_
    refine fr_icmp_geN (tgt := 26) hB dX3_inputTable_14 (by decide) (by omega) (by omega) (fun h => ?_) (fun h => ?_)
    · exact absurd h (by omega)
    · refine fr_aload_n hB dX3_inputTable_17 rfl rfl ?_
      refine fr_getR hB dX3_inputTable_18 lf_X3_40 hs.o rfl ?_
      refine fr_iload_n hB dX3_inputTable_21 rfl rfl ?_
      refine fr_lald hB (_) dX3_inputTable_22 hs.a9 (rfl) (by omega) (by decide) ?_
      refine fr_goto (tgt := 27) hB dX3_inputTable_23 (by decide) ?_
      exact fr_lreturn hB dX3_inputTable_27 (⟨⟨_, rfl, fun s hs => by rw [hG _ (by omega) s hs, fm_in1, if_pos h10]⟩, rfl⟩)
  · refine fr_iload_n hB dX3_inputTable_0 rfl rfl ?_
    refine fr_bipush (v := nI 10) hB dX3_inputTable_1 (by decide) ?_
    refine fr_isub hB dX3_inputTable_3 ?_
    refine fr_istore_n hB dX3_inputTable_4 rfl (by decide) rfl ?_
    refine fr_iload_n hB dX3_inputTable_5 rfl rfl ?_
    refine fr_if_lt (tgt := 28) hB dX3_inputTable_6 (by decide) (fun h => ?_) (fun h => ?_)
    · refine fr_iload_n hB dX3_inputTable_28 rfl rfl ?_
      refine fr_if_ltN (tgt := 48) hB dX3_inputTable_29 (by decide) (by omega) ?_
      refine fr_iload_n hB dX3_inputTable_32 rfl rfl ?_
      refine fr_getPT hB dX3_inputTable_33 lg_X3_90 (fun tp hT => ?_)
      refine fr_PTlen hB hT dX3_inputTable_36 ?_
      refine fr_icmp_geN (tgt := 48) hB dX3_inputTable_37 (by decide) (by omega) (by omega) (fun h2 => ?_) (fun h2 => ?_)
      · exact absurd h2 (by omega)
      · refine fr_getPT hB dX3_inputTable_40 lg_X3_90 (fun tp hT => ?_)
        refine fr_iload_n hB dX3_inputTable_43 rfl rfl ?_
        refine fr_PTld hB (_) hT dX3_inputTable_44 (rfl) (by omega) ?_
        refine fr_goto (tgt := 49) hB dX3_inputTable_45 (by decide) ?_
        exact fr_lreturn hB dX3_inputTable_49 (⟨⟨_, rfl, fun s hs => by rw [fm_PT_bit x (by omega) s hs, fm_in1, if_neg h10]⟩, rfl⟩)
    · exact absurd (e10 x (by omega)) h
/-- how many of the gate's first i inputs fail by the set s -/
def fm_ct (P : fm_P) (g s i : Nat) : Nat := fm_cnt (fun i => fm_in1 (fun q => fm_down P q s) s (P 7 (4 * g + i))) i
theorem fm_ct_succ (P : fm_P) (g s i : Nat) : fm_ct P g s (i + 1) = fm_ct P g s i + (if fm_in1 (fun q => fm_down P q s) s (P 7 (4 * g + i)) then 1 else 0) := rfl
theorem ct_X3_countInputs {sh : List fm_S} {E : fm_E} {k g c : Nat} {P : fm_P} {M : fm_M} (hs : fm_Pl sh k) (hr : fm_PR k P M) (hw : fm_wf P) (hg : g < P 3 0) (hc : c = P 6 g) (hG : fm_GT k P g M) : fm_C sh E mX3_countInputs 1 [.ref (E.2.1 k), .int (nI g), .int (nI c)] M (fun r M' => r = none ∧ ∃ A, M' = (M.1, fm_row M.2 (k + 10) A) ∧ ∀ n, n < 5 → ∀ s, s < 64 → fm_bit (A n) s = decide (n ≤ fm_ct P g s c)) := by
  have h8 := hw.g8
  have h4 := hw.i4 g
  refine fm_C.of (by decide +kernel) (Nat.le_of_ble_eq_true rfl) ?_
  intro X hE hR hB
  subst hE
  have hB : fm_B _ X cX3_countInputs 7 RX3 none := hB
  refine fr_lv [some (.ref (fm_rh X k)), some (.int (nI g)), some (.int (nI c)), none, none, none, none] ⟨rfl, rfl, rfl, trivial⟩ ?_
  generalize hpo : (fun (r : Option Value) (M' : fm_M) => r = none ∧ ∃ A, M' = (M.1, fm_row M.2 (k + 10) A) ∧ ∀ n, n < 5 → ∀ s, s < 64 → fm_bit (A n) s = decide (n ≤ fm_ct P g s c)) = po
  have l2 : ∀ (d i : Nat) (A : Nat → Int64), i + d = c → (∀ n, n < 5 → ∀ s, s < 64 → fm_bit (A n) s = decide (n ≤ fm_ct P g s i)) → fm_W sh X 7 35 [some (.ref (fm_rh X k)), some (.int (nI g)), some (.int (nI c)), some (.int (nI i)), none, none, none] [] (M.1, fm_row M.2 (k + 10) A) (fm_Q sh X po) := by
    intro d
    induction d with
    | zero =>
      intro i A hi hA
      refine fr_iload_n hB dX3_countInputs_35 rfl rfl ?_
      refine fr_iload_n hB dX3_countInputs_36 rfl rfl ?_
      refine fr_icmp_geN (tgt := 104) hB dX3_countInputs_37 (by decide) (by omega) (by omega) (fun h => ?_) (fun h => ?_)
      · exact fr_return hB dX3_countInputs_104 (by subst hpo; exact ⟨rfl, A, rfl, fun n hn s hs => by rw [hA n hn s hs, show i = c by omega]⟩)
      · exact absurd h (by omega)
    | succ d ih =>
      intro i A hi hA
      refine fr_iload_n hB dX3_countInputs_35 rfl rfl ?_
      refine fr_iload_n hB dX3_countInputs_36 rfl rfl ?_
      refine fr_icmp_geN (tgt := 104) hB dX3_countInputs_37 (by decide) (by omega) (by omega) (fun h => ?_) (fun h => ?_)
      · exact absurd h (by omega)
      · refine fr_aload_n hB dX3_countInputs_40 rfl rfl ?_
        refine fr_aload_n hB dX3_countInputs_41 rfl rfl ?_
        refine fr_getR hB dX3_countInputs_42 lf_X3_24 hs.o rfl ?_
        refine fr_iload_n hB dX3_countInputs_45 rfl rfl ?_
        refine fr_iconst (v := nI 4) hB dX3_countInputs_46 (by decide) ?_
        refine fr_imulN hB dX3_countInputs_47 ?_
        refine fr_iload_n hB dX3_countInputs_48 rfl rfl ?_
        refine fr_iaddN hB dX3_countInputs_49 ?_
        refine fr_iald hB (_) dX3_countInputs_50 hs.a5 (rfl) (by omega) (by decide) ?_
        refine fr_eqi (nI (P 7 (4 * g + i))) (by rw [Nat.mul_comm 4 g]; exact hr.inp _ (by omega)) ?_
        refine fr_callV hB _ _ dX3_countInputs_51 lm_X3_87 hs.o (ct_X3_inputTable (g := g) hs (hr.l _) hw (by omega) (hw.inp g i hg (by omega)) (hG.row A)) rfl rfl (Nat.le_of_ble_eq_true rfl) (fm_room hR (by decide) (by decide)) ?_
        rintro _ M9 ⟨⟨T, rfl, hT⟩, hM9⟩
        rw [hM9]
        clear hM9 M9
        refine fr_ret1 ?_
        refine fr_lstore hB dX3_countInputs_54 (by decide) rfl ?_
        refine fr_aload_n hB dX3_countInputs_56 rfl rfl ?_
        refine fr_getR hB dX3_countInputs_57 lf_X3_44 hs.o rfl ?_
        refine fr_alen hB dX3_countInputs_60 hs.a10 (by decide) ?_
        refine fr_iconst (v := nI 1) hB dX3_countInputs_61 (by decide) ?_
        refine fr_isubN hB dX3_countInputs_62 (by decide) ?_
        refine fr_istore hB dX3_countInputs_63 (by decide) rfl ?_
        have l3 : ∀ (n : Nat) (A : Nat → Int64), n ≤ 4 → (∀ m, m < 5 → ∀ s, s < 64 → fm_bit (A m) s = decide (m ≤ if n < m then fm_ct P g s (i + 1) else fm_ct P g s i)) → fm_W sh X 7 65 [some (.ref (fm_rh X k)), some (.int (nI g)), some (.int (nI c)), some (.int (nI i)), some (.long T), none, some (.int (nI n))] [] (M.1, fm_row M.2 (k + 10) A) (fm_Q sh X po) := by
          intro n
          induction n with
          | zero =>
            intro A hn hA
            refine fr_iload hB dX3_countInputs_65 rfl ?_
            refine fr_if_leN (tgt := 98) hB dX3_countInputs_67 (by decide) (by omega) (fun h2 => ?_) (fun h2 => ?_)
            · refine fr_iincN (b := 1) hB dX3_countInputs_98 rfl (by decide) (by decide) rfl ?_
              refine fr_goto (tgt := 35) hB dX3_countInputs_101 (by decide) ?_
              refine fr_lv [some (.ref (fm_rh X k)), some (.int (nI g)), some (.int (nI c)), some (.int (nI (i + 1))), none, none, none] ⟨rfl, rfl, rfl, rfl, trivial⟩ ?_
              refine ih (i + 1) A (by omega) (fun m hm s hs => ?_)
              rw [hA m hm s hs]
              by_cases hm0 : 0 < m
              · rw [if_pos hm0]
              · have : m = 0 := by omega
                simp [this]
            · exact absurd h2 (by omega)
          | succ n ih3 =>
            intro A hn hA
            refine fr_iload hB dX3_countInputs_65 rfl ?_
            refine fr_if_leN (tgt := 98) hB dX3_countInputs_67 (by decide) (by omega) (fun h2 => ?_) (fun h2 => ?_)
            · exact absurd h2 (by omega)
            · refine fr_aload_n hB dX3_countInputs_70 rfl rfl ?_
              refine fr_getR hB dX3_countInputs_71 lf_X3_44 hs.o rfl ?_
              refine fr_iload hB dX3_countInputs_74 rfl ?_
              refine fr_dup2_11 hB dX3_countInputs_76 rfl rfl ?_
              refine fr_lald hB (_) dX3_countInputs_77 hs.a10 (rfl) (by omega) (by decide) ?_
              refine fr_eql (A (n + 1)) (by simp [fm_row]) ?_
              refine fr_aload_n hB dX3_countInputs_78 rfl rfl ?_
              refine fr_getR hB dX3_countInputs_79 lf_X3_44 hs.o rfl ?_
              refine fr_iload hB dX3_countInputs_82 rfl ?_
              refine fr_iconst (v := nI 1) hB dX3_countInputs_84 (by decide) ?_
              refine fr_isubN hB dX3_countInputs_85 (by omega) ?_
              refine fr_lald hB (_) dX3_countInputs_86 hs.a10 (rfl) (by omega) (by decide) ?_
              refine fr_eql (A n) (by simp [fm_row]) ?_
              refine fr_lload hB dX3_countInputs_87 rfl ?_
              refine fr_land hB dX3_countInputs_89 ?_
              refine fr_lor hB dX3_countInputs_90 ?_
              refine fr_last hB (_) dX3_countInputs_91 hs.a10 (rfl) (by omega) (by decide) ?_
              refine fr_iincP hB dX3_countInputs_92 rfl (by decide) rfl ?_
              refine fr_goto (tgt := 65) hB dX3_countInputs_95 (by decide) ?_
              refine fr_mem (M.1, fm_row M.2 (k + 10) (fun b => if b = n + 1 then A (n + 1) ||| (A n &&& T) else A b)) (fm_pl_row (fun j => rfl)) ?_
              refine ih3 _ (by omega) (fun m hm s hs => ?_)
              by_cases e : m = n + 1
              · subst e
                rw [if_pos rfl, if_pos (by omega), fm_bit_or, fm_bit_and, hA (n + 1) hm s hs, hA n (by omega) s hs, hT s hs, if_neg (by omega), if_neg (by omega), fm_ct_succ]
                cases fm_in1 (fun q => fm_down P q s) s (P 7 (4 * g + i)) with
                | true =>
                  simp
                  omega
                | false => simp
              · rw [if_neg e, hA m hm s hs]
                by_cases e2 : n < m
                · rw [if_pos (by omega), if_pos e2]
                · rw [if_neg (by omega), if_neg e2]
        refine l3 4 A (by omega) (fun m hm s hs => ?_)
        rw [hA m hm s hs, if_neg (by omega)]
  have l1 : ∀ (d n : Nat) (A : Nat → Int64), n + d = 5 → 1 ≤ n → (∀ m, m < n → ∀ s, s < 64 → fm_bit (A m) s = decide (m = 0)) → fm_W sh X 7 11 [some (.ref (fm_rh X k)), some (.int (nI g)), some (.int (nI c)), some (.int (nI n)), none, none, none] [] (M.1, fm_row M.2 (k + 10) A) (fm_Q sh X po) := by
    intro d
    induction d with
    | zero =>
      intro n A hn h1 hA
      refine fr_iload_n hB dX3_countInputs_11 rfl rfl ?_
      refine fr_aload_n hB dX3_countInputs_12 rfl rfl ?_
      refine fr_getR hB dX3_countInputs_13 lf_X3_44 hs.o rfl ?_
      refine fr_alen hB dX3_countInputs_16 hs.a10 (by decide) ?_
      refine fr_icmp_geN (tgt := 33) hB dX3_countInputs_17 (by decide) (by omega) (by omega) (fun h => ?_) (fun h => ?_)
      · refine fr_iconst (v := nI 0) hB dX3_countInputs_33 (by decide) ?_
        refine fr_istore_n hB dX3_countInputs_34 rfl (by decide) rfl ?_
        refine l2 c 0 A (by omega) (fun m hm s hs => ?_)
        rw [hA m (by omega) s hs]
        by_cases e : m = 0
        · simp [e]
        · have : ¬ m ≤ fm_ct P g s 0 := by
            show ¬ m ≤ 0
            omega
          simp [e, this]
      · exact absurd h (by omega)
    | succ d ih =>
      intro n A hn h1 hA
      refine fr_iload_n hB dX3_countInputs_11 rfl rfl ?_
      refine fr_aload_n hB dX3_countInputs_12 rfl rfl ?_
      refine fr_getR hB dX3_countInputs_13 lf_X3_44 hs.o rfl ?_
      refine fr_alen hB dX3_countInputs_16 hs.a10 (by decide) ?_
      refine fr_icmp_geN (tgt := 33) hB dX3_countInputs_17 (by decide) (by omega) (by omega) (fun h => ?_) (fun h => ?_)
      · exact absurd h (by omega)
      · refine fr_aload_n hB dX3_countInputs_20 rfl rfl ?_
        refine fr_getR hB dX3_countInputs_21 lf_X3_44 hs.o rfl ?_
        refine fr_iload_n hB dX3_countInputs_24 rfl rfl ?_
        refine fr_lconst (v := 0) hB dX3_countInputs_25 (by decide) ?_
        refine fr_last hB (_) dX3_countInputs_26 hs.a10 (rfl) (by omega) (by decide) ?_
        refine fr_iincN (b := 1) hB dX3_countInputs_27 rfl (by decide) (by decide) rfl ?_
        refine fr_goto (tgt := 11) hB dX3_countInputs_30 (by decide) ?_
        refine fr_mem (M.1, fm_row M.2 (k + 10) (fun b => if b = n then 0 else A b)) (fm_pl_row (fun j => rfl)) ?_
        refine ih (n + 1) _ (by omega) (by omega) (fun m hm s hs => ?_)
        by_cases e : m = n
        · rw [if_pos e, fm_bit_0]
          have : ¬ m = 0 := by omega
          simp [this]
        · rw [if_neg e]
          exact hA m (by omega) s hs
  refine fr_aload_n hB dX3_countInputs_0 rfl rfl ?_
  refine fr_getR hB dX3_countInputs_1 lf_X3_44 hs.o rfl ?_
  refine fr_iconst (v := nI 0) hB dX3_countInputs_4 (by decide) ?_
  refine fr_ldc2 (v := -1) hB dX3_countInputs_5 lc_X3_85 ?_
  refine fr_last hB (_) dX3_countInputs_8 hs.a10 (rfl) (by omega) (by decide) ?_
  refine fr_iconst (v := nI 1) hB dX3_countInputs_9 (by decide) ?_
  refine fr_istore_n hB dX3_countInputs_10 rfl (by decide) rfl ?_
  refine fr_mem (M.1, fm_row M.2 (k + 10) (fun b => if b = 0 then -1 else M.2 (k + 10) b)) ?_ ?_
  · show (M.1, fm_u M.2 (k + 10) 0 (-1)) = _
    rw [fm_u_row']
  · refine l1 4 1 _ (by omega) (by omega) (fun m hm s hs => ?_)
    have : m = 0 := by omega
    rw [if_pos this, fm_bit_m1 hs]
    simp [this]
theorem ct_X3_gateTable {sh : List fm_S} {E : fm_E} {k g : Nat} {P : fm_P} {M : fm_M} (hs : fm_Pl sh k) (hr : fm_PR k P M) (hw : fm_wf P) (hg : g < P 3 0) (hG : fm_GT k P g M) : fm_C sh E mX3_gateTable 2 [.ref (E.2.1 k), .int (nI g)] M (fun r M' => ∃ T A, r = some (.long T) ∧ M' = (M.1, fm_row M.2 (k + 10) A) ∧ ∀ s, s < 64 → fm_bit T s = fm_down P g s) := by
  have h8 := hw.g8
  have h4 := hw.i4 g
  have h5 := hw.n5 g
  have h2 := hw.k2 g
  refine fm_C.of (by decide +kernel) (Nat.le_of_ble_eq_true rfl) ?_
  intro X hE hR hB
  subst hE
  have hB : fm_B _ X cX3_gateTable 4 RX3 (some .long) := hB
  refine fr_lv [some (.ref (fm_rh X k)), some (.int (nI g)), none, none] ⟨rfl, rfl, trivial⟩ ?_
  refine fr_aload_n hB dX3_gateTable_0 rfl rfl ?_
  refine fr_getR hB dX3_gateTable_1 lf_X3_27 hs.o rfl ?_
  refine fr_iload_n hB dX3_gateTable_4 rfl rfl ?_
  refine fr_iald hB (_) dX3_gateTable_5 hs.a6 (rfl) (by omega) (by decide) ?_
  refine fr_eqi _ (hr.cnt _ (by omega)) ?_
  refine fr_istore_n hB dX3_gateTable_6 rfl (by decide) rfl ?_
  refine fr_aload_n hB dX3_gateTable_7 rfl rfl ?_
  refine fr_iload_n hB dX3_gateTable_8 rfl rfl ?_
  refine fr_iload_n hB dX3_gateTable_9 rfl rfl ?_
  refine fr_callV hB _ _ dX3_gateTable_10 lm_X3_81 hs.o (ct_X3_countInputs hs hr hw hg rfl hG) rfl rfl (Nat.le_of_ble_eq_true rfl) (fm_room hR (by decide) (by decide)) ?_
  rintro _ M9 ⟨rfl, A, hM9, hA⟩
  rw [hM9]
  clear hM9 M9
  refine fr_ret0 ?_
  have cut : ∀ nd : Nat, nd ≤ 5 → (∀ s, s < 64 → decide (nd ≤ fm_ct P g s (P 6 g)) = fm_down P g s) → fm_W sh X 4 46 [some (.ref (fm_rh X k)), some (.int (nI g)), some (.int (nI (P 6 g))), some (.int (nI nd))] [] (M.1, fm_row M.2 (k + 10) A) (fm_Q sh X (fun r M' => ∃ T A, r = some (.long T) ∧ M' = (M.1, fm_row M.2 (k + 10) A) ∧ ∀ s, s < 64 → fm_bit T s = fm_down P g s)) := by
    intro nd hnd hd
    refine fr_iload_n hB dX3_gateTable_46 rfl rfl ?_
    refine fr_aload_n hB dX3_gateTable_47 rfl rfl ?_
    refine fr_getR hB dX3_gateTable_48 lf_X3_44 hs.o rfl ?_
    refine fr_alen hB dX3_gateTable_51 hs.a10 (by decide) ?_
    refine fr_icmp_geN (tgt := 64) hB dX3_gateTable_52 (by decide) (by omega) (by omega) (fun h => ?_) (fun h => ?_)
    · refine fr_lconst (v := 0) hB dX3_gateTable_64 (by decide) ?_
      exact fr_lreturn hB dX3_gateTable_65 (⟨0, A, rfl, rfl, fun s hs => by rw [fm_bit_0, ← hd s hs]; have := fm_cnt_le (fun i => fm_in1 (fun q => fm_down P q s) s (P 7 (4 * g + i))) (P 6 g); have : ¬ nd ≤ fm_ct P g s (P 6 g) := by { unfold fm_ct; omega }; simp [this]⟩)
    · refine fr_aload_n hB dX3_gateTable_55 rfl rfl ?_
      refine fr_getR hB dX3_gateTable_56 lf_X3_44 hs.o rfl ?_
      refine fr_iload_n hB dX3_gateTable_59 rfl rfl ?_
      refine fr_lald hB (_) dX3_gateTable_60 hs.a10 (rfl) (by omega) (by decide) ?_
      refine fr_eql (A nd) (by simp [fm_row]) ?_
      refine fr_goto (tgt := 65) hB dX3_gateTable_61 (by decide) ?_
      exact fr_lreturn hB dX3_gateTable_65 (⟨A nd, A, rfl, rfl, fun s hs => by rw [hA nd h s hs, hd s hs]⟩)
  have hle : ∀ s, fm_ct P g s (P 6 g) ≤ P 6 g := fun s => fm_cnt_le _ _
  have hdn : ∀ s, fm_down P g s = fm_by P g (fm_ct P g s (P 6 g)) := fun s => fm_down_eq hw hg s
  refine fr_aload_n hB dX3_gateTable_13 rfl rfl ?_
  refine fr_getR hB dX3_gateTable_14 lf_X3_21 hs.o rfl ?_
  refine fr_iload_n hB dX3_gateTable_17 rfl rfl ?_
  refine fr_iald hB (_) dX3_gateTable_18 hs.a4 (rfl) (by omega) (by decide) ?_
  refine fr_eqi _ (hr.need _ (by omega)) ?_
  refine fr_istore_n hB dX3_gateTable_19 rfl (by decide) rfl ?_
  refine fr_aload_n hB dX3_gateTable_20 rfl rfl ?_
  refine fr_getR hB dX3_gateTable_21 lf_X3_18 hs.o rfl ?_
  refine fr_iload_n hB dX3_gateTable_24 rfl rfl ?_
  refine fr_iald hB (_) dX3_gateTable_25 hs.a3 (rfl) (by omega) (by decide) ?_
  refine fr_eqi _ (hr.kind _ (by omega)) ?_
  refine fr_if_neN (tgt := 34) hB dX3_gateTable_26 (by decide) (by omega) (fun h => ?_) (fun h => ?_)
  · refine fr_aload_n hB dX3_gateTable_34 rfl rfl ?_
    refine fr_getR hB dX3_gateTable_35 lf_X3_18 hs.o rfl ?_
    refine fr_iload_n hB dX3_gateTable_38 rfl rfl ?_
    refine fr_iald hB (_) dX3_gateTable_39 hs.a3 (rfl) (by omega) (by decide) ?_
    refine fr_eqi _ (hr.kind _ (by omega)) ?_
    refine fr_iconst (v := nI 1) hB dX3_gateTable_40 (by decide) ?_
    refine fr_icmp_neN (tgt := 46) hB dX3_gateTable_41 (by decide) (by omega) (by omega) (fun h3 => ?_) (fun h3 => ?_)
    · refine cut (P 5 g) h5 (fun s hs => ?_)
      rw [hdn s, fm_by, if_neg (by omega), if_neg h3]
    · refine fr_iconst (v := nI 1) hB dX3_gateTable_44 (by decide) ?_
      refine fr_istore_n hB dX3_gateTable_45 rfl (by decide) rfl ?_
      refine cut 1 (by omega) (fun s hs => ?_)
      rw [hdn s, fm_by, if_neg (by omega), if_pos h3]
      rfl
  · refine fr_iload_n hB dX3_gateTable_29 rfl rfl ?_
    refine fr_istore_n hB dX3_gateTable_30 rfl (by decide) rfl ?_
    refine fr_goto (tgt := 46) hB dX3_gateTable_31 (by decide) ?_
    refine cut (P 6 g) (by omega) (fun s hs => ?_)
    rw [hdn s, fm_by, if_pos h]
    have := hle s
    rw [decide_eq_decide]
    omega
/-- the table, of n bits, of a function of the sets -/
def fm_mk (f : Nat → Bool) : Nat → Int64
  | 0 => 0
  | n + 1 => fm_mk f n ||| (if f n then (1 : Int64) <<< ((nI n).toInt64 &&& 63) else 0)
theorem fm_mk_bit (f : Nat → Bool) : ∀ n, n ≤ 64 → ∀ s, s < 64 → fm_bit (fm_mk f n) s = (decide (s < n) && f s) := by
  intro n
  induction n with
  | zero => intro _ s hs; unfold fm_mk; rw [fm_bit_0]; simp
  | succ n ih =>
    intro hn s hs
    unfold fm_mk
    rw [fm_bit_or, ih (by omega) s hs]
    cases hf : f n with
    | false =>
      simp only [Bool.false_eq_true, if_false]
      rw [fm_bit_0]
      by_cases e : s = n
      · subst e; simp [hf]
      · have : (s < n + 1) ↔ s < n := by omega
        simp [this]
    | true =>
      simp only [if_true]
      rw [fm_bit_shl _ (show n < 64 by omega) hs, fm_bit_1 (s - n) (by omega)]
      by_cases e : s = n
      · subst e; simp [hf]
      · by_cases e2 : s < n
        · have a1 : ¬ n ≤ s := by omega
          have a2 : s < n + 1 := by omega
          simp [a1, a2, e2]
        · have a1 : ¬ s < n + 1 := by omega
          have a2 : ¬ s - n = 0 := by omega
          simp [a1, a2, e2]
theorem fm_mk_of {f : Nat → Bool} {T : Int64} (h : ∀ s, s < 64 → fm_bit T s = f s) : T = fm_mk f 64 := fm_bit_ext (fun s hs => by rw [h s hs, fm_mk_bit f 64 (by omega) s hs]; simp [hs])
theorem ct_X3_tableOf {sh : List fm_S} {E : fm_E} {k g : Nat} {P : fm_P} {M : fm_M} (hs : fm_Pl sh k) (hr : fm_PR k P M) (hw : fm_wf P) (hg : g < P 3 0) : fm_C sh E mX3_tableOf 3 [.ref (E.2.1 k), .int (nI g)] M (fun r M' => r = some (.long (fm_mk (fm_down P g) 64)) ∧ ∃ L, M' = (M.1, L) ∧ ∀ a, a ≠ k + 9 → a ≠ k + 10 → L a = M.2 a) := by
  have h8 := hw.g8
  refine fm_C.of (by decide +kernel) (Nat.le_of_ble_eq_true rfl) ?_
  intro X hE hR hB
  subst hE
  have hB : fm_B _ X cX3_tableOf 3 RX3 (some .long) := hB
  refine fr_lv [some (.ref (fm_rh X k)), some (.int (nI g)), none] ⟨rfl, rfl, trivial⟩ ?_
  generalize hpo : (fun (r : Option Value) (M' : fm_M) => r = some (.long (fm_mk (fm_down P g) 64)) ∧ ∃ L, M' = (M.1, L) ∧ ∀ a, a ≠ k + 9 → a ≠ k + 10 → L a = M.2 a) = po
  have l1 : ∀ (d i : Nat) (L : Nat → Nat → Int64), i + d = g + 1 → fm_GT k P i (M.1, L) → (∀ a, a ≠ k + 9 → a ≠ k + 10 → L a = M.2 a) → fm_W sh X 3 12 [some (.ref (fm_rh X k)), some (.int (nI g)), some (.int (nI i))] [] (M.1, L) (fm_Q sh X po) := by
    intro d
    induction d with
    | zero =>
      intro i L hi hG hL
      refine fr_iload_n hB dX3_tableOf_12 rfl rfl ?_
      refine fr_iload_n hB dX3_tableOf_13 rfl rfl ?_
      refine fr_icmp_gtN (tgt := 34) hB dX3_tableOf_14 (by decide) (by omega) (by omega) (fun h => ?_) (fun h => ?_)
      · refine fr_aload_n hB dX3_tableOf_34 rfl rfl ?_
        refine fr_getR hB dX3_tableOf_35 lf_X3_40 hs.o rfl ?_
        refine fr_iload_n hB dX3_tableOf_38 rfl rfl ?_
        refine fr_lald hB (_) dX3_tableOf_39 hs.a9 (rfl) (by omega) (by decide) ?_
        exact fr_lreturn hB dX3_tableOf_40 (by subst hpo; exact ⟨congrArg (fun z => some (Value.long z)) (fm_mk_of (fun s hs => hG g (by omega) s hs)), L, rfl, hL⟩)
      · exact absurd h (by omega)
    | succ d ih =>
      intro i L hi hG hL
      refine fr_iload_n hB dX3_tableOf_12 rfl rfl ?_
      refine fr_iload_n hB dX3_tableOf_13 rfl rfl ?_
      refine fr_icmp_gtN (tgt := 34) hB dX3_tableOf_14 (by decide) (by omega) (by omega) (fun h => ?_) (fun h => ?_)
      · exact absurd h (by omega)
      · refine fr_aload_n hB dX3_tableOf_17 rfl rfl ?_
        refine fr_getR hB dX3_tableOf_18 lf_X3_40 hs.o rfl ?_
        refine fr_iload_n hB dX3_tableOf_21 rfl rfl ?_
        refine fr_aload_n hB dX3_tableOf_22 rfl rfl ?_
        refine fr_iload_n hB dX3_tableOf_23 rfl rfl ?_
        refine fr_callV hB _ _ dX3_tableOf_24 lm_X3_78 hs.o (ct_X3_gateTable hs (hr.l _) hw (by omega) hG) rfl rfl (Nat.le_of_ble_eq_true rfl) (fm_room hR (by decide) (by decide)) ?_
        rintro _ M9 ⟨T, A, rfl, hM9, hT⟩
        rw [hM9]
        clear hM9 M9
        refine fr_ret1 ?_
        refine fr_last hB (_) dX3_tableOf_27 hs.a9 (rfl) (by omega) (by decide) ?_
        refine fr_iincN (b := 1) hB dX3_tableOf_28 rfl (by decide) (by decide) rfl ?_
        refine fr_goto (tgt := 12) hB dX3_tableOf_31 (by decide) ?_
        refine ih (i + 1) _ (by omega) (fun q hq s hs => ?_) (fun a h1 h2 => ?_)
        · show fm_bit (fm_u (fm_row L (k + 10) A) (k + 9) i T (k + 9) q) s = _
          rw [fm_u_at]
          by_cases e : q = i
          · subst e
            rw [if_pos ⟨rfl, rfl⟩]
            exact hT s hs
          · rw [if_neg (fun z => e z.2), fm_row_ne _ _ (by omega)]
            exact hG q (by omega) s hs
        · show fm_u (fm_row L (k + 10) A) (k + 9) i T a = _
          rw [fm_u_ne _ _ _ h1, fm_row_ne _ _ h2]
          exact hL a h1 h2
  refine fr_aload_n hB dX3_tableOf_0 rfl rfl ?_
  refine fr_iload_n hB dX3_tableOf_1 rfl rfl ?_
  refine fr_callV hB _ _ dX3_tableOf_2 lm_X3_64 hs.o (ct_X3_hasGate hs hr.gates) rfl rfl (Nat.le_of_ble_eq_true rfl) (fm_room hR (by decide) (by decide)) ?_
  rintro _ M9 ⟨rfl, hM9⟩
  rw [hM9]
  clear hM9 M9
  refine fr_ret1 ?_
  have hlt : fm_lt (nI g) (P 3 0) = true := by rw [fm_lt_nat (by omega) (by omega)]; simp [hg]
  refine fr_if_neB (tgt := 10) hB dX3_tableOf_5 (by decide) (fun h => ?_) (fun h => ?_)
  · refine fr_iconst (v := nI 0) hB dX3_tableOf_10 (by decide) ?_
    refine fr_istore_n hB dX3_tableOf_11 rfl (by decide) rfl ?_
    exact l1 (g + 1) 0 M.2 (by omega) (fun q hq => absurd hq (by omega)) (fun a _ _ => rfl)
  · rw [hlt] at h
    cases h
/-- the top gate, where there are gates -/
def fm_tg (P : fm_P) : Nat := if P 8 0 = 0 then P 3 0 - 1 else P 8 0 - 1
theorem fm_tg_lt {P : fm_P} (hw : fm_wf P) (hg : 0 < P 3 0) : fm_tg P < P 3 0 := by
  have := hw.t8
  unfold fm_tg
  split <;> omega
theorem fm_top_tg {P : fm_P} (hg : 0 < P 3 0) : fm_top (P 3 0) (P 8 0) = nI (fm_tg P) := by
  unfold fm_top fm_tg
  rw [if_neg (by omega)]
  split <;> rfl
theorem ct_X3_topTable {sh : List fm_S} {E : fm_E} {k : Nat} {P : fm_P} {M : fm_M} (hs : fm_Pl sh k) (hr : fm_PR k P M) (hw : fm_wf P) (hg : 0 < P 3 0) : fm_C sh E mX3_topTable 4 [.ref (E.2.1 k)] M (fun r M' => r = some (.long (fm_mk (fm_down P (fm_tg P)) 64)) ∧ ∃ L, M' = (M.1, L) ∧ ∀ a, a ≠ k + 9 → a ≠ k + 10 → L a = M.2 a) := by
  have h8 := hw.g8
  have ht := hw.t8
  refine fm_C.of (by decide +kernel) (Nat.le_of_ble_eq_true rfl) ?_
  intro X hE hR hB
  subst hE
  have hB : fm_B _ X cX3_topTable 1 RX3 (some .long) := hB
  refine fr_lv [some (.ref (fm_rh X k))] ⟨rfl, trivial⟩ ?_
  refine fr_aload_n hB dX3_topTable_0 rfl rfl ?_
  refine fr_aload_n hB dX3_topTable_1 rfl rfl ?_
  refine fr_callV hB _ _ dX3_topTable_2 lm_X3_70 hs.o (ct_X3_topGate hs hr.gates h8 hr.top (by omega)) rfl rfl (Nat.le_of_ble_eq_true rfl) (fm_room hR (by decide) (by decide)) ?_
  rintro _ M9 ⟨rfl, hM9⟩
  rw [hM9]
  clear hM9 M9
  refine fr_ret1 ?_
  rw [fm_top_tg hg]
  refine fr_callV hB _ _ dX3_topTable_5 lm_X3_74 hs.o (ct_X3_tableOf hs hr hw (fm_tg_lt hw hg)) rfl rfl (Nat.le_of_ble_eq_true rfl) (fm_room hR (by decide) (by decide)) ?_
  rintro _ _ ⟨rfl, L, rfl, hL⟩
  refine fr_ret1 ?_
  exact fr_lreturn hB dX3_topTable_8 (⟨rfl, L, rfl, hL⟩)
