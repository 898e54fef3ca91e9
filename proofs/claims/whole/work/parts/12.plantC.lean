/-! ===== FaultGraph$Plant: a part comes to a place; tables; copies ===== -/
theorem fm_u_rowed {α : Type} (F : Nat → Nat → α) (k : Nat) (g : Nat → α) (n : Nat) (v : α) : fm_u (fm_row F k g) k n v = fm_row F k (fun b => if b = n then v else g b) := by
  funext a b
  unfold fm_u fm_row
  by_cases h : a = k <;> simp [h]
theorem fm_row_self {α : Type} (F : Nat → Nat → α) (k : Nat) : fm_row F k (F k) = F := by
  funext a
  unfold fm_row
  by_cases h : a = k <;> simp [h]
theorem fm_row_row {α : Type} (F : Nat → Nat → α) (k : Nat) (g g' : Nat → α) : fm_row (fm_row F k g) k g' = fm_row F k g' := by
  funext a
  unfold fm_row
  by_cases h : a = k <;> simp [h]
theorem fm_u_row' {α : Type} (F : Nat → Nat → α) (k n : Nat) (v : α) : fm_u F k n v = fm_row F k (fun b => if b = n then v else F k b) := by
  funext a
  unfold fm_u fm_row
  by_cases h : a = k <;> simp [h]
theorem fm_pi_row {F : Nat → Nat → Int32} {L : Nat → Nat → Int64} {k n : Nat} {v : Int32} {g g' : Nat → Int32} (h : ∀ j, (if j = n then v else g j) = g' j) : fm_pi (fm_row F k g, L) k n v = (fm_row F k g', L) := by
  have e : (fun b => if b = n then v else g b) = g' := funext h
  show (fm_u (fm_row F k g) k n v, L) = _
  rw [fm_u_rowed, e]
theorem fm_pl_row {F : Nat → Nat → Int32} {L : Nat → Nat → Int64} {k n : Nat} {v : Int64} {g g' : Nat → Int64} (h : ∀ j, (if j = n then v else g j) = g' j) : fm_pl (F, fm_row L k g) k n v = (F, fm_row L k g') := by
  have e : (fun b => if b = n then v else g b) = g' := funext h
  show (F, fm_u (fm_row L k g) k n v) = _
  rw [fm_u_rowed, e]
def fm_s1 {α : Type} (f : Nat → α) (w i : Nat) : Nat → α := fun j => if w ≤ j ∧ j < i then f (j + 1) else f j
def fm_s2 {α : Type} (f : Nat → α) (w b i : Nat) : Nat → α := fun j => if i < j ∧ j ≤ w then f (j - 1) else fm_s1 f w b j
set_option maxHeartbeats 200000 in
theorem ct_X3_putAt {sh : List fm_S} {E : fm_E} {k a b : Nat} {P : fm_P} {M : fm_M} (hs : fm_Pl sh k) (hr : fm_PR k P M) (hw : fm_wf P) (ha : a < P 0 0) (hb : b < P 0 0) : fm_C sh E mX3_putAt 1 [.ref (E.2.1 k), .int (nI a), .int (nI b)] M (fun r M' => r = some (.int (nI (fm_pos (P 2) a))) ∧ M' = (fm_row M.1 (k + 2) (fm_mv (M.1 (k + 2)) (fm_pos (P 2) a) b), M.2)) := by
  have h6 := hw.p6
  obtain ⟨p1, p2⟩ := hw.ord.pos h6 ha
  have p4 : M.1 (k + 2) (fm_pos (P 2) a) = nI a := by rw [hr.order _ (by omega), p2]
  generalize hj0 : fm_pos (P 2) a = w at p1 p2 p4
  obtain ⟨f, hf⟩ : ∃ f, f = M.1 (k + 2) := ⟨_, rfl⟩
  refine fm_C.of (by decide +kernel) (Nat.le_of_ble_eq_true rfl) ?_
  intro X hE hR hB
  subst hE
  have hB : fm_B _ X cX3_putAt 5 RX3 (some .int) := hB
  refine fr_lv [some (.ref (fm_rh X k)), some (.int (nI a)), some (.int (nI b)), none, none] ⟨rfl, rfl, rfl, trivial⟩ ?_
  refine fr_aload_n hB dX3_putAt_0 rfl rfl ?_
  refine fr_iload_n hB dX3_putAt_1 rfl rfl ?_
  refine fr_callV hB _ _ dX3_putAt_2 lm_X3_60 hs.o (ct_X3_placeOf hs hr hw ha) rfl rfl (Nat.le_of_ble_eq_true rfl) (fm_room hR (by decide) (by decide)) ?_
  rintro _ M9 ⟨rfl, hM9⟩
  rw [hM9]
  clear hM9 M9
  refine fr_ret1 ?_
  rw [hj0]
  refine fr_istore_n hB dX3_putAt_5 rfl (by decide) rfl ?_
  refine fr_iload_n hB dX3_putAt_6 rfl rfl ?_
  refine fr_istore hB dX3_putAt_7 (by decide) rfl ?_
  rw [← hf]
  have l2 : ∀ d i : Nat, b + d = i → i ≤ w → fm_W sh X 5 45 [some (.ref (fm_rh X k)), some (.int (nI a)), some (.int (nI b)), some (.int (nI w)), some (.int (nI i))] [] (fm_row M.1 (k + 2) (fm_s2 f w b i), M.2) (fm_Q sh X (fun r M' => r = some (.int (nI w)) ∧ M' = (fm_row M.1 (k + 2) (fm_mv f w b), M.2))) := by
    intro d
    induction d with
    | zero =>
      intro i hi hiw
      refine fr_iload hB dX3_putAt_45 rfl ?_
      refine fr_iload_n hB dX3_putAt_47 rfl rfl ?_
      refine fr_icmp_leN (tgt := 73) hB dX3_putAt_48 (by decide) (by omega) (by omega) (fun h => ?_) (fun h => ?_)
      · refine fr_aload_n hB dX3_putAt_73 rfl rfl ?_
        refine fr_getR hB dX3_putAt_74 lf_X3_15 hs.o rfl ?_
        refine fr_iload_n hB dX3_putAt_77 rfl rfl ?_
        refine fr_iload_n hB dX3_putAt_78 rfl rfl ?_
        refine fr_iast hB (_) dX3_putAt_79 hs.a2 (rfl) (by omega) (by decide) ?_
        refine fr_iload_n hB dX3_putAt_80 rfl rfl ?_
        refine fr_mem (fm_row M.1 (k + 2) (fm_mv f w b), M.2) (fm_pi_row (fun j => ?_)) ?_
        · have hj := 0
          unfold fm_mv fm_s2 fm_s1
          rw [hf]
          by_cases e1 : j = b
          · simp [e1, p4]
          · by_cases e2 : w ≤ j ∧ j < b
            · have : ¬ (b < j ∧ j ≤ w) := by omega
              have : ¬ (i < j ∧ j ≤ w) := by omega
              simp [e1, e2, this]
            · by_cases e3 : b < j ∧ j ≤ w
              · have : i < j ∧ j ≤ w := by omega
                simp [e1, e2, e3, this]
              · have : ¬ (i < j ∧ j ≤ w) := by omega
                simp [e1, e2, e3, this]
        · exact fr_ireturn hB dX3_putAt_81 (⟨rfl, rfl⟩)
      · exact absurd h (by omega)
    | succ d ih =>
      intro i hi hiw
      obtain ⟨i', rfl⟩ : ∃ i', i = i' + 1 := ⟨i - 1, by omega⟩
      refine fr_iload hB dX3_putAt_45 rfl ?_
      refine fr_iload_n hB dX3_putAt_47 rfl rfl ?_
      refine fr_icmp_leN (tgt := 73) hB dX3_putAt_48 (by decide) (by omega) (by omega) (fun h => ?_) (fun h => ?_)
      · exact absurd h (by omega)
      · refine fr_aload_n hB dX3_putAt_51 rfl rfl ?_
        refine fr_getR hB dX3_putAt_52 lf_X3_15 hs.o rfl ?_
        refine fr_iload hB dX3_putAt_55 rfl ?_
        refine fr_aload_n hB dX3_putAt_57 rfl rfl ?_
        refine fr_getR hB dX3_putAt_58 lf_X3_15 hs.o rfl ?_
        refine fr_iload hB dX3_putAt_61 rfl ?_
        refine fr_iconst (v := nI 1) hB dX3_putAt_63 (by decide) ?_
        refine fr_isubN hB dX3_putAt_64 (by omega) ?_
        refine fr_iald hB (_) dX3_putAt_65 hs.a2 (rfl) (by omega) (by decide) ?_
        refine fr_eqi (f i') (by simp only [fm_row_same, fm_s2, fm_s1]; rw [if_neg (by omega), if_neg (by omega), Nat.add_sub_cancel]) ?_
        refine fr_iast hB (_) dX3_putAt_66 hs.a2 (rfl) (by omega) (by decide) ?_
        refine fr_iincP hB dX3_putAt_67 rfl (by decide) rfl ?_
        refine fr_goto (tgt := 45) hB dX3_putAt_70 (by decide) ?_
        refine fr_mem (fm_row M.1 (k + 2) (fm_s2 f w b i'), M.2) (fm_pi_row (fun j => ?_)) (ih i' (by omega) (by omega))
        unfold fm_s2
        by_cases e1 : j = i' + 1
        · have : i' < j ∧ j ≤ w := by omega
          simp [e1, this]
          omega
        · by_cases e2 : i' + 1 < j ∧ j ≤ w
          · have : i' < j ∧ j ≤ w := by omega
            simp [e1, e2, this]
          · have : ¬ (i' < j ∧ j ≤ w) := by omega
            simp [e1, e2, this]
  have l42 : fm_W sh X 5 42 [some (.ref (fm_rh X k)), some (.int (nI a)), some (.int (nI b)), some (.int (nI w)), none] [] (fm_row M.1 (k + 2) (fm_s1 f w b), M.2) (fm_Q sh X (fun r M' => r = some (.int (nI w)) ∧ M' = (fm_row M.1 (k + 2) (fm_mv f w b), M.2))) := by
    refine fr_iload_n hB dX3_putAt_42 rfl rfl ?_
    refine fr_istore hB dX3_putAt_43 (by decide) rfl ?_
    have e : fm_s2 f w b w = fm_s1 f w b := by
      funext j
      unfold fm_s2
      rw [if_neg (by omega)]
    rcases Nat.lt_or_ge b w with q | q
    · rw [← e]
      exact l2 (w - b) w (by omega) (Nat.le_refl w)
    · refine fr_iload hB dX3_putAt_45 rfl ?_
      refine fr_iload_n hB dX3_putAt_47 rfl rfl ?_
      refine fr_icmp_leN (tgt := 73) hB dX3_putAt_48 (by decide) (by omega) (by omega) (fun h => ?_) (fun h => ?_)
      · refine fr_aload_n hB dX3_putAt_73 rfl rfl ?_
        refine fr_getR hB dX3_putAt_74 lf_X3_15 hs.o rfl ?_
        refine fr_iload_n hB dX3_putAt_77 rfl rfl ?_
        refine fr_iload_n hB dX3_putAt_78 rfl rfl ?_
        refine fr_iast hB (_) dX3_putAt_79 hs.a2 (rfl) (by omega) (by decide) ?_
        refine fr_iload_n hB dX3_putAt_80 rfl rfl ?_
        refine fr_mem (fm_row M.1 (k + 2) (fm_mv f w b), M.2) (fm_pi_row (fun j => ?_)) ?_
        · have hj := 0
          unfold fm_mv fm_s1
          rw [hf]
          by_cases e1 : j = b
          · simp [e1, p4]
          · by_cases e2 : w ≤ j ∧ j < b
            · simp [e1, e2]
            · have : ¬ (b < j ∧ j ≤ w) := by omega
              simp [e1, e2, this]
        · exact fr_ireturn hB dX3_putAt_81 (⟨rfl, rfl⟩)
      · exact absurd h (by omega)
  have l1 : ∀ d i : Nat, i + d = b ∨ (i = w ∧ b ≤ w ∧ d = 0) → w ≤ i → i < 6 → fm_W sh X 5 9 [some (.ref (fm_rh X k)), some (.int (nI a)), some (.int (nI b)), some (.int (nI w)), some (.int (nI i))] [] (fm_row M.1 (k + 2) (fm_s1 f w i), M.2) (fm_Q sh X (fun r M' => r = some (.int (nI w)) ∧ M' = (fm_row M.1 (k + 2) (fm_mv f w b), M.2))) := by
    intro d
    induction d using Nat.strongRecOn with
    | ind d ih =>
      intro i hi hwi hi6
      refine fr_iload hB dX3_putAt_9 rfl ?_
      refine fr_if_ltN (tgt := 42) hB dX3_putAt_11 (by decide) (by omega) ?_
      refine fr_iload hB dX3_putAt_14 rfl ?_
      refine fr_iload_n hB dX3_putAt_16 rfl rfl ?_
      refine fr_icmp_geN (tgt := 42) hB dX3_putAt_17 (by decide) (by omega) (by omega) (fun h => ?_) (fun h => ?_)
      · refine fr_lv [some (.ref (fm_rh X k)), some (.int (nI a)), some (.int (nI b)), some (.int (nI w)), none] ⟨rfl, rfl, rfl, rfl, trivial⟩ ?_
        have e : fm_s1 f w i = fm_s1 f w b := by
          funext j
          unfold fm_s1
          by_cases e1 : w ≤ j ∧ j < b
          · have : w ≤ j ∧ j < i := by omega
            simp [e1, this]
          · have : ¬ (w ≤ j ∧ j < i) := by omega
            simp [e1, this]
        rw [e]
        exact l42
      · refine fr_aload_n hB dX3_putAt_20 rfl rfl ?_
        refine fr_getR hB dX3_putAt_21 lf_X3_15 hs.o rfl ?_
        refine fr_iload hB dX3_putAt_24 rfl ?_
        refine fr_aload_n hB dX3_putAt_26 rfl rfl ?_
        refine fr_getR hB dX3_putAt_27 lf_X3_15 hs.o rfl ?_
        refine fr_iload hB dX3_putAt_30 rfl ?_
        refine fr_iconst (v := nI 1) hB dX3_putAt_32 (by decide) ?_
        refine fr_iaddN hB dX3_putAt_33 ?_
        refine fr_iald hB (_) dX3_putAt_34 hs.a2 (rfl) (by omega) (by decide) ?_
        refine fr_eqi (f (i + 1)) (by simp only [fm_row_same, fm_s1]; rw [if_neg (by omega)]) ?_
        refine fr_iast hB (_) dX3_putAt_35 hs.a2 (rfl) (by omega) (by decide) ?_
        refine fr_iincN (b := 1) hB dX3_putAt_36 rfl (by decide) (by decide) rfl ?_
        refine fr_goto (tgt := 9) hB dX3_putAt_39 (by decide) ?_
        refine fr_mem (fm_row M.1 (k + 2) (fm_s1 f w (i + 1)), M.2) (fm_pi_row (fun j => ?_)) (ih (d - 1) (by omega) (i + 1) (by omega) (by omega) (by omega))
        unfold fm_s1
        by_cases e1 : j = i
        · have : w ≤ j ∧ j < i + 1 := by omega
          simp [e1, this]
          omega
        · by_cases e2 : w ≤ j ∧ j < i
          · have : w ≤ j ∧ j < i + 1 := by omega
            simp [e1, e2, this]
          · have : ¬ (w ≤ j ∧ j < i + 1) := by omega
            simp [e1, e2, this]
  have e0 : M = (fm_row M.1 (k + 2) (fm_s1 f w w), M.2) := by
    have : fm_s1 f w w = M.1 (k + 2) := by
      funext j
      unfold fm_s1
      rw [if_neg (by omega), hf]
    rw [this, fm_row_self]
  refine fr_mem _ e0 ?_
  exact l1 (b - w) w (by omega) (Nat.le_refl w) (by omega)
