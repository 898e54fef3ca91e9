/-! ===== FaultGraph$Graph ===== -/
/-- the first of T i, T (i+1) .., d of them, that is t -/
def fm_mt (T : Nat → Int64) (t : Int64) : Nat → Nat → Option Nat
  | _, 0 => none
  | i, d + 1 => if T i = t then some i else fm_mt T t (i + 1) d
def fm_mtI (o : Option Nat) : Int32 := match o with
  | some i => nI i
  | none => -1
theorem fm_mt_lt (T : Nat → Int64) (t : Int64) : ∀ d i j, fm_mt T t i d = some j → i ≤ j ∧ j < i + d := by
  intro d
  induction d with
  | zero => intro i j h; simp [fm_mt] at h
  | succ d ih =>
    intro i j h
    unfold fm_mt at h
    split at h
    · have := Option.some.inj h; omega
    · have := ih (i + 1) j h; omega
theorem ct_X1_met {E : fm_E} {n : Nat} {t : Int64} {M : fm_M} (hn : M.1 54 0 = nI n) (h64 : n ≤ 64) : fm_C shC E mX1_met 0 [.ref (E.2.1 54), .long t] M (fun r M' => r = some (.int (fm_mtI (fm_mt (M.2 55) t 0 n))) ∧ M' = M) := by
  refine fm_C.of (by decide +kernel) (Nat.le_of_ble_eq_true rfl) ?_
  intro X hE hR hB
  subst hE
  have hB : fm_B _ X cX1_met 4 RX1 (some .int) := hB
  refine fr_lv [some (.ref (fm_rh X 54)), some (.long t), none, none] ⟨rfl, rfl, trivial⟩ ?_
  have l1 : ∀ (d i : Nat), i + d = n → fm_W shC X 4 2 [some (.ref (fm_rh X 54)), some (.long t), none, some (.int (nI i))] [] M (fm_Q shC X (fun r M' => r = some (.int (fm_mtI (fm_mt (M.2 55) t i d))) ∧ M' = M)) := by
    intro d
    induction d with
    | zero =>
      intro i hi
      refine fr_iload_n hB dX1_met_2 rfl rfl ?_
      refine fr_aload_n hB dX1_met_3 rfl rfl ?_
      refine fr_getI hB dX1_met_4 lf_X1_25 rfl rfl ?_
      refine fr_eqi _ (hn) ?_
      refine fr_icmp_geN (tgt := 29) hB dX1_met_7 (by decide) (by omega) (by omega) (fun h => ?_) (fun h => ?_)
      · refine fr_iconst (v := -1) hB dX1_met_29 (by decide) ?_
        exact fr_ireturn hB dX1_met_30 (⟨rfl, rfl⟩)
      · exact absurd h (by omega)
    | succ d ih =>
      intro i hi
      refine fr_iload_n hB dX1_met_2 rfl rfl ?_
      refine fr_aload_n hB dX1_met_3 rfl rfl ?_
      refine fr_getI hB dX1_met_4 lf_X1_25 rfl rfl ?_
      refine fr_eqi _ (hn) ?_
      refine fr_icmp_geN (tgt := 29) hB dX1_met_7 (by decide) (by omega) (by omega) (fun h => ?_) (fun h => ?_)
      · exact absurd h (by omega)
      · refine fr_aload_n hB dX1_met_10 rfl rfl ?_
        refine fr_getR hB dX1_met_11 lf_X1_11 rfl rfl ?_
        refine fr_iload_n hB dX1_met_14 rfl rfl ?_
        refine fr_lald hB (_) dX1_met_15 rfl (rfl) (by omega) (by decide) ?_
        refine fr_lload_n hB dX1_met_16 rfl rfl ?_
        refine fr_lcmp hB dX1_met_17 ?_
        refine fr_if_ne (tgt := 23) hB dX1_met_18 (by decide) (fun h2 => ?_) (fun h2 => ?_)
        · have h3 : ¬ M.2 55 i = t := fun q => h2 ((lg_cmp_eq _ _).mpr q)
          refine fr_iincN (b := 1) hB dX1_met_23 rfl (by decide) (by decide) rfl ?_
          refine fr_goto (tgt := 2) hB dX1_met_26 (by decide) ?_
          have e : fm_mt (M.2 55) t i (d + 1) = fm_mt (M.2 55) t (i + 1) d := by
            show (if M.2 55 i = t then some i else fm_mt (M.2 55) t (i + 1) d) = _
            rw [if_neg h3]
          rw [e]
          exact ih (i + 1) (by omega)
        · have h3 : M.2 55 i = t := (lg_cmp_eq _ _).mp (Decidable.not_not.mp h2)
          have e : fm_mt (M.2 55) t i (d + 1) = some i := by
            show (if M.2 55 i = t then some i else fm_mt (M.2 55) t (i + 1) d) = _
            rw [if_pos h3]
          refine fr_iload_n hB dX1_met_21 rfl rfl ?_
          exact fr_ireturn hB dX1_met_22 (⟨by rw [e]; rfl, rfl⟩)
  refine fr_iconst (v := nI 0) hB dX1_met_0 (by decide) ?_
  refine fr_istore_n hB dX1_met_1 rfl (by decide) rfl ?_
  exact l1 n 0 (by omega)
/-- the first place from i on, d of them, at whose part the table says something of it -/
def fm_fp (o : Nat → Nat) (t : Int64) : Nat → Nat → Nat
  | i, 0 => i
  | i, d + 1 => if fm_iw t (o i) = fm_if t (o i) then fm_fp o t (i + 1) d else i
theorem fm_fp_ge (o : Nat → Nat) (t : Int64) : ∀ d i, i ≤ fm_fp o t i d ∧ fm_fp o t i d ≤ i + d := by
  intro d
  induction d with
  | zero => intro i; exact ⟨Nat.le_refl i, Nat.le_refl i⟩
  | succ d ih =>
    intro i
    unfold fm_fp
    split
    · have := ih (i + 1); omega
    · omega
theorem ct_X1_firstPlace {sh : List fm_S} {E : fm_E} {k f : Nat} {t : Int64} {P : fm_P} {M : fm_M} (hs : fm_Pl sh k) (hr : fm_PR k P M) (hw : fm_wf P) (hf : f ≤ P 0 0) : fm_C sh E mX1_firstPlace 1 [.ref (E.2.1 k), .long t, .int (nI f)] M (fun r M' => r = some (.int (nI (fm_fp (P 2) t f (P 0 0 - f)))) ∧ M' = M) := by
  have h6 := hw.p6
  have ho := hw.ord.1
  refine fm_C.of (by decide +kernel) (Nat.le_of_ble_eq_true rfl) ?_
  intro X hE hR hB
  subst hE
  have hB : fm_B _ X cX1_firstPlace 6 RX1 (some .int) := hB
  refine fr_lv [some (.ref (fm_rh X k)), some (.long t), none, some (.int (nI f)), none, none] ⟨rfl, rfl, rfl, trivial⟩ ?_
  have l1 : ∀ (d i : Nat), i + d = P 0 0 → fm_W sh X 6 3 [some (.ref (fm_rh X k)), some (.long t), none, some (.int (nI f)), some (.int (nI i)), none] [] M (fm_Q sh X (fun r M' => r = some (.int (nI (fm_fp (P 2) t i d))) ∧ M' = M)) := by
    intro d
    induction d with
    | zero =>
      intro i hi
      refine fr_iload hB dX1_firstPlace_3 rfl ?_
      refine fr_aload_n hB dX1_firstPlace_5 rfl rfl ?_
      refine fr_getI hB dX1_firstPlace_6 lf_X1_44 hs.o rfl ?_
      refine fr_eqi _ (hr.parts) ?_
      refine fr_icmp_geN (tgt := 46) hB dX1_firstPlace_9 (by decide) (by omega) (by omega) (fun h => ?_) (fun h => ?_)
      · refine fr_aload_n hB dX1_firstPlace_46 rfl rfl ?_
        refine fr_getI hB dX1_firstPlace_47 lf_X1_44 hs.o rfl ?_
        refine fr_eqi _ (hr.parts) ?_
        exact fr_ireturn hB dX1_firstPlace_50 (⟨by rw [show P 0 0 = i by omega]; rfl, rfl⟩)
      · exact absurd h (by omega)
    | succ d ih =>
      intro i hi
      have hoi := ho i (by omega)
      refine fr_iload hB dX1_firstPlace_3 rfl ?_
      refine fr_aload_n hB dX1_firstPlace_5 rfl rfl ?_
      refine fr_getI hB dX1_firstPlace_6 lf_X1_44 hs.o rfl ?_
      refine fr_eqi _ (hr.parts) ?_
      refine fr_icmp_geN (tgt := 46) hB dX1_firstPlace_9 (by decide) (by omega) (by omega) (fun h => ?_) (fun h => ?_)
      · exact absurd h (by omega)
      · refine fr_aload_n hB dX1_firstPlace_12 rfl rfl ?_
        refine fr_getR hB dX1_firstPlace_13 lf_X1_47 hs.o rfl ?_
        refine fr_iload hB dX1_firstPlace_16 rfl ?_
        refine fr_iald hB (_) dX1_firstPlace_18 hs.a2 (rfl) (by omega) (by decide) ?_
        refine fr_eqi _ (hr.order _ (by omega)) ?_
        refine fr_istore hB dX1_firstPlace_19 (by decide) rfl ?_
        refine fr_lload_n hB dX1_firstPlace_21 rfl rfl ?_
        refine fr_iload hB dX1_firstPlace_22 rfl ?_
        refine fr_callS hB _ _ dX1_firstPlace_24 lm_X1_50 (ct_X3_ifWorks (by omega)) rfl rfl (Nat.le_of_ble_eq_true rfl) (fm_room hR (by decide) (by decide)) ?_
        rintro _ M9 ⟨rfl, hM9⟩
        rw [hM9]
        clear hM9 M9
        refine fr_ret1 ?_
        refine fr_lload_n hB dX1_firstPlace_27 rfl rfl ?_
        refine fr_iload hB dX1_firstPlace_28 rfl ?_
        refine fr_callS hB _ _ dX1_firstPlace_30 lm_X1_54 (ct_X3_ifFails (by omega)) rfl rfl (Nat.le_of_ble_eq_true rfl) (fm_room hR (by decide) (by decide)) ?_
        rintro _ M9 ⟨rfl, hM9⟩
        rw [hM9]
        clear hM9 M9
        refine fr_ret1 ?_
        refine fr_lcmp hB dX1_firstPlace_33 ?_
        refine fr_if_eq (tgt := 40) hB dX1_firstPlace_34 (by decide) (fun h2 => ?_) (fun h2 => ?_)
        · have h3 := (lg_cmp_eq _ _).mp h2
          refine fr_iincN (b := 1) hB dX1_firstPlace_40 rfl (by decide) (by decide) rfl ?_
          refine fr_goto (tgt := 3) hB dX1_firstPlace_43 (by decide) ?_
          have e : fm_fp (P 2) t i (d + 1) = fm_fp (P 2) t (i + 1) d := by
            show (if fm_iw t (P 2 i) = fm_if t (P 2 i) then _ else _) = _
            rw [if_pos h3]
          rw [e]
          refine fr_lv [some (.ref (fm_rh X k)), some (.long t), none, some (.int (nI f)), some (.int (nI (i + 1))), none] ⟨rfl, rfl, rfl, rfl, trivial⟩ ?_
          exact ih (i + 1) (by omega)
        · have h3 : ¬ fm_iw t (P 2 i) = fm_if t (P 2 i) := fun q => h2 ((lg_cmp_eq _ _).mpr q)
          have e : fm_fp (P 2) t i (d + 1) = i := by
            show (if fm_iw t (P 2 i) = fm_if t (P 2 i) then _ else _) = _
            rw [if_neg h3]
          refine fr_iload hB dX1_firstPlace_37 rfl ?_
          exact fr_ireturn hB dX1_firstPlace_39 (⟨by rw [e], rfl⟩)
  refine fr_iload_n hB dX1_firstPlace_0 rfl rfl ?_
  refine fr_istore hB dX1_firstPlace_1 (by decide) rfl ?_
  exact l1 (P 0 0 - f) f (by omega)
