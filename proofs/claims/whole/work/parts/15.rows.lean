/-! ===== FaultGraph$Rows, FaultGraph$Tape, the text's signs ===== -/
theorem fm_roomC {X : fm_X} {H : Nat} (hR : fm_R X = fm_rm H) (h1 : 1 ≤ H) : 1 ≤ (fm_R X).frames ∧ 8 + (nativeFrameWords "java/lang/System" "arraycopy" 5 + 11) ≤ (fm_R X).locals := by
  rw [hR]
  refine ⟨h1, ?_⟩
  have h2 : nativeFrameWords "java/lang/System" "arraycopy" 5 ≤ 45 := by decide +kernel
  show _ ≤ 64 * H
  omega
theorem ct_X4_add {sh : List fm_S} {E : fm_E} {k n c : Nat} {x y : Int32} {M : fm_M} (hs : fm_Ro sh k n) (hn : n ≤ 8) (hc : M.1 k 2 = nI c) (h6 : c ≤ n) : fm_C sh E mX4_add 0 [.ref (E.2.1 k), .int x, .int y] M (fun r M' => r = some (.int (if c < n then nI (c + 1) else -4)) ∧ M' = if c < n then fm_pi (fm_pi (fm_pi M (k + 1) c x) (k + 2) c y) k 2 (nI (c + 1)) else M) := by
  refine fm_C.of (by decide +kernel) (Nat.le_of_ble_eq_true rfl) ?_
  intro X hE hR hB
  subst hE
  have hB : fm_B _ X cX4_add 3 RX4 (some .int) := hB
  refine fr_lv [some (.ref (fm_rh X k)), some (.int x), some (.int y)] ⟨rfl, rfl, rfl, trivial⟩ ?_
  refine fr_aload_n hB dX4_add_0 rfl rfl ?_
  refine fr_getI hB dX4_add_1 lf_X4_24 hs.o rfl ?_
  refine fr_eqi _ (hc) ?_
  refine fr_aload_n hB dX4_add_4 rfl rfl ?_
  refine fr_getR hB dX4_add_5 lf_X4_15 hs.o rfl ?_
  refine fr_alen hB dX4_add_8 hs.a1 (by decide) ?_
  refine fr_icmp_ltN (tgt := 15) hB dX4_add_9 (by decide) (by omega) (by omega) (fun h => ?_) (fun h => ?_)
  · refine fr_aload_n hB dX4_add_15 rfl rfl ?_
    refine fr_getR hB dX4_add_16 lf_X4_15 hs.o rfl ?_
    refine fr_aload_n hB dX4_add_19 rfl rfl ?_
    refine fr_getI hB dX4_add_20 lf_X4_24 hs.o rfl ?_
    refine fr_eqi _ (hc) ?_
    refine fr_iload_n hB dX4_add_23 rfl rfl ?_
    refine fr_iast hB (_) dX4_add_24 hs.a1 (rfl) (by omega) (by omega) ?_
    refine fr_aload_n hB dX4_add_25 rfl rfl ?_
    refine fr_getR hB dX4_add_26 lf_X4_21 hs.o rfl ?_
    refine fr_aload_n hB dX4_add_29 rfl rfl ?_
    refine fr_getI hB dX4_add_30 lf_X4_24 hs.o rfl ?_
    refine fr_eqi (nI (c)) (by simp [fm_u_at, hc]) ?_
    refine fr_iload_n hB dX4_add_33 rfl rfl ?_
    refine fr_iast hB (_) dX4_add_34 hs.a2 (rfl) (by omega) (by omega) ?_
    refine fr_aload_n hB dX4_add_35 rfl rfl ?_
    refine fr_dup hB dX4_add_36 rfl ?_
    refine fr_getI hB dX4_add_37 lf_X4_24 hs.o rfl ?_
    refine fr_eqi (nI (c)) (by simp [fm_u_at, hc]) ?_
    refine fr_iconst (v := nI 1) hB dX4_add_40 (by decide) ?_
    refine fr_iaddN hB dX4_add_41 ?_
    refine fr_putI hB dX4_add_42 lp_X4_24 hs.o rfl ?_
    refine fr_aload_n hB dX4_add_45 rfl rfl ?_
    refine fr_getI hB dX4_add_46 lf_X4_24 hs.o rfl ?_
    refine fr_eqi (nI (c + 1)) (by simp [fm_u_at]) ?_
    exact fr_ireturn hB dX4_add_49 (⟨by rw [if_pos h], by rw [if_pos h]⟩)
  · refine fr_bipush (v := -4) hB dX4_add_12 (by decide) ?_
    exact fr_ireturn hB dX4_add_14 (⟨by rw [if_neg (Nat.not_lt.mpr h)], by rw [if_neg (Nat.not_lt.mpr h)]⟩)
theorem ct_X4_empty {sh : List fm_S} {E : fm_E} {k n : Nat} {M : fm_M} (hs : fm_Ro sh k n) : fm_C sh E mX4_empty 0 [.ref (E.2.1 k)] M (fun r M' => r = some (.int (nI 0)) ∧ M' = fm_pi M k 2 (nI 0)) := by
  refine fm_C.of (by decide +kernel) (Nat.le_of_ble_eq_true rfl) ?_
  intro X hE hR hB
  subst hE
  have hB : fm_B _ X cX4_empty 1 RX4 (some .int) := hB
  refine fr_lv [some (.ref (fm_rh X k))] ⟨rfl, trivial⟩ ?_
  refine fr_aload_n hB dX4_empty_0 rfl rfl ?_
  refine fr_iconst (v := nI 0) hB dX4_empty_1 (by decide) ?_
  refine fr_putI hB dX4_empty_2 lp_X4_24 hs.o rfl ?_
  refine fr_iconst (v := nI 0) hB dX4_empty_5 (by decide) ?_
  exact fr_ireturn hB dX4_empty_6 (⟨rfl, rfl⟩)
theorem ct_X4_copyFrom {sh : List fm_S} {E : fm_E} {k k2 n c : Nat} {M : fm_M} (hs : fm_Ro sh k n) (hs2 : fm_Ro sh k2 n) (hn : n ≤ 8) (hd : k + 2 < k2 ∨ k2 + 2 < k) (hc : M.1 k2 2 = nI c) (h6 : c ≤ n) : fm_C sh E mX4_copyFrom 1 [.ref (E.2.1 k), .ref (E.2.1 k2)] M (fun r M' => r = none ∧ M'.1 k 2 = nI c ∧ (∀ j, j < c → M'.1 (k + 1) j = M.1 (k2 + 1) j) ∧ (∀ j, j < c → M'.1 (k + 2) j = M.1 (k2 + 2) j) ∧ (∀ a, a ≠ k → a ≠ k + 1 → a ≠ k + 2 → M'.1 a = M.1 a) ∧ M'.2 = M.2) := by
  have n1 : ¬ k2 + 1 = k := by omega
  have n2 : ¬ k2 + 2 = k := by omega
  have n3 : ¬ k2 + 2 = k + 1 := by omega
  have n4 : ¬ k2 + 1 = k + 1 := by omega
  refine fm_C.of (by decide +kernel) (Nat.le_of_ble_eq_true rfl) ?_
  intro X hE hR hB
  subst hE
  have hB : fm_B _ X cX4_copyFrom 2 RX4 none := hB
  refine fr_lv [some (.ref (fm_rh X k)), some (.ref (fm_rh X k2))] ⟨rfl, rfl, trivial⟩ ?_
  refine fr_aload_n hB dX4_copyFrom_0 rfl rfl ?_
  refine fr_aload_n hB dX4_copyFrom_1 rfl rfl ?_
  refine fr_getI hB dX4_copyFrom_2 lf_X4_24 hs2.o rfl ?_
  refine fr_eqi _ (hc) ?_
  refine fr_aload_n hB dX4_copyFrom_5 rfl rfl ?_
  refine fr_getR hB dX4_copyFrom_6 lf_X4_15 hs.o rfl ?_
  refine fr_alen hB dX4_copyFrom_9 hs.a1 (by decide) ?_
  refine fr_min hB dX4_copyFrom_10 lx_X4_28.1 lx_X4_28.2.1 lx_X4_28.2.2.1 lx_X4_28.2.2.2 (Nat.le_of_ble_eq_true rfl) (fm_room1 hR (by decide)) ?_
  refine fr_eqi (nI (c)) (by rw [if_neg (nI_nlt h6 (by omega))]) ?_
  refine fr_putI hB dX4_copyFrom_13 lp_X4_24 hs.o rfl ?_
  refine fr_aload_n hB dX4_copyFrom_16 rfl rfl ?_
  refine fr_getR hB dX4_copyFrom_17 lf_X4_15 hs2.o rfl ?_
  refine fr_iconst (v := nI 0) hB dX4_copyFrom_20 (by decide) ?_
  refine fr_aload_n hB dX4_copyFrom_21 rfl rfl ?_
  refine fr_getR hB dX4_copyFrom_22 lf_X4_15 hs.o rfl ?_
  refine fr_iconst (v := nI 0) hB dX4_copyFrom_25 (by decide) ?_
  refine fr_aload_n hB dX4_copyFrom_26 rfl rfl ?_
  refine fr_getI hB dX4_copyFrom_27 lf_X4_24 hs.o rfl ?_
  refine fr_eqi (nI (c)) (by simp [fm_u_at]) ?_
  refine fr_copyi hB (0) (0) (c) dX4_copyFrom_30 la_X4_31 hs2.a1 hs.a1 rfl rfl rfl (by omega) (by omega) (by omega) (by omega) (Nat.le_of_ble_eq_true rfl) (fm_roomC hR (by decide)) ?_
  refine fr_aload_n hB dX4_copyFrom_33 rfl rfl ?_
  refine fr_getR hB dX4_copyFrom_34 lf_X4_21 hs2.o rfl ?_
  refine fr_iconst (v := nI 0) hB dX4_copyFrom_37 (by decide) ?_
  refine fr_aload_n hB dX4_copyFrom_38 rfl rfl ?_
  refine fr_getR hB dX4_copyFrom_39 lf_X4_21 hs.o rfl ?_
  refine fr_iconst (v := nI 0) hB dX4_copyFrom_42 (by decide) ?_
  refine fr_aload_n hB dX4_copyFrom_43 rfl rfl ?_
  refine fr_getI hB dX4_copyFrom_44 lf_X4_24 hs.o rfl ?_
  refine fr_eqi (nI (c)) (by simp [fm_row, fm_u_at]) ?_
  refine fr_copyi hB (0) (0) (c) dX4_copyFrom_47 la_X4_31 hs2.a2 hs.a2 rfl rfl rfl (by omega) (by omega) (by omega) (by omega) (Nat.le_of_ble_eq_true rfl) (fm_roomC hR (by decide)) ?_
  refine fr_return hB dX4_copyFrom_50 ⟨rfl, ?_, fun j hj => ?_, fun j hj => ?_, fun a h1 h2 h3 => ?_, rfl⟩
  · simp [fm_row, fm_u_at]
  · simp [fm_row, fm_u, va_cpy, n1, hj]
  · simp [fm_row, fm_u, va_cpy, n2, n3, hj]
  · simp [fm_row, fm_u, h1, h2, h3]
theorem ct_X7_become {sh : List fm_S} {E : fm_E} {k : Nat} {so le : Int32} {M : fm_M} (hs : fm_Tp sh k) : fm_C sh E mX7_become 0 [.ref (E.2.1 k), .int so, .int le] M (fun r M' => r = none ∧ M' = (fm_u (fm_u M.1 k 0 so) k 1 le, fm_row M.2 (k + 1) (fun j => if j < 60 then 0 else M.2 (k + 1) j))) := by
  refine fm_C.of (by decide +kernel) (Nat.le_of_ble_eq_true rfl) ?_
  intro X hE hR hB
  subst hE
  have hB : fm_B _ X cX7_become 4 RX7 none := hB
  refine fr_lv [some (.ref (fm_rh X k)), some (.int so), some (.int le), none] ⟨rfl, rfl, rfl, trivial⟩ ?_
  have l1 : ∀ (d i : Nat), i + d = 60 → fm_W sh X 4 12 [some (.ref (fm_rh X k)), some (.int so), some (.int le), some (.int (nI i))] [] (fm_u (fm_u M.1 k 0 so) k 1 le, fm_row M.2 (k + 1) (fun j => if j < i then 0 else M.2 (k + 1) j)) (fm_Q sh X (fun r M' => r = none ∧ M' = (fm_u (fm_u M.1 k 0 so) k 1 le, fm_row M.2 (k + 1) (fun j => if j < 60 then 0 else M.2 (k + 1) j)))) := by
    intro d
    induction d with
    | zero =>
      intro i hi
      refine fr_iload_n hB dX7_become_12 rfl rfl ?_
      refine fr_bipush (v := nI 60) hB dX7_become_13 (by decide) ?_
      refine fr_icmp_geN (tgt := 31) hB dX7_become_15 (by decide) (by omega) (by omega) (fun h => ?_) (fun h => ?_)
      · have e : i = 60 := by omega
        subst e
        exact fr_return hB dX7_become_31 (⟨rfl, rfl⟩)
      · exact absurd h (by omega)
    | succ d ih =>
      intro i hi
      refine fr_iload_n hB dX7_become_12 rfl rfl ?_
      refine fr_bipush (v := nI 60) hB dX7_become_13 (by decide) ?_
      refine fr_icmp_geN (tgt := 31) hB dX7_become_15 (by decide) (by omega) (by omega) (fun h => ?_) (fun h => ?_)
      · exact absurd h (by omega)
      · refine fr_aload_n hB dX7_become_18 rfl rfl ?_
        refine fr_getR hB dX7_become_19 lf_X7_13 hs.o rfl ?_
        refine fr_iload_n hB dX7_become_22 rfl rfl ?_
        refine fr_lconst (v := 0) hB dX7_become_23 (by decide) ?_
        refine fr_last hB (_) dX7_become_24 hs.a1 (rfl) (by omega) (by decide) ?_
        refine fr_iincN (b := 1) hB dX7_become_25 rfl (by decide) (by decide) rfl ?_
        refine fr_goto (tgt := 12) hB dX7_become_28 (by decide) ?_
        refine fr_mem _ (fm_pl_row (g' := fun j => if j < i + 1 then 0 else M.2 (k + 1) j) (fun j => ?_)) (ih (i + 1) (by omega))
        by_cases e : j = i
        · rw [if_pos e, if_pos (by omega)]
        · rw [if_neg e]
          by_cases e2 : j < i
          · rw [if_pos e2, if_pos (by omega)]
          · rw [if_neg e2, if_neg (by omega)]
  refine fr_aload_n hB dX7_become_0 rfl rfl ?_
  refine fr_iload_n hB dX7_become_1 rfl rfl ?_
  refine fr_putI hB dX7_become_2 lp_X7_9 hs.o rfl ?_
  refine fr_aload_n hB dX7_become_5 rfl rfl ?_
  refine fr_iload_n hB dX7_become_6 rfl rfl ?_
  refine fr_putI hB dX7_become_7 lp_X7_17 hs.o rfl ?_
  refine fr_iconst (v := nI 0) hB dX7_become_10 (by decide) ?_
  refine fr_istore_n hB dX7_become_11 rfl (by decide) rfl ?_
  refine fr_mem (fm_u (fm_u M.1 k 0 so) k 1 le, fm_row M.2 (k + 1) (fun j => if j < 0 then 0 else M.2 (k + 1) j)) ?_ (l1 60 0 (by omega))
  have e : (fun j => if j < 0 then (0 : Int64) else M.2 (k + 1) j) = M.2 (k + 1) := by
    funext j
    rw [if_neg (by omega)]
  rw [e, fm_row_self]
theorem ct_X7_hasPlace {sh : List fm_S} {E : fm_E} {k c : Nat} {n : Int32} {M : fm_M} (hs : fm_Tp sh k) (hc : M.1 k 1 = nI c) : fm_C sh E mX7_hasPlace 0 [.ref (E.2.1 k), .int n] M (fun r M' => r = some (.int (fm_ib (fm_lt n c))) ∧ M' = M) := by
  refine fm_C.of (by decide +kernel) (Nat.le_of_ble_eq_true rfl) ?_
  intro X hE hR hB
  subst hE
  have hB : fm_B _ X cX7_hasPlace 2 RX7 (some .boolean) := hB
  refine fr_lv [some (.ref (fm_rh X k)), some (.int n)] ⟨rfl, rfl, trivial⟩ ?_
  refine fr_iload_n hB dX7_hasPlace_0 rfl rfl ?_
  refine fr_if_lt (tgt := 16) hB dX7_hasPlace_1 (by decide) (fun h => ?_) (fun h => ?_)
  · refine fr_iconst (v := nI 0) hB dX7_hasPlace_16 (by decide) ?_
    exact fr_zreturn hB dX7_hasPlace_17 (by first | exact fm_nar0 | exact fm_nar1 | exact fm_nar _) (⟨by rw [fm_lt_neg c h]; rfl, rfl⟩)
  · refine fr_iload_n hB dX7_hasPlace_4 rfl rfl ?_
    refine fr_aload_n hB dX7_hasPlace_5 rfl rfl ?_
    refine fr_getI hB dX7_hasPlace_6 lf_X7_17 hs.o rfl ?_
    refine fr_eqi _ (hc) ?_
    refine fr_icmp_ge (tgt := 16) hB dX7_hasPlace_9 (by decide) (fun h2 => ?_) (fun h2 => ?_)
    · refine fr_iconst (v := nI 0) hB dX7_hasPlace_16 (by decide) ?_
      exact fr_zreturn hB dX7_hasPlace_17 (by first | exact fm_nar0 | exact fm_nar1 | exact fm_nar _) (⟨by rw [fm_lt_ge h2]; rfl, rfl⟩)
    · refine fr_iconst (v := nI 1) hB dX7_hasPlace_12 (by decide) ?_
      refine fr_goto (tgt := 17) hB dX7_hasPlace_13 (by decide) ?_
      exact fr_zreturn hB dX7_hasPlace_17 (by first | exact fm_nar0 | exact fm_nar1 | exact fm_nar _) (⟨by rw [fm_lt_in h h2]; rfl, rfl⟩)
/-- a run of n from a place on lies within c -/
def fm_run (f n : Int32) (c : Nat) : Bool := decide (¬ f < 0) && (decide (¬ n < 0) && decide (f.toNatClampNeg + n.toNatClampNeg ≤ c))
theorem ct_X7_hasRun {sh : List fm_S} {E : fm_E} {k c : Nat} {f n : Int32} {M : fm_M} (hs : fm_Tp sh k) (hc : M.1 k 1 = nI c) (h60 : c ≤ 60) : fm_C sh E mX7_hasRun 0 [.ref (E.2.1 k), .int f, .int n] M (fun r M' => r = some (.int (fm_ib (fm_run f n c))) ∧ M' = M) := by
  refine fm_C.of (by decide +kernel) (Nat.le_of_ble_eq_true rfl) ?_
  intro X hE hR hB
  subst hE
  have hB : fm_B _ X cX7_hasRun 3 RX7 (some .boolean) := hB
  refine fr_lv [some (.ref (fm_rh X k)), some (.int f), some (.int n)] ⟨rfl, rfl, rfl, trivial⟩ ?_
  refine fr_iload_n hB dX7_hasRun_0 rfl rfl ?_
  refine fr_if_lt (tgt := 30) hB dX7_hasRun_1 (by decide) (fun h => ?_) (fun h => ?_)
  · refine fr_iconst (v := nI 0) hB dX7_hasRun_30 (by decide) ?_
    exact fr_zreturn hB dX7_hasRun_31 (by first | exact fm_nar0 | exact fm_nar1 | exact fm_nar _) (⟨by rw [show fm_run f n c = false by simp [fm_run, h]]; rfl, rfl⟩)
  · refine fr_iload_n hB dX7_hasRun_4 rfl rfl ?_
    refine fr_if_lt (tgt := 30) hB dX7_hasRun_5 (by decide) (fun h2 => ?_) (fun h2 => ?_)
    · refine fr_iconst (v := nI 0) hB dX7_hasRun_30 (by decide) ?_
      exact fr_zreturn hB dX7_hasRun_31 (by first | exact fm_nar0 | exact fm_nar1 | exact fm_nar _) (⟨by rw [show fm_run f n c = false by simp [fm_run, h2]]; rfl, rfl⟩)
    · obtain ⟨a, ha, rfl⟩ := nI_of h
      obtain ⟨b, hb, rfl⟩ := nI_of h2
      have e : fm_run (nI a) (nI b) c = decide (a + b ≤ c) := by
        unfold fm_run
        rw [nI_clamp ha, nI_clamp hb]
        simp [h, h2]
      refine fr_iload_n hB dX7_hasRun_8 rfl rfl ?_
      refine fr_aload_n hB dX7_hasRun_9 rfl rfl ?_
      refine fr_getI hB dX7_hasRun_10 lf_X7_17 hs.o rfl ?_
      refine fr_eqi _ (hc) ?_
      refine fr_icmp_gtN (tgt := 30) hB dX7_hasRun_13 (by decide) (by omega) (by omega) (fun h3 => ?_) (fun h3 => ?_)
      · refine fr_iconst (v := nI 0) hB dX7_hasRun_30 (by decide) ?_
        exact fr_zreturn hB dX7_hasRun_31 (by first | exact fm_nar0 | exact fm_nar1 | exact fm_nar _) (⟨by rw [e, show decide (a + b ≤ c) = false by simp; omega]; rfl, rfl⟩)
      · refine fr_iload_n hB dX7_hasRun_16 rfl rfl ?_
        refine fr_aload_n hB dX7_hasRun_17 rfl rfl ?_
        refine fr_getI hB dX7_hasRun_18 lf_X7_17 hs.o rfl ?_
        refine fr_eqi _ (hc) ?_
        refine fr_iload_n hB dX7_hasRun_21 rfl rfl ?_
        refine fr_isubN hB dX7_hasRun_22 (h3) ?_
        refine fr_icmp_gtN (tgt := 30) hB dX7_hasRun_23 (by decide) (by omega) (by omega) (fun h4 => ?_) (fun h4 => ?_)
        · refine fr_iconst (v := nI 0) hB dX7_hasRun_30 (by decide) ?_
          exact fr_zreturn hB dX7_hasRun_31 (by first | exact fm_nar0 | exact fm_nar1 | exact fm_nar _) (⟨by rw [e, show decide (a + b ≤ c) = false by simp; omega]; rfl, rfl⟩)
        · refine fr_iconst (v := nI 1) hB dX7_hasRun_26 (by decide) ?_
          refine fr_goto (tgt := 31) hB dX7_hasRun_27 (by decide) ?_
          exact fr_zreturn hB dX7_hasRun_31 (by first | exact fm_nar0 | exact fm_nar1 | exact fm_nar _) (⟨by rw [e, show decide (a + b ≤ c) = true by simp; omega]; rfl, rfl⟩)
/-- what an item of a sort keeps of a long -/
def fm_as (so : Nat) (v : Int64) : Int64 := if so = 0 then v.toInt32.toInt8.toInt32.toInt64 else if so = 1 then v.toInt32.toInt16.toInt32.toInt64 else if so = 2 then v.toInt32.toInt64 else if so = 3 then v else if v = 0 then 0 else 1
theorem ct_X7_asItem {sh : List fm_S} {E : fm_E} {k so : Nat} {v : Int64} {M : fm_M} (hs : fm_Tp sh k) (hc : M.1 k 0 = nI so) (h4 : so ≤ 4) : fm_C sh E mX7_asItem 0 [.ref (E.2.1 k), .long v] M (fun r M' => r = some (.long (fm_as so v)) ∧ M' = M) := by
  refine fm_C.of (by decide +kernel) (Nat.le_of_ble_eq_true rfl) ?_
  intro X hE hR hB
  subst hE
  have hB : fm_B _ X cX7_asItem 3 RX7 (some .long) := hB
  refine fr_lv [some (.ref (fm_rh X k)), some (.long v), none] ⟨rfl, rfl, trivial⟩ ?_
  refine fr_aload_n hB dX7_asItem_0 rfl rfl ?_
  refine fr_getI hB dX7_asItem_1 lf_X7_9 hs.o rfl ?_
  refine fr_eqi _ (hc) ?_
  rcases (show so = 0 ∨ so = 1 ∨ so = 2 ∨ so = 3 ∨ so = 4 by omega) with rfl | rfl | rfl | rfl | rfl
  · refine fr_tableIn (tgt := 36) hB dX7_asItem_4 (by decide) (by decide) (by rfl) (by decide) ?_
    refine fr_lload_n hB dX7_asItem_36 rfl rfl ?_
    refine fr_l2i (v := _) hB dX7_asItem_37 (rfl) ?_
    refine fr_i2b (v := _) hB dX7_asItem_38 (rfl) ?_
    refine fr_i2l (v := _) hB dX7_asItem_39 (rfl) ?_
    exact fr_lreturn hB dX7_asItem_40 (⟨rfl, rfl⟩)
  · refine fr_tableIn (tgt := 41) hB dX7_asItem_4 (by decide) (by decide) (by rfl) (by decide) ?_
    refine fr_lload_n hB dX7_asItem_41 rfl rfl ?_
    refine fr_l2i (v := _) hB dX7_asItem_42 (rfl) ?_
    refine fr_i2s (v := _) hB dX7_asItem_43 (rfl) ?_
    refine fr_i2l (v := _) hB dX7_asItem_44 (rfl) ?_
    exact fr_lreturn hB dX7_asItem_45 (⟨rfl, rfl⟩)
  · refine fr_tableIn (tgt := 46) hB dX7_asItem_4 (by decide) (by decide) (by rfl) (by decide) ?_
    refine fr_lload_n hB dX7_asItem_46 rfl rfl ?_
    refine fr_l2i (v := _) hB dX7_asItem_47 (rfl) ?_
    refine fr_i2l (v := _) hB dX7_asItem_48 (rfl) ?_
    exact fr_lreturn hB dX7_asItem_49 (⟨rfl, rfl⟩)
  · refine fr_tableIn (tgt := 50) hB dX7_asItem_4 (by decide) (by decide) (by rfl) (by decide) ?_
    refine fr_lload_n hB dX7_asItem_50 rfl rfl ?_
    exact fr_lreturn hB dX7_asItem_51 (⟨rfl, rfl⟩)
  · refine fr_tableOut (tgt := 52) hB dX7_asItem_4 (by decide) (by decide) ?_
    refine fr_lload_n hB dX7_asItem_52 rfl rfl ?_
    refine fr_lconst (v := 0) hB dX7_asItem_53 (by decide) ?_
    refine fr_lcmp hB dX7_asItem_54 ?_
    refine fr_if_eq (tgt := 62) hB dX7_asItem_55 (by decide) (fun h => ?_) (fun h => ?_)
    · refine fr_lconst (v := 0) hB dX7_asItem_62 (by decide) ?_
      exact fr_lreturn hB dX7_asItem_63 (⟨by rw [show fm_as 4 v = 0 by simp [fm_as, (lg_cmp_eq v 0).mp h]], rfl⟩)
    · refine fr_lconst (v := 1) hB dX7_asItem_58 (by decide) ?_
      refine fr_goto (tgt := 63) hB dX7_asItem_59 (by decide) ?_
      have h2 : ¬ v = 0 := fun q => h ((lg_cmp_eq v 0).mpr q)
      exact fr_lreturn hB dX7_asItem_63 (⟨by rw [show fm_as 4 v = 1 by simp [fm_as, h2]], rfl⟩)
theorem fm_sign : ∀ g : Nat, g < 128 → vp_nar .byte ((nI g).toInt8.toInt32) = nI g := by decide +kernel
theorem ct_X5_addSign {E : fm_E} {c g : Nat} {M : fm_M} (hc : M.1 63 0 = nI c) (h6 : c ≤ 100) (hg : g < 128) : fm_C shC E mX5_addSign 0 [.ref (E.2.1 63), .int (nI g)] M (fun r M' => r = some (.int (if c < 100 then nI (c + 1) else -4)) ∧ M' = if c < 100 then fm_pi (fm_pi M 67 c (nI g)) 63 0 (nI (c + 1)) else M) := by
  refine fm_C.of (by decide +kernel) (Nat.le_of_ble_eq_true rfl) ?_
  intro X hE hR hB
  subst hE
  have hB : fm_B _ X cX5_addSign 2 RX5 (some .int) := hB
  refine fr_lv [some (.ref (fm_rh X 63)), some (.int (nI g))] ⟨rfl, rfl, trivial⟩ ?_
  refine fr_aload_n hB dX5_addSign_0 rfl rfl ?_
  refine fr_getI hB dX5_addSign_1 lf_X5_25 rfl rfl ?_
  refine fr_eqi _ (hc) ?_
  refine fr_bipush (v := nI 100) hB dX5_addSign_4 (by decide) ?_
  refine fr_icmp_ltN (tgt := 12) hB dX5_addSign_6 (by decide) (by omega) (by omega) (fun h => ?_) (fun h => ?_)
  · refine fr_aload_n hB dX5_addSign_12 rfl rfl ?_
    refine fr_getR hB dX5_addSign_13 lf_X5_21 rfl rfl ?_
    refine fr_aload_n hB dX5_addSign_16 rfl rfl ?_
    refine fr_getI hB dX5_addSign_17 lf_X5_25 rfl rfl ?_
    refine fr_eqi _ (hc) ?_
    refine fr_iload_n hB dX5_addSign_20 rfl rfl ?_
    refine fr_i2b (v := _) hB dX5_addSign_21 (rfl) ?_
    refine fr_bast hB (_) dX5_addSign_22 rfl (rfl) (by omega) (by decide) ?_
    rw [fm_sign g hg]
    refine fr_aload_n hB dX5_addSign_23 rfl rfl ?_
    refine fr_dup hB dX5_addSign_24 rfl ?_
    refine fr_getI hB dX5_addSign_25 lf_X5_25 rfl rfl ?_
    refine fr_eqi (nI (c)) (by simp [fm_u_at, hc]) ?_
    refine fr_iconst (v := nI 1) hB dX5_addSign_28 (by decide) ?_
    refine fr_iaddN hB dX5_addSign_29 ?_
    refine fr_putI hB dX5_addSign_30 lp_X5_25 rfl rfl ?_
    refine fr_aload_n hB dX5_addSign_33 rfl rfl ?_
    refine fr_getI hB dX5_addSign_34 lf_X5_25 rfl rfl ?_
    refine fr_eqi (nI (c + 1)) (by simp [fm_u_at]) ?_
    exact fr_ireturn hB dX5_addSign_37 (⟨by rw [if_pos h], by rw [if_pos h]⟩)
  · refine fr_bipush (v := -4) hB dX5_addSign_9 (by decide) ?_
    exact fr_ireturn hB dX5_addSign_11 (⟨by rw [if_neg (Nat.not_lt.mpr h)], by rw [if_neg (Nat.not_lt.mpr h)]⟩)
