/-! ===== FaultGraph$Chances: weights, the most; fractions in lowest terms ===== -/
theorem fm_sp1_congr {b N : Nat} {o : Int64} {L L' : Nat → Int64} {s : Nat} (hs : s < N) (h : ∀ j, j < N → L j = L' j) : ∀ j, j < N → fm_sp1 b o N L s j = fm_sp1 b o N L' s j := by
  intro j hj
  unfold fm_sp1
  split
  · rename_i hw
    unfold fm_up
    rw [h s hs, h j hj, h _ hw]
  · unfold fm_up
    rw [h s hs, h j hj]
theorem fm_spr_congr {b N : Nat} {o : Int64} : ∀ (n : Nat) (L L' : Nat → Int64), n ≤ N → (∀ j, j < N → L j = L' j) → ∀ j, j < N → fm_spr b o N n L j = fm_spr b o N n L' j := by
  intro n
  induction n with
  | zero => intro L L' _ h j hj; exact h j hj
  | succ n ih =>
    intro L L' hn h j hj
    unfold fm_spr
    exact ih _ _ (by omega) (fm_sp1_congr (by omega) h) j hj
theorem fm_lk_congr (P : fm_P) (so : Int32) (oo : Nat) (L L' : Nat → Int64) : ∀ j, j < 2 ^ P 0 0 → fm_lk P so oo L j = fm_lk P so oo L' j := by
  unfold fm_lk
  have h0 : ∀ j, j < 2 ^ P 0 0 → fm_ini (2 ^ P 0 0) L j = fm_ini (2 ^ P 0 0) L' j := by
    intro j hj
    unfold fm_ini
    rw [if_pos hj, if_pos hj]
  have h1 : ∀ n j, j < 2 ^ P 0 0 → fm_pp (fm_o1 P so oo) (2 ^ P 0 0) n (fm_ini (2 ^ P 0 0) L) j = fm_pp (fm_o1 P so oo) (2 ^ P 0 0) n (fm_ini (2 ^ P 0 0) L') j := by
    intro n
    induction n with
    | zero => exact h0
    | succ n ih =>
      intro j hj
      unfold fm_pp
      exact fm_spr_congr _ _ _ (Nat.le_refl _) ih j hj
  have h2 : ∀ n j, j < 2 ^ P 0 0 → fm_qq (P 11) (fm_o2 P so oo) (2 ^ P 0 0) n (fm_pp (fm_o1 P so oo) (2 ^ P 0 0) (P 0 0) (fm_ini (2 ^ P 0 0) L)) j = fm_qq (P 11) (fm_o2 P so oo) (2 ^ P 0 0) n (fm_pp (fm_o1 P so oo) (2 ^ P 0 0) (P 0 0) (fm_ini (2 ^ P 0 0) L')) j := by
    intro n
    induction n with
    | zero => exact h1 (P 0 0)
    | succ n ih =>
      intro j hj
      unfold fm_qq
      exact fm_spr_congr _ _ _ (Nat.le_refl _) ih j hj
  exact h2 (P 9 0)
theorem fm_so_congr (T : Int64) {L L' : Nat → Int64} : ∀ n, (∀ j, j < n → L j = L' j) → fm_so T L n = fm_so T L' n := by
  intro n
  induction n with
  | zero => intro _; rfl
  | succ n ih =>
    intro h
    unfold fm_so
    rw [ih (fun j hj => h j (by omega)), h n (by omega)]
/-- what stands above the line -/
def fm_ab (P : fm_P) (T : Int64) (so : Int32) (oo : Nat) : Int64 := fm_abv P T so oo (fun _ => 0)
theorem fm_ab_eq (P : fm_P) (T : Int64) (so : Int32) (oo : Nat) (L : Nat → Int64) : fm_abv P T so oo L = fm_ab P T so oo := fm_so_congr T _ (fm_lk_congr P so oo L _)
theorem ct_X0_ab {E : fm_E} {k oo : Nat} {so : Int32} {T : Int64} {P : fm_P} {M : fm_M} (hs : fm_Pl shC k) (hr : fm_PR k P M) (hw : fm_wf P) (hoo : oo ≤ 100) : fm_C shC E mX0_above 2 [.ref (E.2.1 61), .ref (E.2.1 k), .long T, .int so, .int (nI oo)] M (fun r M' => r = some (.long (fm_ab P T so oo)) ∧ ∃ L, M' = (M.1, fm_row M.2 62 L)) := by
  refine (ct_X0_above (so := so) (T := T) hs hr hw hoo rfl).mono ?_
  rintro r M' ⟨h1, h2⟩
  exact ⟨by rw [h1, fm_ab_eq], _, h2⟩
def fm_wt (P : fm_P) (T : Int64) (p : Nat) : Int64 := fm_ab P T (nI p) 100 - fm_ab P T (nI p) 0
theorem ct_X0_weightAbove {E : fm_E} {k p : Nat} {T : Int64} {P : fm_P} {M : fm_M} (hs : fm_Pl shC k) (hr : fm_PR k P M) (hw : fm_wf P) : fm_C shC E mX0_weightAbove 3 [.ref (E.2.1 61), .ref (E.2.1 k), .long T, .int (nI p)] M (fun r M' => r = some (.long (fm_wt P T p)) ∧ ∃ L, M' = (M.1, fm_row M.2 62 L)) := by
  refine fm_C.of (by decide +kernel) (Nat.le_of_ble_eq_true rfl) ?_
  intro X hE hR hB
  subst hE
  have hB : fm_B _ X cX0_weightAbove 5 RX0 (some .long) := hB
  refine fr_lv [some (.ref (fm_rh X 61)), some (.ref (fm_rh X k)), some (.long T), none, some (.int (nI p))] ⟨rfl, rfl, rfl, rfl, trivial⟩ ?_
  refine fr_aload_n hB dX0_weightAbove_0 rfl rfl ?_
  refine fr_aload_n hB dX0_weightAbove_1 rfl rfl ?_
  refine fr_lload_n hB dX0_weightAbove_2 rfl rfl ?_
  refine fr_iload hB dX0_weightAbove_3 rfl ?_
  refine fr_bipush (v := nI 100) hB dX0_weightAbove_5 (by decide) ?_
  refine fr_callV hB _ _ dX0_weightAbove_7 lm_X0_48 rfl (ct_X0_ab hs hr hw (by omega)) rfl rfl (Nat.le_of_ble_eq_true rfl) (fm_room hR (by decide) (by decide)) ?_
  rintro _ M9 ⟨rfl, L, hM9⟩
  rw [hM9]
  clear hM9 M9
  refine fr_ret1 ?_
  refine fr_aload_n hB dX0_weightAbove_10 rfl rfl ?_
  refine fr_aload_n hB dX0_weightAbove_11 rfl rfl ?_
  refine fr_lload_n hB dX0_weightAbove_12 rfl rfl ?_
  refine fr_iload hB dX0_weightAbove_13 rfl ?_
  refine fr_iconst (v := nI 0) hB dX0_weightAbove_15 (by decide) ?_
  refine fr_callV hB _ _ dX0_weightAbove_16 lm_X0_48 rfl (ct_X0_ab hs (hr.l _) hw (by omega)) rfl rfl (Nat.le_of_ble_eq_true rfl) (fm_room hR (by decide) (by decide)) ?_
  rintro _ M9 ⟨rfl, L2, hM9⟩
  rw [hM9]
  clear hM9 M9
  refine fr_ret1 ?_
  refine fr_lsub hB dX0_weightAbove_19 ?_
  exact fr_lreturn hB dX0_weightAbove_20 (⟨rfl, L2, by show (M.1, fm_row (fm_row M.2 62 L) 62 L2) = _; rw [fm_row_row]⟩)
def fm_mo (w : Nat → Int64) : Nat → Nat → Int32 → Int64 → Int32
  | 0, _, m, _ => m
  | d + 1, p, m, g => if g < w p then fm_mo w d (p + 1) (nI p) (w p) else fm_mo w d (p + 1) m g
def fm_most (P : fm_P) (T : Int64) : Int32 := fm_mo (fm_wt P T) (P 0 0) 0 (-5) (-1)
theorem ct_X0_mostOf {E : fm_E} {k : Nat} {T : Int64} {P : fm_P} {M : fm_M} (hs : fm_Pl shC k) (hr : fm_PR k P M) (hw : fm_wf P) : fm_C shC E mX0_mostOf 4 [.ref (E.2.1 61), .ref (E.2.1 k), .long T] M (fun r M' => r = some (.int (fm_most P T)) ∧ ∃ L, M' = (M.1, fm_row M.2 62 L)) := by
  have h6 := hw.p6
  refine fm_C.of (by decide +kernel) (Nat.le_of_ble_eq_true rfl) ?_
  intro X hE hR hB
  subst hE
  have hB : fm_B _ X cX0_mostOf 10 RX0 (some .int) := hB
  refine fr_lv [some (.ref (fm_rh X 61)), some (.ref (fm_rh X k)), some (.long T), none, none, none, none, none, none, none] ⟨rfl, rfl, rfl, trivial⟩ ?_
  generalize hZ0 : fm_most P T = Z
  have l1 : ∀ (d p : Nat) (m : Int32) (g : Int64) (L : Nat → Int64), p + d = P 0 0 → fm_mo (fm_wt P T) d p m g = Z → fm_W shC X 10 12 [some (.ref (fm_rh X 61)), some (.ref (fm_rh X k)), some (.long T), none, some (.int m), some (.long g), none, some (.int (nI p)), none, none] [] (M.1, fm_row M.2 62 L) (fm_Q shC X (fun r M' => r = some (.int Z) ∧ ∃ L, M' = (M.1, fm_row M.2 62 L))) := by
    intro d
    induction d with
    | zero =>
      intro p m g L hp hZ
      have hZ : m = Z := hZ
      refine fr_iload hB dX0_mostOf_12 rfl ?_
      refine fr_aload_n hB dX0_mostOf_14 rfl rfl ?_
      refine fr_getI hB dX0_mostOf_15 lf_X0_15 hs.o rfl ?_
      refine fr_eqi _ (hr.parts) ?_
      refine fr_icmp_geN (tgt := 53) hB dX0_mostOf_18 (by decide) (by omega) (by omega) (fun h => ?_) (fun h => ?_)
      · refine fr_iload hB dX0_mostOf_53 rfl ?_
        exact fr_ireturn hB dX0_mostOf_55 (⟨by rw [hZ], L, rfl⟩)
      · exact absurd h (by omega)
    | succ d ih =>
      intro p m g L hp hZ
      have hZ : (if g < fm_wt P T p then fm_mo (fm_wt P T) d (p + 1) (nI p) (fm_wt P T p) else fm_mo (fm_wt P T) d (p + 1) m g) = Z := hZ
      refine fr_iload hB dX0_mostOf_12 rfl ?_
      refine fr_aload_n hB dX0_mostOf_14 rfl rfl ?_
      refine fr_getI hB dX0_mostOf_15 lf_X0_15 hs.o rfl ?_
      refine fr_eqi _ (hr.parts) ?_
      refine fr_icmp_geN (tgt := 53) hB dX0_mostOf_18 (by decide) (by omega) (by omega) (fun h => ?_) (fun h => ?_)
      · exact absurd h (by omega)
      · refine fr_aload_n hB dX0_mostOf_21 rfl rfl ?_
        refine fr_aload_n hB dX0_mostOf_22 rfl rfl ?_
        refine fr_lload_n hB dX0_mostOf_23 rfl rfl ?_
        refine fr_iload hB dX0_mostOf_24 rfl ?_
        refine fr_callV hB _ _ dX0_mostOf_26 lm_X0_54 rfl (ct_X0_weightAbove hs (hr.l _) hw) rfl rfl (Nat.le_of_ble_eq_true rfl) (fm_room hR (by decide) (by decide)) ?_
        rintro _ M9 ⟨rfl, L2, hM9⟩
        rw [hM9]
        clear hM9 M9
        refine fr_ret1 ?_
        refine fr_lstore hB dX0_mostOf_29 (by decide) rfl ?_
        refine fr_lload hB dX0_mostOf_31 rfl ?_
        refine fr_lload hB dX0_mostOf_33 rfl ?_
        refine fr_lcmp hB dX0_mostOf_35 ?_
        refine fr_mem (M.1, fm_row M.2 62 L2) (by show (M.1, fm_row (fm_row M.2 62 L) 62 L2) = _; rw [fm_row_row]) ?_
        refine fr_if_le (tgt := 47) hB dX0_mostOf_36 (by decide) (fun h2 => ?_) (fun h2 => ?_)
        · have h3 : ¬ g < fm_wt P T p := Int64.not_lt.mpr ((lg_cmp_le _ _).mp h2)
          rw [if_neg h3] at hZ
          refine fr_iincN (b := 1) hB dX0_mostOf_47 rfl (by decide) (by decide) rfl ?_
          refine fr_goto (tgt := 12) hB dX0_mostOf_50 (by decide) ?_
          refine fr_lv [some (.ref (fm_rh X 61)), some (.ref (fm_rh X k)), some (.long T), none, some (.int m), some (.long g), none, some (.int (nI (p + 1))), none, none] ⟨rfl, rfl, rfl, rfl, rfl, rfl, trivial⟩ ?_
          exact ih (p + 1) m g L2 (by omega) hZ
        · have h3 : g < fm_wt P T p := Int64.not_le.mp (fun q => h2 ((lg_cmp_le _ _).mpr q))
          rw [if_pos h3] at hZ
          refine fr_lload hB dX0_mostOf_39 rfl ?_
          refine fr_lstore hB dX0_mostOf_41 (by decide) rfl ?_
          refine fr_iload hB dX0_mostOf_43 rfl ?_
          refine fr_istore hB dX0_mostOf_45 (by decide) rfl ?_
          refine fr_iincN (b := 1) hB dX0_mostOf_47 rfl (by decide) (by decide) rfl ?_
          refine fr_goto (tgt := 12) hB dX0_mostOf_50 (by decide) ?_
          refine fr_lv [some (.ref (fm_rh X 61)), some (.ref (fm_rh X k)), some (.long T), none, some (.int (nI p)), some (.long (fm_wt P T p)), none, some (.int (nI (p + 1))), none, none] ⟨rfl, rfl, rfl, rfl, rfl, rfl, trivial⟩ ?_
          exact ih (p + 1) (nI p) (fm_wt P T p) L2 (by omega) hZ
  refine fr_bipush (v := -5) hB dX0_mostOf_0 (by decide) ?_
  refine fr_istore hB dX0_mostOf_2 (by decide) rfl ?_
  refine fr_ldc2 (v := -1) hB dX0_mostOf_4 lc_X0_52 ?_
  refine fr_lstore hB dX0_mostOf_7 (by decide) rfl ?_
  refine fr_iconst (v := nI 0) hB dX0_mostOf_9 (by decide) ?_
  refine fr_istore hB dX0_mostOf_10 (by decide) rfl ?_
  refine fr_mem (M.1, fm_row M.2 62 (M.2 62)) (by rw [fm_row_self]) ?_
  exact l1 (P 0 0) 0 (-5) (-1) _ (by omega) hZ0
/-- a hundred, n times -/
def fm_h : Nat → Int64
  | 0 => 1
  | n + 1 => fm_h n * 100
theorem ct_X0_below {E : fm_E} {k : Nat} {P : fm_P} {M : fm_M} (hs : fm_Pl shC k) (hr : fm_PR k P M) (hw : fm_wf P) : fm_C shC E mX0_below 0 [.ref (E.2.1 61), .ref (E.2.1 k)] M (fun r M' => r = some (.long (fm_h (P 0 0 + P 9 0))) ∧ M' = M) := by
  have h6 := hw.p6
  have h3 := hw.c3
  refine fm_C.of (by decide +kernel) (Nat.le_of_ble_eq_true rfl) ?_
  intro X hE hR hB
  subst hE
  have hB : fm_B _ X cX0_below 5 RX0 (some .long) := hB
  refine fr_lv [some (.ref (fm_rh X 61)), some (.ref (fm_rh X k)), none, none, none] ⟨rfl, rfl, trivial⟩ ?_
  have l1 : ∀ (d i : Nat), i + d = P 0 0 + P 9 0 → fm_W shC X 5 5 [some (.ref (fm_rh X 61)), some (.ref (fm_rh X k)), some (.long (fm_h i)), none, some (.int (nI i))] [] M (fm_Q shC X (fun r M' => r = some (.long (fm_h (P 0 0 + P 9 0))) ∧ M' = M)) := by
    intro d
    induction d with
    | zero =>
      intro i hi
      have e : i = P 0 0 + P 9 0 := by omega
      refine fr_iload hB dX0_below_5 rfl ?_
      refine fr_aload_n hB dX0_below_7 rfl rfl ?_
      refine fr_getI hB dX0_below_8 lf_X0_15 hs.o rfl ?_
      refine fr_eqi _ (hr.parts) ?_
      refine fr_aload_n hB dX0_below_11 rfl rfl ?_
      refine fr_getI hB dX0_below_12 lf_X0_21 hs.o rfl ?_
      refine fr_eqi _ (hr.causes) ?_
      refine fr_iaddN hB dX0_below_15 ?_
      refine fr_icmp_geN (tgt := 31) hB dX0_below_16 (by decide) (by omega) (by omega) (fun h => ?_) (fun h => ?_)
      · refine fr_lload_n hB dX0_below_31 rfl rfl ?_
        exact fr_lreturn hB dX0_below_32 (⟨by rw [e], rfl⟩)
      · exact absurd h (by omega)
    | succ d ih =>
      intro i hi
      refine fr_iload hB dX0_below_5 rfl ?_
      refine fr_aload_n hB dX0_below_7 rfl rfl ?_
      refine fr_getI hB dX0_below_8 lf_X0_15 hs.o rfl ?_
      refine fr_eqi _ (hr.parts) ?_
      refine fr_aload_n hB dX0_below_11 rfl rfl ?_
      refine fr_getI hB dX0_below_12 lf_X0_21 hs.o rfl ?_
      refine fr_eqi _ (hr.causes) ?_
      refine fr_iaddN hB dX0_below_15 ?_
      refine fr_icmp_geN (tgt := 31) hB dX0_below_16 (by decide) (by omega) (by omega) (fun h => ?_) (fun h => ?_)
      · exact absurd h (by omega)
      · refine fr_lload_n hB dX0_below_19 rfl rfl ?_
        refine fr_ldc2 (v := 100) hB dX0_below_20 lc_X0_24 ?_
        refine fr_lmul hB dX0_below_23 ?_
        refine fr_lstore_n hB dX0_below_24 rfl (by decide) rfl ?_
        refine fr_iincN (b := 1) hB dX0_below_25 rfl (by decide) (by decide) rfl ?_
        refine fr_goto (tgt := 5) hB dX0_below_28 (by decide) ?_
        exact ih (i + 1) (by omega)
  refine fr_lconst (v := 1) hB dX0_below_0 (by decide) ?_
  refine fr_lstore_n hB dX0_below_1 rfl (by decide) rfl ?_
  refine fr_iconst (v := nI 0) hB dX0_below_2 (by decide) ?_
  refine fr_istore hB dX0_below_3 (by decide) rfl ?_
  exact l1 (P 0 0 + P 9 0) 0 (by omega)
/-- Euclid's way, so many steps at most -/
def fm_gcd : Nat → Int64 → Int64 → Int64
  | 0, a, _ => a
  | d + 1, a, b => if b = 0 then a else fm_gcd d b (a - a / b * b)
theorem ct_X8_commonDivisor {sh : List fm_S} {E : fm_E} {x y : Int64} {M : fm_M} : fm_C sh E mX8_commonDivisor 0 [.long x, .long y] M (fun r M' => r = some (.long (fm_gcd 200 y x)) ∧ M' = M) := by
  refine fm_C.of (by decide +kernel) (Nat.le_of_ble_eq_true rfl) ?_
  intro X hE hR hB
  subst hE
  have hB : fm_B _ X cX8_commonDivisor 11 RX8 (some .long) := hB
  refine fr_lv [some (.long x), none, some (.long y), none, none, none, none, none, none, none, none] ⟨rfl, rfl, trivial⟩ ?_
  generalize hZ0 : fm_gcd 200 y x = Z
  have l1 : ∀ (d i : Nat) (a b : Int64), i + d = 200 → fm_gcd d a b = Z → fm_W sh X 11 9 [some (.long x), none, some (.long y), none, some (.long a), none, some (.long b), none, some (.int (nI i)), none, none] [] M (fm_Q sh X (fun r M' => r = some (.long Z) ∧ M' = M)) := by
    intro d
    induction d with
    | zero =>
      intro i a b hi hZ
      have hZ : a = Z := hZ
      refine fr_iload hB dX8_commonDivisor_9 rfl ?_
      refine fr_sipush (v := nI 200) hB dX8_commonDivisor_11 (by decide) ?_
      refine fr_icmp_geN (tgt := 45) hB dX8_commonDivisor_14 (by decide) (by omega) (by omega) (fun h => ?_) (fun h => ?_)
      · refine fr_lload hB dX8_commonDivisor_45 rfl ?_
        exact fr_lreturn hB dX8_commonDivisor_47 (⟨by rw [hZ], rfl⟩)
      · exact absurd h (by omega)
    | succ d ih =>
      intro i a b hi hZ
      have hZ : (if b = 0 then a else fm_gcd d b (a - a / b * b)) = Z := hZ
      refine fr_iload hB dX8_commonDivisor_9 rfl ?_
      refine fr_sipush (v := nI 200) hB dX8_commonDivisor_11 (by decide) ?_
      refine fr_icmp_geN (tgt := 45) hB dX8_commonDivisor_14 (by decide) (by omega) (by omega) (fun h => ?_) (fun h => ?_)
      · exact absurd h (by omega)
      · refine fr_lload hB dX8_commonDivisor_17 rfl ?_
        refine fr_lconst (v := 0) hB dX8_commonDivisor_19 (by decide) ?_
        refine fr_lcmp hB dX8_commonDivisor_20 ?_
        refine fr_if_eq (tgt := 45) hB dX8_commonDivisor_21 (by decide) (fun h2 => ?_) (fun h2 => ?_)
        · have h3 := (lg_cmp_eq _ _).mp h2
          rw [if_pos h3] at hZ
          refine fr_lload hB dX8_commonDivisor_45 rfl ?_
          exact fr_lreturn hB dX8_commonDivisor_47 (⟨by rw [hZ], rfl⟩)
        · have h3 : ¬ b = 0 := fun q => h2 ((lg_cmp_eq _ _).mpr q)
          rw [if_neg h3] at hZ
          refine fr_lload hB dX8_commonDivisor_24 rfl ?_
          refine fr_lload hB dX8_commonDivisor_26 rfl ?_
          refine fr_lrem hB dX8_commonDivisor_28 (h3) ?_
          refine fr_lstore hB dX8_commonDivisor_29 (by decide) rfl ?_
          refine fr_lload hB dX8_commonDivisor_31 rfl ?_
          refine fr_lstore hB dX8_commonDivisor_33 (by decide) rfl ?_
          refine fr_lload hB dX8_commonDivisor_35 rfl ?_
          refine fr_lstore hB dX8_commonDivisor_37 (by decide) rfl ?_
          refine fr_iincN (b := 1) hB dX8_commonDivisor_39 rfl (by decide) (by decide) rfl ?_
          refine fr_goto (tgt := 9) hB dX8_commonDivisor_42 (by decide) ?_
          refine fr_lv [some (.long x), none, some (.long y), none, some (.long b), none, some (.long (a - a / b * b)), none, some (.int (nI (i + 1))), none, none] ⟨rfl, rfl, rfl, rfl, rfl, trivial⟩ ?_
          exact ih (i + 1) b _ (by omega) hZ
  refine fr_lload_n hB dX8_commonDivisor_0 rfl rfl ?_
  refine fr_lstore hB dX8_commonDivisor_1 (by decide) rfl ?_
  refine fr_lload_n hB dX8_commonDivisor_3 rfl rfl ?_
  refine fr_lstore hB dX8_commonDivisor_4 (by decide) rfl ?_
  refine fr_iconst (v := nI 0) hB dX8_commonDivisor_6 (by decide) ?_
  refine fr_istore hB dX8_commonDivisor_7 (by decide) rfl ?_
  exact l1 200 0 y x (by omega) hZ0
/-- one side of a fraction in lowest terms -/
def fm_low (x y : Int64) (line : Nat) : Int64 := if 0 < fm_gcd 200 y x then (if line = 0 then x else y) / fm_gcd 200 y x else (if line = 0 then x else y)
theorem ct_X8_lowest {sh : List fm_S} {E : fm_E} {x y : Int64} {line : Nat} {M : fm_M} (hl : line ≤ 1) : fm_C sh E mX8_lowest 1 [.long x, .long y, .int (nI line)] M (fun r M' => r = some (.long (fm_low x y line)) ∧ M' = M) := by
  refine fm_C.of (by decide +kernel) (Nat.le_of_ble_eq_true rfl) ?_
  intro X hE hR hB
  subst hE
  have hB : fm_B _ X cX8_lowest 9 RX8 (some .long) := hB
  refine fr_lv [some (.long x), none, some (.long y), none, some (.int (nI line)), none, none, none, none] ⟨rfl, rfl, rfl, trivial⟩ ?_
  have cut : ∀ z : Int64, z = (if line = 0 then x else y) → fm_W sh X 9 17 [some (.long x), none, some (.long y), none, some (.int (nI line)), some (.long (fm_gcd 200 y x)), none, none, none] [.long z] M (fm_Q sh X (fun r M' => r = some (.long (fm_low x y line)) ∧ M' = M)) := by
    intro z hz
    refine fr_lstore hB dX8_lowest_17 (by decide) rfl ?_
    refine fr_lload hB dX8_lowest_19 rfl ?_
    refine fr_lconst (v := 0) hB dX8_lowest_21 (by decide) ?_
    refine fr_lcmp hB dX8_lowest_22 ?_
    refine fr_if_le (tgt := 34) hB dX8_lowest_23 (by decide) (fun h => ?_) (fun h => ?_)
    · have h3 : ¬ 0 < fm_gcd 200 y x := Int64.not_lt.mpr ((lg_cmp_le _ _).mp h)
      refine fr_lload hB dX8_lowest_34 rfl ?_
      exact fr_lreturn hB dX8_lowest_36 (⟨by rw [fm_low, if_neg h3, hz], rfl⟩)
    · have h3 : 0 < fm_gcd 200 y x := Int64.not_le.mp (fun q => h ((lg_cmp_le _ _).mpr q))
      refine fr_lload hB dX8_lowest_26 rfl ?_
      refine fr_lload hB dX8_lowest_28 rfl ?_
      refine fr_ldiv hB dX8_lowest_30 (fun q => by rw [q] at h3; exact absurd h3 (by decide)) ?_
      refine fr_goto (tgt := 36) hB dX8_lowest_31 (by decide) ?_
      exact fr_lreturn hB dX8_lowest_36 (⟨by rw [fm_low, if_pos h3, hz], rfl⟩)
  refine fr_lload_n hB dX8_lowest_0 rfl rfl ?_
  refine fr_lload_n hB dX8_lowest_1 rfl rfl ?_
  refine fr_callS hB _ _ dX8_lowest_2 lm_X8_344 (ct_X8_commonDivisor) rfl rfl (Nat.le_of_ble_eq_true rfl) (fm_room hR (by decide) (by decide)) ?_
  rintro _ M9 ⟨rfl, hM9⟩
  rw [hM9]
  clear hM9 M9
  refine fr_ret1 ?_
  refine fr_lstore hB dX8_lowest_5 (by decide) rfl ?_
  refine fr_iload hB dX8_lowest_7 rfl ?_
  refine fr_if_neN (tgt := 16) hB dX8_lowest_9 (by decide) (by omega) (fun h => ?_) (fun h => ?_)
  · refine fr_lload_n hB dX8_lowest_16 rfl rfl ?_
    exact cut y (by rw [if_neg (by omega)])
  · refine fr_lload_n hB dX8_lowest_12 rfl rfl ?_
    refine fr_goto (tgt := 17) hB dX8_lowest_13 (by decide) ?_
    exact cut x (by rw [if_pos h])
