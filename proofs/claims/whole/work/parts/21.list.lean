/-! ===== FaultGraph$LeastSets: lists ===== -/
theorem fm_2c {c : Nat} (h : c ≤ 6) : 2 ^ c ≤ 64 ∧ 1 ≤ 2 ^ c := by
  rcases (show c = 0 ∨ c = 1 ∨ c = 2 ∨ c = 3 ∨ c = 4 ∨ c = 5 ∨ c = 6 by omega) with rfl | rfl | rfl | rfl | rfl | rfl | rfl <;> decide
/-- the sets of m parts from i on, d looked at -/
def fm_inn (q : Nat → Bool) (m : Nat) : Nat → Nat → fm_SS → fm_SS
  | 0, _, S => S
  | d + 1, i, S => fm_inn q m d (i + 1) (if decide (fm_bc i = m) && q i then fm_kp S i else S)
def fm_out (q : Nat → Bool) (N : Nat) : Nat → Nat → fm_SS → fm_SS
  | 0, _, S => S
  | d + 1, m, S => fm_out q N d (m + 1) (fm_inn q m N 0 S)
theorem fm_inn_le (q : Nat → Bool) (m : Nat) : ∀ d i S, S.1 ≤ 64 → (fm_inn q m d i S).1 ≤ 64 := by
  intro d
  induction d with
  | zero => intro i S h; exact h
  | succ d ih =>
    intro i S h
    unfold fm_inn
    apply ih
    split
    · exact fm_kp_le S i h
    · exact h
theorem fm_out_le (q : Nat → Bool) (N : Nat) : ∀ d m S, S.1 ≤ 64 → (fm_out q N d m S).1 ≤ 64 := by
  intro d
  induction d with
  | zero => intro m S h; exact h
  | succ d ih =>
    intro m S h
    unfold fm_out
    apply ih
    exact fm_inn_le q m N 0 S h
/-- the least sets that a table tells, listed -/
def fm_lst (T : Int64) (c : Nat) (row : Nat → Int32) : fm_SS := fm_out (fm_ls T c) (2 ^ c) (c + 1) 0 (0, row)
theorem ct_X2_list {E : fm_E} {c : Nat} {T : Int64} {M : fm_M} (hc : c ≤ 6) : fm_C shC E mX2_list 2 [.ref (E.2.1 59), .long T, .int (nI c)] M (fun r M' => r = some (.int (nI (fm_lst T c (M.1 60)).1)) ∧ M' = fm_sm M (fm_lst T c (M.1 60))) := by
  have h2c := fm_2c hc
  refine fm_C.of (by decide +kernel) (Nat.le_of_ble_eq_true rfl) ?_
  intro X hE hR hB
  subst hE
  have hB : fm_B _ X cX2_list 6 RX2 (some .int) := hB
  refine fr_lv [some (.ref (fm_rh X 59)), some (.long T), none, some (.int (nI c)), none, none] ⟨rfl, rfl, rfl, trivial⟩ ?_
  generalize hR0 : fm_lst T c (M.1 60) = R0
  have lo : ∀ (d m : Nat) (S : fm_SS), m + d = c + 1 → S.1 ≤ 64 → fm_out (fm_ls T c) (2 ^ c) d m S = R0 → fm_W shC X 6 8 [some (.ref (fm_rh X 59)), some (.long T), none, some (.int (nI c)), some (.int (nI m)), none] [] (fm_sm M S) (fm_Q shC X (fun r M' => r = some (.int (nI R0.1)) ∧ M' = fm_sm M R0)) := by
    intro d
    induction d with
    | zero =>
      intro m S hm hS hZ
      have hZ : S = R0 := hZ
      refine fr_iload hB dX2_list_8 rfl ?_
      refine fr_iload_n hB dX2_list_10 rfl rfl ?_
      refine fr_icmp_gtN (tgt := 63) hB dX2_list_11 (by decide) (by omega) (by omega) (fun h => ?_) (fun h => ?_)
      · refine fr_aload_n hB dX2_list_63 rfl rfl ?_
        refine fr_getI hB dX2_list_64 lf_X2_27 rfl rfl ?_
        refine fr_eqi _ (sm_size M S) ?_
        exact fr_ireturn hB dX2_list_67 (⟨by rw [hZ], by rw [hZ]⟩)
      · exact absurd h (by omega)
    | succ d ih =>
      intro m S hm hS hZ
      have li : ∀ (e i : Nat) (S : fm_SS), i + e = 2 ^ c → S.1 ≤ 64 → fm_out (fm_ls T c) (2 ^ c) d (m + 1) (fm_inn (fm_ls T c) m e i S) = R0 → fm_W shC X 6 17 [some (.ref (fm_rh X 59)), some (.long T), none, some (.int (nI c)), some (.int (nI m)), some (.int (nI i))] [] (fm_sm M S) (fm_Q shC X (fun r M' => r = some (.int (nI R0.1)) ∧ M' = fm_sm M R0)) := by
        intro e
        induction e with
        | zero =>
          intro i S hi hS hZ
          have hZ : fm_out (fm_ls T c) (2 ^ c) d (m + 1) S = R0 := hZ
          refine fr_iload hB dX2_list_17 rfl ?_
          refine fr_iconst (v := nI 1) hB dX2_list_19 (by decide) ?_
          refine fr_iload_n hB dX2_list_20 rfl rfl ?_
          refine fr_ishl hB dX2_list_21 ?_
          refine fr_eqi (nI (2 ^ c)) (fm_shl1 hc) ?_
          refine fr_icmp_geN (tgt := 57) hB dX2_list_22 (by decide) (by omega) (by omega) (fun h => ?_) (fun h => ?_)
          · refine fr_iincN (b := 1) hB dX2_list_57 rfl (by decide) (by decide) rfl ?_
            refine fr_goto (tgt := 8) hB dX2_list_60 (by decide) ?_
            refine fr_lv [some (.ref (fm_rh X 59)), some (.long T), none, some (.int (nI c)), some (.int (nI (m + 1))), none] ⟨rfl, rfl, rfl, rfl, trivial⟩ ?_
            exact ih (m + 1) S (by omega) hS hZ
          · exact absurd h (by omega)
        | succ e ihe =>
          intro i S hi hS hZ
          have hZ : fm_out (fm_ls T c) (2 ^ c) d (m + 1) (fm_inn (fm_ls T c) m e (i + 1) (if decide (fm_bc i = m) && fm_ls T c i then fm_kp S i else S)) = R0 := hZ
          have hbc := fm_bc_le i (by omega)
          refine fr_iload hB dX2_list_17 rfl ?_
          refine fr_iconst (v := nI 1) hB dX2_list_19 (by decide) ?_
          refine fr_iload_n hB dX2_list_20 rfl rfl ?_
          refine fr_ishl hB dX2_list_21 ?_
          refine fr_eqi (nI (2 ^ c)) (fm_shl1 hc) ?_
          refine fr_icmp_geN (tgt := 57) hB dX2_list_22 (by decide) (by omega) (by omega) (fun h => ?_) (fun h => ?_)
          · exact absurd h (by omega)
          · refine fr_iload hB dX2_list_25 rfl ?_
            refine fr_callS hB _ _ dX2_list_27 lm_X2_31 (ct_bitCount (by omega)) rfl rfl (Nat.le_of_ble_eq_true rfl) (fm_room hR (by decide) (by decide)) ?_
            rintro _ M9 ⟨rfl, hM9⟩
            rw [hM9]
            clear hM9 M9
            refine fr_ret1 ?_
            refine fr_iload hB dX2_list_30 rfl ?_
            refine fr_icmp_neN (tgt := 51) hB dX2_list_32 (by decide) (by omega) (by omega) (fun h2 => ?_) (fun h2 => ?_)
            · refine fr_iincN (b := 1) hB dX2_list_51 rfl (by decide) (by decide) rfl ?_
              refine fr_goto (tgt := 17) hB dX2_list_54 (by decide) ?_
              rw [show (decide (fm_bc i = m) && fm_ls T c i) = false by simp [h2]] at hZ
              exact ihe (i + 1) S (by omega) hS hZ
            · refine fr_lload_n hB dX2_list_35 rfl rfl ?_
              refine fr_iload hB dX2_list_36 rfl ?_
              refine fr_iload_n hB dX2_list_38 rfl rfl ?_
              refine fr_callS hB _ _ dX2_list_39 lm_X2_37 (ct_X2_isLeast (by omega) hc trivial) rfl rfl (Nat.le_of_ble_eq_true rfl) (fm_room hR (by decide) (by decide)) ?_
              rintro _ M9 ⟨rfl, hM9⟩
              rw [hM9]
              clear hM9 M9
              refine fr_ret1 ?_
              refine fr_if_eqB (tgt := 51) hB dX2_list_42 (by decide) (fun h3 => ?_) (fun h3 => ?_)
              · refine fr_iincN (b := 1) hB dX2_list_51 rfl (by decide) (by decide) rfl ?_
                refine fr_goto (tgt := 17) hB dX2_list_54 (by decide) ?_
                rw [show (decide (fm_bc i = m) && fm_ls T c i) = false by simp [h3]] at hZ
                exact ihe (i + 1) S (by omega) hS hZ
              · rw [show (decide (fm_bc i = m) && fm_ls T c i) = true by simp [h2, h3]] at hZ
                refine fr_aload_n hB dX2_list_45 rfl rfl ?_
                refine fr_iload hB dX2_list_46 rfl ?_
                refine fr_callV hB _ _ dX2_list_48 lm_X2_41 rfl (ct_X2_keep hS) rfl rfl (Nat.le_of_ble_eq_true rfl) (fm_room hR (by decide) (by decide)) ?_
                rintro _ M9 ⟨rfl, hM9⟩
                rw [hM9]
                clear hM9 M9
                refine fr_ret0 ?_
                refine fr_iincN (b := 1) hB dX2_list_51 rfl (by decide) (by decide) rfl ?_
                refine fr_goto (tgt := 17) hB dX2_list_54 (by decide) ?_
                exact ihe (i + 1) (fm_kp S i) (by omega) (fm_kp_le S i hS) hZ
      refine fr_iload hB dX2_list_8 rfl ?_
      refine fr_iload_n hB dX2_list_10 rfl rfl ?_
      refine fr_icmp_gtN (tgt := 63) hB dX2_list_11 (by decide) (by omega) (by omega) (fun h => ?_) (fun h => ?_)
      · exact absurd h (by omega)
      · refine fr_iconst (v := nI 0) hB dX2_list_14 (by decide) ?_
        refine fr_istore hB dX2_list_15 (by decide) rfl ?_
        exact li (2 ^ c) 0 S (by omega) hS hZ
  refine fr_aload_n hB dX2_list_0 rfl rfl ?_
  refine fr_iconst (v := nI 0) hB dX2_list_1 (by decide) ?_
  refine fr_putI hB dX2_list_2 lp_X2_27 rfl rfl ?_
  rw [sm_0]
  refine fr_iconst (v := nI 0) hB dX2_list_5 (by decide) ?_
  refine fr_istore hB dX2_list_6 (by decide) rfl ?_
  exact lo (c + 1) 0 (0, M.1 60) (by omega) (by show 0 ≤ 64; omega) hR0
theorem ct_X2_listCuts {E : fm_E} {c : Nat} {T : Int64} {M : fm_M} (hc : c ≤ 6) : fm_C shC E mX2_listCuts 3 [.ref (E.2.1 59), .long T, .int (nI c)] M (fun r M' => r = some (.int (nI (fm_lst T c (M.1 60)).1)) ∧ M' = fm_sm M (fm_lst T c (M.1 60))) := by
  refine fm_C.of (by decide +kernel) (Nat.le_of_ble_eq_true rfl) ?_
  intro X hE hR hB
  subst hE
  have hB : fm_B _ X cX2_listCuts 4 RX2 (some .int) := hB
  refine fr_lv [some (.ref (fm_rh X 59)), some (.long T), none, some (.int (nI c))] ⟨rfl, rfl, rfl, trivial⟩ ?_
  refine fr_aload_n hB dX2_listCuts_0 rfl rfl ?_
  refine fr_lload_n hB dX2_listCuts_1 rfl rfl ?_
  refine fr_iload_n hB dX2_listCuts_2 rfl rfl ?_
  refine fr_callV hB _ _ dX2_listCuts_3 lm_X2_15 rfl (ct_X2_list hc) rfl rfl (Nat.le_of_ble_eq_true rfl) (fm_room hR (by decide) (by decide)) ?_
  rintro _ M9 ⟨rfl, hM9⟩
  rw [hM9]
  clear hM9 M9
  refine fr_ret1 ?_
  exact fr_ireturn hB dX2_listCuts_6 (⟨rfl, rfl⟩)
/-- the table of the sets that keep the top up -/
def fm_ku (T : Int64) : Int64 := fm_mk (fun s => !fm_bit T (63 - s)) 64
theorem ct_X2_listPaths {E : fm_E} {c : Nat} {T : Int64} {M : fm_M} (hc : c ≤ 6) : fm_C shC E mX2_listPaths 3 [.ref (E.2.1 59), .long T, .int (nI c)] M (fun r M' => r = some (.int (nI (fm_lst (fm_ku T) c (M.1 60)).1)) ∧ M' = fm_sm M (fm_lst (fm_ku T) c (M.1 60))) := by
  refine fm_C.of (by decide +kernel) (Nat.le_of_ble_eq_true rfl) ?_
  intro X hE hR hB
  subst hE
  have hB : fm_B _ X cX2_listPaths 4 RX2 (some .int) := hB
  refine fr_lv [some (.ref (fm_rh X 59)), some (.long T), none, some (.int (nI c))] ⟨rfl, rfl, rfl, trivial⟩ ?_
  refine fr_aload_n hB dX2_listPaths_0 rfl rfl ?_
  refine fr_lload_n hB dX2_listPaths_1 rfl rfl ?_
  refine fr_callS hB _ _ dX2_listPaths_2 lm_X2_19 (ct_X2_keepsUp) rfl rfl (Nat.le_of_ble_eq_true rfl) (fm_room hR (by decide) (by decide)) ?_
  rintro _ M9 ⟨rfl, hM9⟩
  rw [hM9]
  clear hM9 M9
  refine fr_ret1 ?_
  refine fr_iload_n hB dX2_listPaths_5 rfl rfl ?_
  refine fr_callV hB _ _ dX2_listPaths_6 lm_X2_15 rfl (ct_X2_list hc) rfl rfl (Nat.le_of_ble_eq_true rfl) (fm_room hR (by decide) (by decide)) ?_
  rintro _ M9 ⟨rfl, hM9⟩
  rw [hM9]
  clear hM9 M9
  refine fr_ret1 ?_
  exact fr_ireturn hB dX2_listPaths_9 (⟨rfl, rfl⟩)
/-- the k-th of a list -/
def fm_kth (S : fm_SS) (n : Int32) : Int32 := if fm_lt n S.1 then S.2 n.toNatClampNeg else -1
theorem ct_X2_bitsOf {E : fm_E} {n : Int32} {S : fm_SS} {M : fm_M} (h64 : S.1 ≤ 64) : fm_C shC E mX2_bitsOf 0 [.ref (E.2.1 59), .int n] (fm_sm M S) (fun r M' => r = some (.int (fm_kth S n)) ∧ M' = fm_sm M S) := by
  refine fm_C.of (by decide +kernel) (Nat.le_of_ble_eq_true rfl) ?_
  intro X hE hR hB
  subst hE
  have hB : fm_B _ X cX2_bitsOf 2 RX2 (some .int) := hB
  refine fr_lv [some (.ref (fm_rh X 59)), some (.int n)] ⟨rfl, rfl, trivial⟩ ?_
  refine fr_iload_n hB dX2_bitsOf_0 rfl rfl ?_
  refine fr_if_lt (tgt := 21) hB dX2_bitsOf_1 (by decide) (fun h => ?_) (fun h => ?_)
  · refine fr_iconst (v := -1) hB dX2_bitsOf_21 (by decide) ?_
    exact fr_ireturn hB dX2_bitsOf_22 (⟨by rw [fm_kth, fm_lt_neg _ h]; rfl, rfl⟩)
  · obtain ⟨a, ha, rfl⟩ := nI_of h
    refine fr_iload_n hB dX2_bitsOf_4 rfl rfl ?_
    refine fr_aload_n hB dX2_bitsOf_5 rfl rfl ?_
    refine fr_getI hB dX2_bitsOf_6 lf_X2_27 rfl rfl ?_
    refine fr_eqi _ (sm_size M S) ?_
    refine fr_icmp_geN (tgt := 21) hB dX2_bitsOf_9 (by decide) (by omega) (by omega) (fun h2 => ?_) (fun h2 => ?_)
    · refine fr_iconst (v := -1) hB dX2_bitsOf_21 (by decide) ?_
      exact fr_ireturn hB dX2_bitsOf_22 (⟨by rw [fm_kth, fm_lt_nat ha (by omega), show decide (a < S.1) = false by simp [h2]]; rfl, rfl⟩)
    · refine fr_aload_n hB dX2_bitsOf_12 rfl rfl ?_
      refine fr_getR hB dX2_bitsOf_13 lf_X2_9 rfl rfl ?_
      refine fr_iload_n hB dX2_bitsOf_16 rfl rfl ?_
      refine fr_iald hB (_) dX2_bitsOf_17 rfl (rfl) (by omega) (by decide) ?_
      refine fr_goto (tgt := 22) hB dX2_bitsOf_18 (by decide) ?_
      exact fr_ireturn hB dX2_bitsOf_22 (⟨by rw [fm_kth, fm_lt_nat ha (by omega), show decide (a < S.1) = true by simp [h2], nI_clamp ha]; rfl, rfl⟩)
/-- one of the first d from i on is x -/
def fm_hs (f : Nat → Int32) (x : Int32) : Nat → Nat → Bool
  | 0, _ => false
  | d + 1, i => if f i = x then true else fm_hs f x d (i + 1)
theorem ct_X2_has {E : fm_E} {x : Int32} {S : fm_SS} {M : fm_M} (h64 : S.1 ≤ 64) : fm_C shC E mX2_has 0 [.ref (E.2.1 59), .int x] (fm_sm M S) (fun r M' => r = some (.int (fm_ib (fm_hs S.2 x S.1 0))) ∧ M' = fm_sm M S) := by
  refine fm_C.of (by decide +kernel) (Nat.le_of_ble_eq_true rfl) ?_
  intro X hE hR hB
  subst hE
  have hB : fm_B _ X cX2_has 3 RX2 (some .boolean) := hB
  refine fr_lv [some (.ref (fm_rh X 59)), some (.int x), none] ⟨rfl, rfl, trivial⟩ ?_
  have l1 : ∀ (d i : Nat), i + d = S.1 → fm_W shC X 3 2 [some (.ref (fm_rh X 59)), some (.int x), some (.int (nI i))] [] (fm_sm M S) (fm_Q shC X (fun r M' => r = some (.int (fm_ib (fm_hs S.2 x d i))) ∧ M' = fm_sm M S)) := by
    intro d
    induction d with
    | zero =>
      intro i hi
      refine fr_iload_n hB dX2_has_2 rfl rfl ?_
      refine fr_aload_n hB dX2_has_3 rfl rfl ?_
      refine fr_getI hB dX2_has_4 lf_X2_27 rfl rfl ?_
      refine fr_eqi _ (sm_size M S) ?_
      refine fr_icmp_geN (tgt := 28) hB dX2_has_7 (by decide) (by omega) (by omega) (fun h => ?_) (fun h => ?_)
      · refine fr_iconst (v := nI 0) hB dX2_has_28 (by decide) ?_
        exact fr_zreturn hB dX2_has_29 (by first | exact fm_nar0 | exact fm_nar1 | exact fm_nar _) (⟨rfl, rfl⟩)
      · exact absurd h (by omega)
    | succ d ih =>
      intro i hi
      refine fr_iload_n hB dX2_has_2 rfl rfl ?_
      refine fr_aload_n hB dX2_has_3 rfl rfl ?_
      refine fr_getI hB dX2_has_4 lf_X2_27 rfl rfl ?_
      refine fr_eqi _ (sm_size M S) ?_
      refine fr_icmp_geN (tgt := 28) hB dX2_has_7 (by decide) (by omega) (by omega) (fun h => ?_) (fun h => ?_)
      · exact absurd h (by omega)
      · refine fr_aload_n hB dX2_has_10 rfl rfl ?_
        refine fr_getR hB dX2_has_11 lf_X2_9 rfl rfl ?_
        refine fr_iload_n hB dX2_has_14 rfl rfl ?_
        refine fr_iald hB (_) dX2_has_15 rfl (rfl) (by omega) (by decide) ?_
        refine fr_iload_n hB dX2_has_16 rfl rfl ?_
        refine fr_icmp_ne (tgt := 22) hB dX2_has_17 (by decide) (fun h2 => ?_) (fun h2 => ?_)
        · have h3 : ¬ S.2 i = x := h2
          refine fr_iincN (b := 1) hB dX2_has_22 rfl (by decide) (by decide) rfl ?_
          refine fr_goto (tgt := 2) hB dX2_has_25 (by decide) ?_
          have e : fm_hs S.2 x (d + 1) i = fm_hs S.2 x d (i + 1) := by
            show (if S.2 i = x then true else _) = _
            rw [if_neg h3]
          rw [e]
          exact ih (i + 1) (by omega)
        · have h3 : S.2 i = x := Decidable.not_not.mp h2
          have e : fm_hs S.2 x (d + 1) i = true := by
            show (if S.2 i = x then true else _) = _
            rw [if_pos h3]
          refine fr_iconst (v := nI 1) hB dX2_has_20 (by decide) ?_
          exact fr_zreturn hB dX2_has_21 (by first | exact fm_nar0 | exact fm_nar1 | exact fm_nar _) (⟨by rw [e]; rfl, rfl⟩)
  refine fr_iconst (v := nI 0) hB dX2_has_0 (by decide) ?_
  refine fr_istore_n hB dX2_has_1 rfl (by decide) rfl ?_
  exact l1 S.1 0 (by omega)
/-- how many parts the first n sets have together -/
def fm_sum (f : Nat → Nat) : Nat → Nat
  | 0 => 0
  | n + 1 => fm_sum f n + f n
theorem fm_sum_le {f : Nat → Nat} {b : Nat} : ∀ n, (∀ i, i < n → f i ≤ b) → fm_sum f n ≤ b * n := by
  intro n
  induction n with
  | zero => intro _; exact Nat.le_refl 0
  | succ n ih =>
    intro h
    unfold fm_sum
    have h1 := ih (fun i hi => h i (by omega))
    have h2 := h n (by omega)
    rw [Nat.mul_succ]
    omega
theorem ct_X2_partsTogether {E : fm_E} {f : Nat → Nat} {S : fm_SS} {M : fm_M} (h64 : S.1 ≤ 64) (hf : ∀ i, i < S.1 → S.2 i = nI (f i) ∧ f i < 64) : fm_C shC E mX2_partsTogether 1 [.ref (E.2.1 59)] (fm_sm M S) (fun r M' => r = some (.int (nI (fm_sum (fun i => fm_bc (f i)) S.1))) ∧ M' = fm_sm M S) := by
  refine fm_C.of (by decide +kernel) (Nat.le_of_ble_eq_true rfl) ?_
  intro X hE hR hB
  subst hE
  have hB : fm_B _ X cX2_partsTogether 3 RX2 (some .int) := hB
  refine fr_lv [some (.ref (fm_rh X 59)), none, none] ⟨rfl, trivial⟩ ?_
  have l1 : ∀ (d i : Nat), i + d = S.1 → fm_W shC X 3 4 [some (.ref (fm_rh X 59)), some (.int (nI (fm_sum (fun i => fm_bc (f i)) i))), some (.int (nI i))] [] (fm_sm M S) (fm_Q shC X (fun r M' => r = some (.int (nI (fm_sum (fun i => fm_bc (f i)) S.1))) ∧ M' = fm_sm M S)) := by
    intro d
    induction d with
    | zero =>
      intro i hi
      have e : i = S.1 := by omega
      refine fr_iload_n hB dX2_partsTogether_4 rfl rfl ?_
      refine fr_aload_n hB dX2_partsTogether_5 rfl rfl ?_
      refine fr_getI hB dX2_partsTogether_6 lf_X2_27 rfl rfl ?_
      refine fr_eqi _ (sm_size M S) ?_
      refine fr_icmp_geN (tgt := 30) hB dX2_partsTogether_9 (by decide) (by omega) (by omega) (fun h => ?_) (fun h => ?_)
      · refine fr_iload_n hB dX2_partsTogether_30 rfl rfl ?_
        exact fr_ireturn hB dX2_partsTogether_31 (⟨by rw [e], rfl⟩)
      · exact absurd h (by omega)
    | succ d ih =>
      intro i hi
      refine fr_iload_n hB dX2_partsTogether_4 rfl rfl ?_
      refine fr_aload_n hB dX2_partsTogether_5 rfl rfl ?_
      refine fr_getI hB dX2_partsTogether_6 lf_X2_27 rfl rfl ?_
      refine fr_eqi _ (sm_size M S) ?_
      refine fr_icmp_geN (tgt := 30) hB dX2_partsTogether_9 (by decide) (by omega) (by omega) (fun h => ?_) (fun h => ?_)
      · exact absurd h (by omega)
      · have hfi := hf i h
        refine fr_iload_n hB dX2_partsTogether_12 rfl rfl ?_
        refine fr_aload_n hB dX2_partsTogether_13 rfl rfl ?_
        refine fr_getR hB dX2_partsTogether_14 lf_X2_9 rfl rfl ?_
        refine fr_iload_n hB dX2_partsTogether_17 rfl rfl ?_
        refine fr_iald hB (_) dX2_partsTogether_18 rfl (rfl) (by omega) (by decide) ?_
        refine fr_eqi (nI (f i)) (hfi.1) ?_
        refine fr_callS hB _ _ dX2_partsTogether_19 lm_X2_31 (ct_bitCount hfi.2) rfl rfl (Nat.le_of_ble_eq_true rfl) (fm_room hR (by decide) (by decide)) ?_
        rintro _ M9 ⟨rfl, hM9⟩
        rw [hM9]
        clear hM9 M9
        refine fr_ret1 ?_
        refine fr_iaddN hB dX2_partsTogether_22 ?_
        refine fr_istore_n hB dX2_partsTogether_23 rfl (by decide) rfl ?_
        refine fr_iincN (b := 1) hB dX2_partsTogether_24 rfl (by decide) (by decide) rfl ?_
        refine fr_goto (tgt := 4) hB dX2_partsTogether_27 (by decide) ?_
        exact ih (i + 1) (by omega)
  refine fr_iconst (v := nI 0) hB dX2_partsTogether_0 (by decide) ?_
  refine fr_istore_n hB dX2_partsTogether_1 rfl (by decide) rfl ?_
  refine fr_iconst (v := nI 0) hB dX2_partsTogether_2 (by decide) ?_
  refine fr_istore_n hB dX2_partsTogether_3 rfl (by decide) rfl ?_
  exact l1 S.1 0 (by omega)
