/-! ===== FaultGraph: mean, looked, judge, isAsSeen ===== -/
/-- a list's entries are sets -/
def fm_nm (S : fm_SS) : Prop := ∀ i, i < S.1 → ∃ a, a < 64 ∧ S.2 i = nI a
theorem fm_nm.kp {S : fm_SS} (h : fm_nm S) {x : Nat} (hx : x < 64) : fm_nm (fm_kp S x) := by
  unfold fm_kp
  split
  · intro i hi
    have hi : i < S.1 + 1 := hi
    show ∃ a, a < 64 ∧ fm_up S.2 S.1 (nI x) i = nI a
    unfold fm_up
    by_cases e : i = S.1
    · exact ⟨x, hx, by rw [if_pos e]⟩
    · rw [if_neg e]; exact h i (by omega)
  · exact h
theorem fm_nm.inn (q : Nat → Bool) (m : Nat) : ∀ d i (S : fm_SS), i + d ≤ 64 → fm_nm S → fm_nm (fm_inn q m d i S) := by
  intro d
  induction d with
  | zero => intro i S _ h; exact h
  | succ d ih =>
    intro i S hi h
    unfold fm_inn
    apply ih _ _ (by omega)
    split
    · exact h.kp (by omega)
    · exact h
theorem fm_nm.out (q : Nat → Bool) (N : Nat) (hN : N ≤ 64) : ∀ d m (S : fm_SS), fm_nm S → fm_nm (fm_out q N d m S) := by
  intro d
  induction d with
  | zero => intro m S h; exact h
  | succ d ih =>
    intro m S h
    unfold fm_out
    exact ih _ _ (fm_nm.inn q m N 0 S (by omega) h)
theorem fm_LS_nm (T : Int64) {c : Nat} (hc : c ≤ 6) : fm_nm (fm_LS T c) := fm_nm.out _ _ (fm_2c hc).1 _ _ _ (fun i hi => absurd hi (Nat.not_lt_zero i))
theorem fm_sum_congr {f g : Nat → Nat} : ∀ n, (∀ i, i < n → f i = g i) → fm_sum f n = fm_sum g n := by
  intro n
  induction n with
  | zero => intro _; rfl
  | succ n ih =>
    intro h
    unfold fm_sum
    rw [ih (fun i hi => h i (by omega)), h n (by omega)]
/-- how many parts the sets of a list have together -/
def fm_tog (S : fm_SS) : Nat := fm_sum (fun i => fm_bc (S.2 i).toNatClampNeg) S.1
theorem fm_tog_le {S : fm_SS} (h : fm_nm S) (h64 : S.1 ≤ 64) : fm_tog S ≤ 384 := by
  have h1 := fm_sum_le (f := fun i => fm_bc (S.2 i).toNatClampNeg) (b := 6) S.1 (fun i hi => by
    obtain ⟨a, ha, e⟩ := h i hi
    show fm_bc (S.2 i).toNatClampNeg ≤ 6
    rw [e, nI_clamp (by omega)]
    exact fm_bc_le a ha)
  have : fm_tog S = fm_sum (fun i => fm_bc (S.2 i).toNatClampNeg) S.1 := rfl
  omega
def sp_mean (P : fm_P) (l : Int32) : Int64 := if fm_lt l 2 = true ∧ 0 < P 3 0 then (if (fm_LS (fm_TT P) (P 0 0)).1 = 0 then fm_NO else fm_low (lN (fm_tog (fm_LS (fm_TT P) (P 0 0)))) (lN (fm_LS (fm_TT P) (P 0 0)).1) l.toNatClampNeg) else fm_NO
theorem cc_mean {E : fm_E} {l : Int32} {Z : fm_Z} {M : fm_M} (hc : fm_CR Z M) (hw : fm_WZ Z) : fm_C shC E mX8_mean 6 [.ref (E.2.1 0), .int l] M (fun r M' => r = some (.long (sp_mean Z.1 l)) ∧ fm_fr M M') := by
  have h8 := hw.1.1.g8
  have h6 := hw.1.1.p6
  refine fm_C.of (by decide +kernel) (Nat.le_of_ble_eq_true rfl) ?_
  intro X hE hR hB
  subst hE
  have hB : fm_B _ X cX8_mean 3 RX8 (some .long) := hB
  refine fr_lv [some (.ref (fm_rh X 0)), some (.int l), none] ⟨rfl, rfl, trivial⟩ ?_
  refine fr_iload_n hB dX8_mean_0 rfl rfl ?_
  refine fr_callS hB _ _ dX8_mean_1 lm_X8_245 (ct_X8_isLine) rfl rfl (Nat.le_of_ble_eq_true rfl) (fm_room hR (by decide) (by decide)) ?_
  rintro _ M9 ⟨rfl, hM9⟩
  rw [hM9]
  clear hM9 M9
  refine fr_ret1 ?_
  refine fr_if_eqB (tgt := 20) hB dX8_mean_4 (by decide) (fun h => ?_) (fun h => ?_)
  · refine fr_ldc2 (v := -9223372036854775808) hB dX8_mean_20 lc_X8_248 ?_
    exact fr_lreturn hB dX8_mean_23 (⟨by rw [sp_mean, if_neg (fun q => by rw [h] at q; cases q.1)]; rfl, fm_fr.rf M⟩)
  · obtain ⟨a, ha, rfl⟩ := fm_lt_of (by omega) h
    refine fr_aload_n hB dX8_mean_7 rfl rfl ?_
    refine fr_getR hB dX8_mean_8 lf_X8_14 rfl rfl ?_
    refine fr_getR hB dX8_mean_11 lf_X8_67 rfl rfl ?_
    refine fr_getI hB dX8_mean_14 lf_X8_190 rfl rfl ?_
    refine fr_eqi _ (hc.1.pl.gates) ?_
    refine fr_if_neN (tgt := 24) hB dX8_mean_17 (by decide) (by omega) (fun h2 => ?_) (fun h2 => ?_)
    · have hnm := fm_LS_nm (fm_TT Z.1) h6
      have hle := fm_LS_le (fm_TT Z.1) (Z.1 0 0) (fun _ => 0)
      have hle : (fm_LS (fm_TT Z.1) (Z.1 0 0)).1 ≤ 64 := hle
      have htl := fm_tog_le hnm hle
      refine fr_aload_n hB dX8_mean_24 rfl rfl ?_
      refine fr_callV hB _ _ dX8_mean_25 lm_X8_239 rfl (cc_listCutsNow hc hw h2) rfl rfl (Nat.le_of_ble_eq_true rfl) (fm_room hR (by decide) (by decide)) ?_
      rintro _ _ ⟨rfl, M1, S, rfl, hsq, h64, hfr⟩
      refine fr_ret1 ?_
      refine fr_istore_n hB dX8_mean_28 rfl (by decide) rfl ?_
      refine fr_iload_n hB dX8_mean_29 rfl rfl ?_
      generalize hLS : fm_LS (fm_TT Z.1) (Z.1 0 0) = LS at hsq hnm hle htl ⊢
      refine fr_if_neN (tgt := 37) hB dX8_mean_30 (by decide) (by omega) (fun h3 => ?_) (fun h3 => ?_)
      · refine fr_aload_n hB dX8_mean_37 rfl rfl ?_
        refine fr_getR hB dX8_mean_38 lf_X8_38 rfl rfl ?_
        refine fr_callV hB _ _ dX8_mean_41 lm_X8_285 rfl (ct_X2_partsTogether (f := fun i => (S.2 i).toNatClampNeg) h64 (fun i hi => by obtain ⟨q, hq, eq⟩ := hnm i (by rw [← hsq.1]; exact hi); rw [hsq.2 i hi, eq, nI_clamp (show q < 2 ^ 31 by omega)]; exact ⟨rfl, hq⟩)) rfl rfl (Nat.le_of_ble_eq_true rfl) (fm_room hR (by decide) (by decide)) ?_
        rintro _ M9 ⟨rfl, hM9⟩
        rw [hM9]
        clear hM9 M9
        refine fr_ret1 ?_
        rw [show fm_sum (fun i => fm_bc (S.2 i).toNatClampNeg) S.1 = fm_tog LS from by rw [fm_tog, ← hsq.1]; exact fm_sum_congr _ (fun i hi => by rw [hsq.2 i hi])]
        refine fr_i2l (v := lN (fm_tog LS)) hB dX8_mean_44 (nI_l (by omega)) ?_
        refine fr_iload_n hB dX8_mean_45 rfl rfl ?_
        refine fr_i2l (v := lN LS.1) hB dX8_mean_46 (nI_l (by omega)) ?_
        refine fr_iload_n hB dX8_mean_47 rfl rfl ?_
        refine fr_callS hB _ _ dX8_mean_48 lm_X8_258 (ct_X8_lowest (by omega)) rfl rfl (Nat.le_of_ble_eq_true rfl) (fm_room hR (by decide) (by decide)) ?_
        rintro _ M9 ⟨rfl, hM9⟩
        rw [hM9]
        clear hM9 M9
        refine fr_ret1 ?_
        exact fr_lreturn hB dX8_mean_51 (⟨by rw [sp_mean, if_pos ⟨h, h2⟩, hLS, if_neg (by omega), nI_clamp (show a < 2 ^ 31 by omega)], hfr⟩)
      · refine fr_ldc2 (v := -9223372036854775808) hB dX8_mean_33 lc_X8_248 ?_
        exact fr_lreturn hB dX8_mean_36 (⟨by rw [sp_mean, if_pos ⟨h, h2⟩, hLS, if_pos h3]; rfl, hfr⟩)
    · refine fr_ldc2 (v := -9223372036854775808) hB dX8_mean_20 lc_X8_248 ?_
      exact fr_lreturn hB dX8_mean_23 (⟨by rw [sp_mean, if_neg (fun q => by omega)]; rfl, fm_fr.rf M⟩)
/-- the first that isn't -/
def fm_lo (q : Nat → Bool) : Nat → Nat → Int32
  | 0, _ => -5
  | d + 1, i => if q i then fm_lo q d (i + 1) else nI i
def sp_looked (P : fm_P) : Int32 := if P 3 0 = 0 then -3 else fm_lo (fun i => fm_hs (fm_LS (fm_TT P) (P 0 0)).2 (nI (P 19 i)) (fm_LS (fm_TT P) (P 0 0)).1 0) (P 18 0) 0
theorem cc_looked {E : fm_E} {Z : fm_Z} {M : fm_M} (hc : fm_CR Z M) (hw : fm_WZ Z) : fm_C shC E mX8_looked 6 [.ref (E.2.1 0)] M (fun r M' => r = some (.int (sp_looked Z.1)) ∧ fm_fr M M') := by
  have h8 := hw.1.1.g8
  have hr8 := hw.1.2.2.2.1
  refine fm_C.of (by decide +kernel) (Nat.le_of_ble_eq_true rfl) ?_
  intro X hE hR hB
  subst hE
  have hB : fm_B _ X cX8_looked 2 RX8 (some .int) := hB
  refine fr_lv [some (.ref (fm_rh X 0)), none] ⟨rfl, trivial⟩ ?_
  refine fr_aload_n hB dX8_looked_0 rfl rfl ?_
  refine fr_getR hB dX8_looked_1 lf_X8_14 rfl rfl ?_
  refine fr_getR hB dX8_looked_4 lf_X8_67 rfl rfl ?_
  refine fr_getI hB dX8_looked_7 lf_X8_190 rfl rfl ?_
  refine fr_eqi _ (hc.1.pl.gates) ?_
  refine fr_if_neN (tgt := 16) hB dX8_looked_10 (by decide) (by omega) (fun h => ?_) (fun h => ?_)
  · refine fr_aload_n hB dX8_looked_16 rfl rfl ?_
    refine fr_callV hB _ _ dX8_looked_17 lm_X8_239 rfl (cc_listCutsNow hc hw h) rfl rfl (Nat.le_of_ble_eq_true rfl) (fm_room hR (by decide) (by decide)) ?_
    rintro _ _ ⟨rfl, M1, S, rfl, hsq, h64, hfr⟩
    refine fr_ret1 ?_
    refine fr_pop hB dX8_looked_20 rfl ?_
    refine fr_iconst (v := nI 0) hB dX8_looked_21 (by decide) ?_
    refine fr_istore_n hB dX8_looked_22 rfl (by decide) rfl ?_
    have hc2 := hc.fr hfr
    have e : sp_looked Z.1 = fm_lo (fun i => fm_hs S.2 (nI (Z.1 19 i)) S.1 0) (Z.1 18 0) 0 := by
      rw [sp_looked, if_neg (by omega)]
      congr 1
      funext i
      exact (hsq.hs _).symm
    rw [e]
    have l1 : ∀ (d i : Nat), i + d = Z.1 18 0 → fm_W shC X 2 23 [some (.ref (fm_rh X 0)), some (.int (nI i))] [] (fm_sm M1 S) (fm_Q shC X (fun r M' => r = some (.int (fm_lo (fun i => fm_hs S.2 (nI (Z.1 19 i)) S.1 0) d i)) ∧ fm_fr M M')) := by
      intro d
      induction d with
      | zero =>
        intro i hi
        refine fr_iload_n hB dX8_looked_23 rfl rfl ?_
        refine fr_aload_n hB dX8_looked_24 rfl rfl ?_
        refine fr_getR hB dX8_looked_25 lf_X8_14 rfl rfl ?_
        refine fr_getR hB dX8_looked_28 lf_X8_295 rfl rfl ?_
        refine fr_getI hB dX8_looked_31 lf_X8_282 rfl rfl ?_
        refine fr_eqi _ (hc2.1.2.2.2.2.2.2.2.1) ?_
        refine fr_icmp_geN (tgt := 67) hB dX8_looked_34 (by decide) (by omega) (by omega) (fun h2 => ?_) (fun h2 => ?_)
        · refine fr_bipush (v := -5) hB dX8_looked_67 (by decide) ?_
          exact fr_ireturn hB dX8_looked_69 (⟨rfl, hfr⟩)
        · exact absurd h2 (by omega)
      | succ d ih =>
        intro i hi
        refine fr_iload_n hB dX8_looked_23 rfl rfl ?_
        refine fr_aload_n hB dX8_looked_24 rfl rfl ?_
        refine fr_getR hB dX8_looked_25 lf_X8_14 rfl rfl ?_
        refine fr_getR hB dX8_looked_28 lf_X8_295 rfl rfl ?_
        refine fr_getI hB dX8_looked_31 lf_X8_282 rfl rfl ?_
        refine fr_eqi _ (hc2.1.2.2.2.2.2.2.2.1) ?_
        refine fr_icmp_geN (tgt := 67) hB dX8_looked_34 (by decide) (by omega) (by omega) (fun h2 => ?_) (fun h2 => ?_)
        · exact absurd h2 (by omega)
        · have hbk := hc2.1.2.2.2.2.2.2.2.2 i h2
          refine fr_aload_n hB dX8_looked_37 rfl rfl ?_
          refine fr_getR hB dX8_looked_38 lf_X8_38 rfl rfl ?_
          refine fr_aload_n hB dX8_looked_41 rfl rfl ?_
          refine fr_getR hB dX8_looked_42 lf_X8_14 rfl rfl ?_
          refine fr_getR hB dX8_looked_45 lf_X8_295 rfl rfl ?_
          refine fr_getR hB dX8_looked_48 lf_X8_283 rfl rfl ?_
          refine fr_iload_n hB dX8_looked_51 rfl rfl ?_
          refine fr_iald hB (_) dX8_looked_52 rfl (rfl) (by omega) (by decide) ?_
          refine fr_eqi (nI (Z.1 19 i)) (hbk) ?_
          refine fr_callV hB _ _ dX8_looked_53 lm_X8_298 rfl (ct_X2_has h64) rfl rfl (Nat.le_of_ble_eq_true rfl) (fm_room hR (by decide) (by decide)) ?_
          rintro _ M9 ⟨rfl, hM9⟩
          rw [hM9]
          clear hM9 M9
          refine fr_ret1 ?_
          refine fr_if_neB (tgt := 61) hB dX8_looked_56 (by decide) (fun h3 => ?_) (fun h3 => ?_)
          · refine fr_iincN (b := 1) hB dX8_looked_61 rfl (by decide) (by decide) rfl ?_
            refine fr_goto (tgt := 23) hB dX8_looked_64 (by decide) ?_
            have e2 : fm_lo (fun i => fm_hs S.2 (nI (Z.1 19 i)) S.1 0) (d + 1) i = fm_lo (fun i => fm_hs S.2 (nI (Z.1 19 i)) S.1 0) d (i + 1) := by
              show (if fm_hs S.2 (nI (Z.1 19 i)) S.1 0 = true then _ else _) = _
              rw [h3]; rfl
            rw [e2]
            exact ih (i + 1) (by omega)
          · have e2 : fm_lo (fun i => fm_hs S.2 (nI (Z.1 19 i)) S.1 0) (d + 1) i = nI i := by
              show (if fm_hs S.2 (nI (Z.1 19 i)) S.1 0 = true then _ else _) = _
              rw [h3]; rfl
            refine fr_iload_n hB dX8_looked_59 rfl rfl ?_
            exact fr_ireturn hB dX8_looked_60 (⟨by rw [e2], hfr⟩)
    exact l1 (Z.1 18 0) 0 (by omega)
  · refine fr_bipush (v := -3) hB dX8_looked_13 (by decide) ?_
    exact fr_ireturn hB dX8_looked_15 (⟨by rw [sp_looked, if_pos h], fm_fr.rf M⟩)
/-- the first k by which the row tells otherwise -/
def fm_ju (len : Nat) (it : Nat → Int64) (i : Int32) (f : Nat → Int32) : Nat → Nat → Int32
  | 0, _ => -5
  | d + 1, k => if i < 0 ∨ len ≤ i.toNatClampNeg + k then nI (100 + k) else if it (i.toNatClampNeg + k) = (f k).toInt64 then fm_ju len it i f d (k + 1) else nI k
def sp_judge (Z : fm_Z) (t i : Int32) : Int32 := if fm_lt t 6 then (if Z.1 3 0 = 0 then -3 else if 1 < Z.2.2.2.2.1 t.toNatClampNeg then -12 else fm_ju (Z.2.2.2.2.2.1 t.toNatClampNeg) (Z.2.2.2.2.2.2 t.toNatClampNeg) i (fm_LS (fm_TT Z.1) (Z.1 0 0)).2 (fm_LS (fm_TT Z.1) (Z.1 0 0)).1 0) else -1
theorem fm_negs : ∀ l : Nat, l ≤ 60 → ∀ k : Nat, k ≤ 64 → l < k → nI l - nI k < 0 := by decide +kernel
theorem fm_len {l k a : Nat} (hl : l ≤ 60) (hk : k ≤ 64) (ha : a < 2 ^ 31) : nI l - nI k ≤ nI a ↔ l ≤ a + k := by
  by_cases h : k ≤ l
  · rw [nI_sub h, nI_leI (by omega) ha]; omega
  · constructor
    · intro _; omega
    · intro _
      exact Int32.le_of_lt (Int32.lt_of_lt_of_le (fm_negs l hl k hk (by omega)) (nI_pos' ha))
theorem fm_sort0 : ∀ t : Nat, t ≤ 5 → (nI t - 1 = 0 ↔ t = 1) := by decide
theorem cc_judge {E : fm_E} {t i : Int32} {Z : fm_Z} {M : fm_M} (hc : fm_CR Z M) (hw : fm_WZ Z) : fm_C shC E mX8_judge 6 [.ref (E.2.1 0), .int t, .int i] M (fun r M' => r = some (.int (sp_judge Z t i)) ∧ fm_fr M M') := by
  have h8 := hw.1.1.g8
  refine fm_C.of (by decide +kernel) (Nat.le_of_ble_eq_true rfl) ?_
  intro X hE hR hB
  subst hE
  have hB : fm_B _ X cX8_judge 5 RX8 (some .int) := hB
  refine fr_lv [some (.ref (fm_rh X 0)), some (.int t), some (.int i), none, none] ⟨rfl, rfl, rfl, trivial⟩ ?_
  cases ht : fm_lt t 6 with
  | false =>
    have e : sp_judge Z t i = -1 := by rw [sp_judge, ht]; rfl
    refine fr_aload_n hB dX8_judge_0 rfl rfl ?_
    refine fr_iload_n hB dX8_judge_1 rfl rfl ?_
    refine fr_callV hB _ _ dX8_judge_2 lm_X8_301 rfl (ct_tapeOf_out ht) rfl rfl (Nat.le_of_ble_eq_true rfl) (fm_room hR (by decide) (by decide)) ?_
    rintro _ M9 ⟨rfl, hM9⟩
    rw [hM9]
    clear hM9 M9
    refine fr_ret1 ?_
    refine fr_astore_nN hB dX8_judge_5 rfl (by decide) rfl ?_
    refine fr_aload_nN hB dX8_judge_6 rfl rfl ?_
    refine fr_ifnonnullN hB dX8_judge_7 ?_
    refine fr_iconst (v := -1) hB dX8_judge_10 (by decide) ?_
    exact fr_ireturn hB dX8_judge_11 (⟨by rw [e], fm_fr.rf M⟩)
  | true =>
    obtain ⟨a, ha, rfl⟩ := fm_lt_of (by omega) ht
    have ea : (nI a).toNatClampNeg = a := nI_clamp (by omega)
    have htp := shC_Tp a ha
    obtain ⟨k1, k2, k3⟩ := hc.2.2.2 a ha
    obtain ⟨w1, w2, w3⟩ := hw.2.2 a ha
    refine fr_aload_n hB dX8_judge_0 rfl rfl ?_
    refine fr_iload_n hB dX8_judge_1 rfl rfl ?_
    refine fr_callV hB _ _ dX8_judge_2 lm_X8_301 rfl (ct_tapeOf_in ha) rfl rfl (Nat.le_of_ble_eq_true rfl) (fm_room hR (by decide) (by decide)) ?_
    rintro _ M9 ⟨rfl, hM9⟩
    rw [hM9]
    clear hM9 M9
    refine fr_ret1 ?_
    refine fr_reft (fm_rh X (69 + 2 * a)) rfl ?_
    refine fr_astore_n hB dX8_judge_5 rfl (by decide) rfl ?_
    refine fr_aload_n hB dX8_judge_6 rfl rfl ?_
    refine fr_ifnonnull (tgt := 12) hB dX8_judge_7 (by decide) ?_
    refine fr_aload_n hB dX8_judge_12 rfl rfl ?_
    refine fr_getR hB dX8_judge_13 lf_X8_14 rfl rfl ?_
    refine fr_getR hB dX8_judge_16 lf_X8_67 rfl rfl ?_
    refine fr_getI hB dX8_judge_19 lf_X8_190 rfl rfl ?_
    refine fr_eqi _ (hc.1.pl.gates) ?_
    refine fr_if_neN (tgt := 28) hB dX8_judge_22 (by decide) (by omega) (fun hg => ?_) (fun hg => ?_)
    · have cut : ¬ 1 < Z.2.2.2.2.1 a → fm_W shC X 5 46 [some (.ref (fm_rh X 0)), some (.int (nI a)), some (.int i), some (.ref (fm_rh X (69 + 2 * a))), none] [] M (fm_Q shC X (fun r M' => r = some (.int (sp_judge Z (nI a) i)) ∧ fm_fr M M')) := by
        intro hso
        refine fr_aload_n hB dX8_judge_46 rfl rfl ?_
        refine fr_callV hB _ _ dX8_judge_47 lm_X8_239 rfl (cc_listCutsNow hc hw hg) rfl rfl (Nat.le_of_ble_eq_true rfl) (fm_room hR (by decide) (by decide)) ?_
        rintro _ _ ⟨rfl, M1, S, rfl, hsq, h64, hfr⟩
        refine fr_ret1 ?_
        refine fr_pop hB dX8_judge_50 rfl ?_
        refine fr_iconst (v := nI 0) hB dX8_judge_51 (by decide) ?_
        refine fr_istore hB dX8_judge_52 (by decide) rfl ?_
        have hc2 := hc.fr hfr
        obtain ⟨q1, q2, q3⟩ := hc2.2.2.2 a ha
        have e : sp_judge Z (nI a) i = fm_ju (Z.2.2.2.2.2.1 a) (Z.2.2.2.2.2.2 a) i S.2 S.1 0 := by
          rw [sp_judge, if_pos ht, if_neg (by omega), ea, if_neg hso, ← hsq.1]
          have : ∀ d k, k + d = S.1 → fm_ju (Z.2.2.2.2.2.1 a) (Z.2.2.2.2.2.2 a) i (fm_LS (fm_TT Z.1) (Z.1 0 0)).2 d k = fm_ju (Z.2.2.2.2.2.1 a) (Z.2.2.2.2.2.2 a) i S.2 d k := by
            intro d
            induction d with
            | zero => intro k _; rfl
            | succ d ih =>
              intro k hk
              unfold fm_ju
              rw [hsq.2 k (by omega), ih (k + 1) (by omega)]
          exact this S.1 0 (by omega)
        rw [e]
        have l1 : ∀ (d k : Nat), k + d = S.1 → fm_W shC X 5 54 [some (.ref (fm_rh X 0)), some (.int (nI a)), some (.int i), some (.ref (fm_rh X (69 + 2 * a))), some (.int (nI k))] [] (fm_sm M1 S) (fm_Q shC X (fun r M' => r = some (.int (fm_ju (Z.2.2.2.2.2.1 a) (Z.2.2.2.2.2.2 a) i S.2 d k)) ∧ fm_fr M M')) := by
          intro d
          induction d with
          | zero =>
            intro k hk
            refine fr_iload hB dX8_judge_54 rfl ?_
            refine fr_aload_n hB dX8_judge_56 rfl rfl ?_
            refine fr_getR hB dX8_judge_57 lf_X8_38 rfl rfl ?_
            refine fr_getI hB dX8_judge_60 lf_X8_308 rfl rfl ?_
            refine fr_eqi _ (sm_size M1 S) ?_
            refine fr_icmp_geN (tgt := 120) hB dX8_judge_63 (by decide) (by omega) (by omega) (fun h2 => ?_) (fun h2 => ?_)
            · refine fr_bipush (v := -5) hB dX8_judge_120 (by decide) ?_
              exact fr_ireturn hB dX8_judge_122 (⟨rfl, hfr⟩)
            · exact absurd h2 (by omega)
          | succ d ih =>
            intro k hk
            refine fr_iload hB dX8_judge_54 rfl ?_
            refine fr_aload_n hB dX8_judge_56 rfl rfl ?_
            refine fr_getR hB dX8_judge_57 lf_X8_38 rfl rfl ?_
            refine fr_getI hB dX8_judge_60 lf_X8_308 rfl rfl ?_
            refine fr_eqi _ (sm_size M1 S) ?_
            refine fr_icmp_geN (tgt := 120) hB dX8_judge_63 (by decide) (by omega) (by omega) (fun h2 => ?_) (fun h2 => ?_)
            · exact absurd h2 (by omega)
            · refine fr_iload_n hB dX8_judge_66 rfl rfl ?_
              refine fr_if_lt (tgt := 81) hB dX8_judge_67 (by decide) (fun h3 => ?_) (fun h3 => ?_)
              · have e2 : fm_ju (Z.2.2.2.2.2.1 a) (Z.2.2.2.2.2.2 a) i S.2 (d + 1) k = nI (100 + k) := by
                  show (if i < 0 ∨ _ then _ else _) = _
                  rw [if_pos (Or.inl h3)]
                refine fr_bipush (v := nI 100) hB dX8_judge_81 (by decide) ?_
                refine fr_iload hB dX8_judge_83 rfl ?_
                refine fr_iaddN hB dX8_judge_85 ?_
                exact fr_ireturn hB dX8_judge_86 (⟨by rw [e2], hfr⟩)
              · obtain ⟨x, hx, rfl⟩ := nI_of h3
                have ex : (nI x).toNatClampNeg = x := nI_clamp hx
                refine fr_iload_n hB dX8_judge_70 rfl rfl ?_
                refine fr_aload_n hB dX8_judge_71 rfl rfl ?_
                refine fr_getI hB dX8_judge_72 lf_X8_309 htp.o rfl ?_
                refine fr_eqi _ (q2) ?_
                refine fr_iload hB dX8_judge_75 rfl ?_
                refine fr_isub hB dX8_judge_77 ?_
                refine fr_icmp_lt (tgt := 87) hB dX8_judge_78 (by decide) (fun h4 => ?_) (fun h4 => ?_)
                · have h5 : x + k < Z.2.2.2.2.2.1 a := by
                    rcases Nat.lt_or_ge (x + k) (Z.2.2.2.2.2.1 a) with q | q
                    · exact q
                    · exact absurd ((fm_len w2 (by omega) hx).mpr q) (Int32.not_le.mpr h4)
                  have hne : ¬ (nI x < 0 ∨ Z.2.2.2.2.2.1 a ≤ (nI x).toNatClampNeg + k) := by
                    rw [ex]
                    intro q
                    rcases q with q | q
                    · exact h3 q
                    · omega
                  refine fr_aload_n hB dX8_judge_87 rfl rfl ?_
                  refine fr_getR hB dX8_judge_88 lf_X8_312 htp.o rfl ?_
                  refine fr_iload_n hB dX8_judge_91 rfl rfl ?_
                  refine fr_iload hB dX8_judge_92 rfl ?_
                  refine fr_iaddN hB dX8_judge_94 ?_
                  refine fr_lald hB (_) dX8_judge_95 htp.a1 (rfl) (by omega) (by decide) ?_
                  refine fr_eql (Z.2.2.2.2.2.2 a (x + k)) (q3 _ (by omega)) ?_
                  refine fr_aload_n hB dX8_judge_96 rfl rfl ?_
                  refine fr_getR hB dX8_judge_97 lf_X8_38 rfl rfl ?_
                  refine fr_getR hB dX8_judge_100 lf_X8_316 rfl rfl ?_
                  refine fr_iload hB dX8_judge_103 rfl ?_
                  refine fr_iald hB (_) dX8_judge_105 rfl (rfl) (by omega) (by decide) ?_
                  refine fr_eqi (S.2 k) rfl ?_
                  refine fr_i2l (v := _) hB dX8_judge_106 (rfl) ?_
                  refine fr_lcmp hB dX8_judge_107 ?_
                  refine fr_if_eq (tgt := 114) hB dX8_judge_108 (by decide) (fun h6 => ?_) (fun h6 => ?_)
                  · have h6 := (lg_cmp_eq _ _).mp h6
                    have e2 : fm_ju (Z.2.2.2.2.2.1 a) (Z.2.2.2.2.2.2 a) (nI x) S.2 (d + 1) k = fm_ju (Z.2.2.2.2.2.1 a) (Z.2.2.2.2.2.2 a) (nI x) S.2 d (k + 1) := by
                      show (if nI x < 0 ∨ _ then _ else _) = _
                      rw [if_neg hne, ex, if_pos h6]
                    rw [e2]
                    refine fr_iincN (b := 1) hB dX8_judge_114 rfl (by decide) (by decide) rfl ?_
                    refine fr_goto (tgt := 54) hB dX8_judge_117 (by decide) ?_
                    exact ih (k + 1) (by omega)
                  · have h6 : ¬ Z.2.2.2.2.2.2 a (x + k) = (S.2 k).toInt64 := fun q => h6 ((lg_cmp_eq _ _).mpr q)
                    have e2 : fm_ju (Z.2.2.2.2.2.1 a) (Z.2.2.2.2.2.2 a) (nI x) S.2 (d + 1) k = nI k := by
                      show (if nI x < 0 ∨ _ then _ else _) = _
                      rw [if_neg hne, ex, if_neg h6]
                    refine fr_iload hB dX8_judge_111 rfl ?_
                    exact fr_ireturn hB dX8_judge_113 (⟨by rw [e2], hfr⟩)
                · have h5 := (fm_len w2 (show k ≤ 64 by omega) hx).mp (Int32.not_lt.mp h4)
                  have e2 : fm_ju (Z.2.2.2.2.2.1 a) (Z.2.2.2.2.2.2 a) (nI x) S.2 (d + 1) k = nI (100 + k) := by
                    show (if nI x < 0 ∨ _ then _ else _) = _
                    rw [if_pos (Or.inr (by rw [ex]; exact h5))]
                  refine fr_bipush (v := nI 100) hB dX8_judge_81 (by decide) ?_
                  refine fr_iload hB dX8_judge_83 rfl ?_
                  refine fr_iaddN hB dX8_judge_85 ?_
                  exact fr_ireturn hB dX8_judge_86 (⟨by rw [e2], hfr⟩)
        exact l1 S.1 0 (by omega)
      refine fr_aload_n hB dX8_judge_28 rfl rfl ?_
      refine fr_getI hB dX8_judge_29 lf_X8_305 htp.o rfl ?_
      rw [k1]
      refine fr_iconst (v := -1) hB dX8_judge_32 (by decide) ?_
      refine fr_icmp_eq (tgt := 46) hB dX8_judge_33 (by decide) (fun h1 => ?_) (fun h1 => ?_)
      · refine fr_lv [some (.ref (fm_rh X 0)), some (.int (nI a)), some (.int i), some (.ref (fm_rh X (69 + 2 * a))), none] ⟨rfl, rfl, rfl, rfl, trivial⟩ ?_
        exact cut (by have := ((fm_sort _ w1).1).mp h1; omega)
      · refine fr_aload_n hB dX8_judge_36 rfl rfl ?_
        refine fr_getI hB dX8_judge_37 lf_X8_305 htp.o rfl ?_
        rw [k1]
        refine fr_if_eq (tgt := 46) hB dX8_judge_40 (by decide) (fun h2 => ?_) (fun h2 => ?_)
        · refine fr_lv [some (.ref (fm_rh X 0)), some (.int (nI a)), some (.int i), some (.ref (fm_rh X (69 + 2 * a))), none] ⟨rfl, rfl, rfl, rfl, trivial⟩ ?_
          exact cut (by have := (fm_sort0 _ w1).mp h2; omega)
        · have n0 : ¬ Z.2.2.2.2.1 a = 0 := fun q => h1 (((fm_sort _ w1).1).mpr q)
          have n1 : ¬ Z.2.2.2.2.1 a = 1 := fun q => h2 ((fm_sort0 _ w1).mpr q)
          refine fr_bipush (v := -12) hB dX8_judge_43 (by decide) ?_
          exact fr_ireturn hB dX8_judge_45 (⟨by rw [sp_judge, if_pos ht, if_neg (by omega), ea, if_pos (by omega)], fm_fr.rf M⟩)
    · refine fr_bipush (v := -3) hB dX8_judge_25 (by decide) ?_
      exact fr_ireturn hB dX8_judge_27 (⟨by rw [sp_judge, if_pos ht, if_pos hg], fm_fr.rf M⟩)
/-- whether a table says what was seen -/
def fm_asn (P : fm_P) (T : Int64) : Bool := fm_all (fun j => fm_bit T (P 13 j) == decide (P 14 j = 1)) (P 12 0)
theorem cc_isAsSeen {E : fm_E} {T : Int64} {P : fm_P} {M : fm_M} (hr : fm_SR 1 P M) (hw : fm_wF P) : fm_C shC E mX8_isAsSeen 1 [.ref (E.2.1 0), .long T] M (fun r M' => r = some (.int (fm_ib (fm_asn P T))) ∧ M' = M) := by
  obtain ⟨r0, r1, r2, r3, -⟩ := hr
  obtain ⟨w1, -, -, w4, -⟩ := hw.2
  have h2c := fm_2c hw.1.p6
  refine fm_C.of (by decide +kernel) (Nat.le_of_ble_eq_true rfl) ?_
  intro X hE hR hB
  subst hE
  have hB : fm_B _ X cX8_isAsSeen 5 RX8 (some .boolean) := hB
  refine fr_lv [some (.ref (fm_rh X 0)), some (.long T), none, none, none] ⟨rfl, rfl, trivial⟩ ?_
  have l1 : ∀ (d i : Nat), i + d = P 12 0 → (∀ j, j < i → (fm_bit T (P 13 j) == decide (P 14 j = 1)) = true) → fm_W shC X 5 11 [some (.ref (fm_rh X 0)), some (.long T), none, some (.ref (fm_rh X 13)), some (.int (nI i))] [] M (fm_Q shC X (fun r M' => r = some (.int (fm_ib (fm_asn P T))) ∧ M' = M)) := by
    intro d
    induction d with
    | zero =>
      intro i hi hq
      refine fr_iload hB dX8_isAsSeen_11 rfl ?_
      refine fr_aload_n hB dX8_isAsSeen_13 rfl rfl ?_
      refine fr_getI hB dX8_isAsSeen_14 lf_X8_282 rfl rfl ?_
      refine fr_eqi _ (r1) ?_
      refine fr_icmp_geN (tgt := 58) hB dX8_isAsSeen_17 (by decide) (by omega) (by omega) (fun h => ?_) (fun h => ?_)
      · have e : fm_asn P T = true := (fm_all_iff _ _).mpr (fun j hj => hq j (by omega))
        refine fr_iconst (v := nI 1) hB dX8_isAsSeen_58 (by decide) ?_
        exact fr_zreturn hB dX8_isAsSeen_59 (by first | exact fm_nar0 | exact fm_nar1 | exact fm_nar _) (⟨by rw [e]; rfl, rfl⟩)
      · exact absurd h (by omega)
    | succ d ih =>
      intro i hi hq
      have hwi := w4 i (by omega)
      refine fr_iload hB dX8_isAsSeen_11 rfl ?_
      refine fr_aload_n hB dX8_isAsSeen_13 rfl rfl ?_
      refine fr_getI hB dX8_isAsSeen_14 lf_X8_282 rfl rfl ?_
      refine fr_eqi _ (r1) ?_
      refine fr_icmp_geN (tgt := 58) hB dX8_isAsSeen_17 (by decide) (by omega) (by omega) (fun h => ?_) (fun h => ?_)
      · exact absurd h (by omega)
      · have ok : (fm_bit T (P 13 i) == decide (P 14 i = 1)) = true → fm_W shC X 5 52 [some (.ref (fm_rh X 0)), some (.long T), none, some (.ref (fm_rh X 13)), some (.int (nI i))] [] M (fm_Q shC X (fun r M' => r = some (.int (fm_ib (fm_asn P T))) ∧ M' = M)) := by
          intro hok
          refine fr_iincN (b := 1) hB dX8_isAsSeen_52 rfl (by decide) (by decide) rfl ?_
          refine fr_goto (tgt := 11) hB dX8_isAsSeen_55 (by decide) ?_
          refine ih (i + 1) (by omega) (fun j hj => ?_)
          by_cases e : j = i
          · rw [e]; exact hok
          · exact hq j (by omega)
        have no : (fm_bit T (P 13 i) == decide (P 14 i = 1)) = false → fm_W shC X 5 50 [some (.ref (fm_rh X 0)), some (.long T), none, some (.ref (fm_rh X 13)), some (.int (nI i))] [] M (fm_Q shC X (fun r M' => r = some (.int (fm_ib (fm_asn P T))) ∧ M' = M)) := by
          intro hno
          have e : fm_asn P T = false := fm_all_no h hno
          refine fr_iconst (v := nI 0) hB dX8_isAsSeen_50 (by decide) ?_
          exact fr_zreturn hB dX8_isAsSeen_51 (by first | exact fm_nar0 | exact fm_nar1 | exact fm_nar _) (⟨by rw [e]; rfl, rfl⟩)
        refine fr_lload_n hB dX8_isAsSeen_20 rfl rfl ?_
        refine fr_aload_n hB dX8_isAsSeen_21 rfl rfl ?_
        refine fr_getR hB dX8_isAsSeen_22 lf_X8_283 rfl rfl ?_
        refine fr_iload hB dX8_isAsSeen_25 rfl ?_
        refine fr_iald hB (_) dX8_isAsSeen_27 rfl (rfl) (by omega) (by decide) ?_
        refine fr_eqi _ (r2 i h) ?_
        refine fr_callS hB _ _ dX8_isAsSeen_28 lm_X8_180 (ct_X8_says (by omega)) rfl rfl (Nat.le_of_ble_eq_true rfl) (fm_room hR (by decide) (by decide)) ?_
        rintro _ M9 ⟨rfl, hM9⟩
        rw [hM9]
        clear hM9 M9
        refine fr_ret1 ?_
        refine fr_aload_n hB dX8_isAsSeen_31 rfl rfl ?_
        refine fr_getR hB dX8_isAsSeen_32 lf_X8_284 rfl rfl ?_
        refine fr_iload hB dX8_isAsSeen_35 rfl ?_
        refine fr_iald hB (_) dX8_isAsSeen_37 rfl (rfl) (by omega) (by decide) ?_
        refine fr_eqi _ (r3 i h) ?_
        refine fr_iconst (v := nI 1) hB dX8_isAsSeen_38 (by decide) ?_
        refine fr_icmp_neN (tgt := 46) hB dX8_isAsSeen_39 (by decide) (by omega) (by omega) (fun h2 => ?_) (fun h2 => ?_)
        · refine fr_iconst (v := nI 0) hB dX8_isAsSeen_46 (by decide) ?_
          refine fr_icmp_eq (tgt := 52) hB dX8_isAsSeen_47 (by decide) (fun h3 => ?_) (fun h3 => ?_)
          · refine ok ?_
            cases hb : fm_bit T (P 13 i) with
            | true => rw [hb] at h3; exact absurd h3 (by decide)
            | false => simp [h2]
          · refine no ?_
            cases hb : fm_bit T (P 13 i) with
            | true => simp [h2]
            | false => rw [hb] at h3; exact absurd rfl h3
        · refine fr_iconst (v := nI 1) hB dX8_isAsSeen_42 (by decide) ?_
          refine fr_goto (tgt := 47) hB dX8_isAsSeen_43 (by decide) ?_
          refine fr_icmp_eq (tgt := 52) hB dX8_isAsSeen_47 (by decide) (fun h3 => ?_) (fun h3 => ?_)
          · refine ok ?_
            cases hb : fm_bit T (P 13 i) with
            | true => simp [h2]
            | false => rw [hb] at h3; exact absurd h3 (by decide)
          · refine no ?_
            cases hb : fm_bit T (P 13 i) with
            | true => rw [hb] at h3; exact absurd rfl h3
            | false => simp [h2]
  refine fr_aload_n hB dX8_isAsSeen_0 rfl rfl ?_
  refine fr_getR hB dX8_isAsSeen_1 lf_X8_14 rfl rfl ?_
  refine fr_getR hB dX8_isAsSeen_4 lf_X8_266 rfl rfl ?_
  refine fr_astore_n hB dX8_isAsSeen_7 rfl (by decide) rfl ?_
  refine fr_iconst (v := nI 0) hB dX8_isAsSeen_8 (by decide) ?_
  refine fr_istore hB dX8_isAsSeen_9 (by decide) rfl ?_
  exact l1 (P 12 0) 0 (by omega) (fun j hj => absurd hj (by omega))
