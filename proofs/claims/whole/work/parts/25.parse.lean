/-! ===== FaultGraph$SetUpText: clauses, the whole text ===== -/
def fm_tok (S : fm_TS) : Prop := S.1 ≤ 100 ∧ S.2.1 ≤ 16
theorem fm_ps_ok {f : Nat → Nat} {z x : Nat} {S : fm_TS} (hz : z ≤ 100) (h : fm_tok S) : fm_tok (fm_ps f z x S).2 := by
  unfold fm_ps
  split
  · exact ⟨by show S.1 + 1 ≤ 100; omega, h.2⟩
  · exact h
theorem fm_dg_ok {f : Nat → Nat} {z : Nat} (d : Nat) (o : Option Nat) {S : fm_TS} (hz : z ≤ 100) (h : fm_tok S) : fm_tok ((fm_dg f z d o S.1).2, S.2) := ⟨(fm_dg_at f z d o S.1 h.1 hz).1, h.2⟩
theorem fm_kc_ok (so : Nat) (o1 o2 : Option Nat) {S : fm_TS} (h : fm_tok S) : fm_tok (fm_kc so o1 o2 S).2 := by
  cases o1 with
  | none => exact h
  | some a =>
    cases o2 with
    | none => exact h
    | some b =>
      simp only [fm_kc]
      split
      · exact ⟨h.1, by show S.2.1 + 1 ≤ 16; omega⟩
      · exact h
theorem fm_dg1 (f : Nat → Nat) (z d a : Nat) (hd : d ≤ 3) : ∀ v, (fm_dg f z d none a).1 = some v → v < 1 * fm_p10 d := fm_dg_lt f z d none a 1 (fun v hv => by cases hv) (by omega)
theorem fm_dg3 (f : Nat → Nat) (z d a : Nat) (hd : d ≤ 3) : ∀ v, (fm_dg f z d none a).1 = some v → v < 2 ^ 31 := by
  intro v hv
  have h1 := fm_dg1 f z d a hd v hv
  have : fm_p10 d ≤ 1000 := by
    rcases (show d = 0 ∨ d = 1 ∨ d = 2 ∨ d = 3 by omega) with rfl | rfl | rfl | rfl <;> decide
  omega
/-- an input's clause, behind its j -/
def fm_pin (f : Nat → Nat) (z : Nat) (S : fm_TS) : Bool × fm_TS := match (fm_dg f z 1 none S.1).1 with
  | none => (false, ((fm_dg f z 1 none S.1).2, S.2))
  | some g =>
    if (fm_ps f z 112 ((fm_dg f z 1 none S.1).2, S.2)).1 = true then
      fm_kc 2 (some g) (fm_dg f z 1 none (fm_ps f z 112 ((fm_dg f z 1 none S.1).2, S.2)).2.1).1 ((fm_dg f z 1 none (fm_ps f z 112 ((fm_dg f z 1 none S.1).2, S.2)).2.1).2, (fm_ps f z 112 ((fm_dg f z 1 none S.1).2, S.2)).2.2)
    else if (fm_ps f z 103 ((fm_dg f z 1 none S.1).2, S.2)).1 = true then
      fm_kc 3 (some g) (fm_dg f z 1 none (fm_ps f z 103 ((fm_dg f z 1 none S.1).2, S.2)).2.1).1 ((fm_dg f z 1 none (fm_ps f z 103 ((fm_dg f z 1 none S.1).2, S.2)).2.1).2, (fm_ps f z 103 ((fm_dg f z 1 none S.1).2, S.2)).2.2)
    else (false, ((fm_dg f z 1 none S.1).2, S.2))
theorem fm_ps_no {f : Nat → Nat} {z x : Nat} {S : fm_TS} (h : (fm_ps f z x S).1 = false) : (fm_ps f z x S).2 = S := by
  unfold fm_ps at h ⊢
  split at h
  · cases h
  · rename_i hc; rw [if_neg hc]
theorem fm_pin_ok {f : Nat → Nat} {z : Nat} {S : fm_TS} (hz : z ≤ 100) (h : fm_tok S) : fm_tok (fm_pin f z S).2 := by
  have h1 := fm_dg_ok (f := f) (z := z) 1 none hz h
  unfold fm_pin
  split
  · exact h1
  · split
    · exact fm_kc_ok _ _ _ (fm_dg_ok 1 none hz (fm_ps_ok hz h1))
    · split
      · exact fm_kc_ok _ _ _ (fm_dg_ok 1 none hz (fm_ps_ok hz h1))
      · exact h1
theorem ct_X5_parseInput {E : fm_E} {z : Nat} {f : Nat → Nat} {S : fm_TS} {M : fm_M} (ht : fm_tx f z M) (ho : fm_tok S) : fm_C shC E mX5_parseInput 2 [.ref (E.2.1 63)] (fm_tm M S) (fun r M' => r = some (.int (fm_ib (fm_pin f z S).1)) ∧ M' = fm_tm M (fm_pin f z S).2) := by
  have hz := ht.2.1
  have h1 := fm_dg_ok (f := f) (z := z) 1 none hz ho
  refine fm_C.of (by decide +kernel) (Nat.le_of_ble_eq_true rfl) ?_
  intro X hE hR hB
  subst hE
  have hB : fm_B _ X cX5_parseInput 2 RX5 (some .boolean) := hB
  refine fr_lv [some (.ref (fm_rh X 63)), none] ⟨rfl, trivial⟩ ?_
  refine fr_aload_n hB dX5_parseInput_0 rfl rfl ?_
  refine fr_iconst (v := nI 1) hB dX5_parseInput_1 (by decide) ?_
  refine fr_callV hB _ _ dX5_parseInput_2 lm_X5_43 rfl (ct_X5_digits ht (by omega) ho.1) rfl rfl (Nat.le_of_ble_eq_true rfl) (fm_room hR (by decide) (by decide)) ?_
  rintro _ M9 ⟨rfl, hM9⟩
  rw [hM9]
  clear hM9 M9
  refine fr_ret1 ?_
  refine fr_istore_n hB dX5_parseInput_5 rfl (by decide) rfl ?_
  refine fr_iload_n hB dX5_parseInput_6 rfl rfl ?_
  cases hD : (fm_dg f z 1 none S.1).1 with
  | none =>
    have e : fm_pin f z S = (false, ((fm_dg f z 1 none S.1).2, S.2)) := by rw [fm_pin, hD]
    refine fr_if_ge (tgt := 12) hB dX5_parseInput_7 (by decide) (fun h => ?_) (fun h => ?_)
    · exact absurd h (by decide)
    · refine fr_iconst (v := nI 0) hB dX5_parseInput_10 (by decide) ?_
      exact fr_zreturn hB dX5_parseInput_11 (by first | exact fm_nar0 | exact fm_nar1 | exact fm_nar _) (⟨by rw [e]; rfl, by rw [e]⟩)
  | some g =>
    have hg := fm_dg3 f z 1 S.1 (by omega) g hD
    refine fr_if_ge (tgt := 12) hB dX5_parseInput_7 (by decide) (fun h => ?_) (fun h => ?_)
    · refine fr_aload_n hB dX5_parseInput_12 rfl rfl ?_
      refine fr_bipush (v := nI 112) hB dX5_parseInput_13 (by decide) ?_
      refine fr_callV hB _ _ dX5_parseInput_15 lm_X5_39 rfl (ct_X5_passes ht (by omega) h1.1) rfl rfl (Nat.le_of_ble_eq_true rfl) (fm_room hR (by decide) (by decide)) ?_
      rintro _ M9 ⟨rfl, hM9⟩
      rw [hM9]
      clear hM9 M9
      refine fr_ret1 ?_
      refine fr_if_eqB (tgt := 33) hB dX5_parseInput_18 (by decide) (fun h2 => ?_) (fun h2 => ?_)
      · rw [fm_ps_no h2]
        refine fr_aload_n hB dX5_parseInput_33 rfl rfl ?_
        refine fr_bipush (v := nI 103) hB dX5_parseInput_34 (by decide) ?_
        refine fr_callV hB _ _ dX5_parseInput_36 lm_X5_39 rfl (ct_X5_passes ht (by omega) h1.1) rfl rfl (Nat.le_of_ble_eq_true rfl) (fm_room hR (by decide) (by decide)) ?_
        rintro _ M9 ⟨rfl, hM9⟩
        rw [hM9]
        clear hM9 M9
        refine fr_ret1 ?_
        refine fr_if_eqB (tgt := 60) hB dX5_parseInput_39 (by decide) (fun h3 => ?_) (fun h3 => ?_)
        · rw [fm_ps_no h3]
          have e : fm_pin f z S = (false, ((fm_dg f z 1 none S.1).2, S.2)) := by
            rw [fm_pin, hD]
            simp only [h2, h3, Bool.false_eq_true, if_false]
          refine fr_iconst (v := nI 0) hB dX5_parseInput_60 (by decide) ?_
          exact fr_zreturn hB dX5_parseInput_61 (by first | exact fm_nar0 | exact fm_nar1 | exact fm_nar _) (⟨by rw [e]; rfl, by rw [e]⟩)
        · have e : fm_pin f z S = fm_kc 3 (some g) (fm_dg f z 1 none (fm_ps f z 103 ((fm_dg f z 1 none S.1).2, S.2)).2.1).1 ((fm_dg f z 1 none (fm_ps f z 103 ((fm_dg f z 1 none S.1).2, S.2)).2.1).2, (fm_ps f z 103 ((fm_dg f z 1 none S.1).2, S.2)).2.2) := by
            rw [fm_pin, hD]
            simp only [h2, h3, Bool.false_eq_true, if_false, if_true]
          have h4 := fm_ps_ok (f := f) (z := z) (x := 103) hz h1
          refine fr_aload_n hB dX5_parseInput_42 rfl rfl ?_
          refine fr_iconst (v := nI 3) hB dX5_parseInput_43 (by decide) ?_
          refine fr_iload_n hB dX5_parseInput_44 rfl rfl ?_
          refine fr_aload_n hB dX5_parseInput_45 rfl rfl ?_
          refine fr_iconst (v := nI 1) hB dX5_parseInput_46 (by decide) ?_
          refine fr_callV hB _ _ dX5_parseInput_47 lm_X5_43 rfl (ct_X5_digits ht (by omega) h4.1) rfl rfl (Nat.le_of_ble_eq_true rfl) (fm_room hR (by decide) (by decide)) ?_
          rintro _ M9 ⟨rfl, hM9⟩
          rw [hM9]
          clear hM9 M9
          refine fr_ret1 ?_
          refine fr_callV hB _ _ dX5_parseInput_50 lm_X5_47 rfl (ct_X5_keep (o1 := some g) (fun v hv => by rw [← Option.some.inj hv]; exact hg) (fm_dg3 f z 1 _ (by omega)) (fm_dg_ok 1 none hz h4).2) rfl rfl (Nat.le_of_ble_eq_true rfl) (fm_room hR (by decide) (by decide)) ?_
          rintro _ M9 ⟨rfl, hM9⟩
          rw [hM9]
          clear hM9 M9
          refine fr_ret1 ?_
          rw [← e]
          refine fr_if_eqB (tgt := 60) hB dX5_parseInput_53 (by decide) (fun h5 => ?_) (fun h5 => ?_)
          · refine fr_iconst (v := nI 0) hB dX5_parseInput_60 (by decide) ?_
            exact fr_zreturn hB dX5_parseInput_61 (by first | exact fm_nar0 | exact fm_nar1 | exact fm_nar _) (⟨by rw [h5]; rfl, rfl⟩)
          · refine fr_iconst (v := nI 1) hB dX5_parseInput_56 (by decide) ?_
            refine fr_goto (tgt := 61) hB dX5_parseInput_57 (by decide) ?_
            exact fr_zreturn hB dX5_parseInput_61 (by first | exact fm_nar0 | exact fm_nar1 | exact fm_nar _) (⟨by rw [h5]; rfl, rfl⟩)
      · have e : fm_pin f z S = fm_kc 2 (some g) (fm_dg f z 1 none (fm_ps f z 112 ((fm_dg f z 1 none S.1).2, S.2)).2.1).1 ((fm_dg f z 1 none (fm_ps f z 112 ((fm_dg f z 1 none S.1).2, S.2)).2.1).2, (fm_ps f z 112 ((fm_dg f z 1 none S.1).2, S.2)).2.2) := by
          rw [fm_pin, hD]
          simp only [h2, if_true]
        have h4 := fm_ps_ok (f := f) (z := z) (x := 112) hz h1
        refine fr_aload_n hB dX5_parseInput_21 rfl rfl ?_
        refine fr_iconst (v := nI 2) hB dX5_parseInput_22 (by decide) ?_
        refine fr_iload_n hB dX5_parseInput_23 rfl rfl ?_
        refine fr_aload_n hB dX5_parseInput_24 rfl rfl ?_
        refine fr_iconst (v := nI 1) hB dX5_parseInput_25 (by decide) ?_
        refine fr_callV hB _ _ dX5_parseInput_26 lm_X5_43 rfl (ct_X5_digits ht (by omega) h4.1) rfl rfl (Nat.le_of_ble_eq_true rfl) (fm_room hR (by decide) (by decide)) ?_
        rintro _ M9 ⟨rfl, hM9⟩
        rw [hM9]
        clear hM9 M9
        refine fr_ret1 ?_
        refine fr_callV hB _ _ dX5_parseInput_29 lm_X5_47 rfl (ct_X5_keep (o1 := some g) (fun v hv => by rw [← Option.some.inj hv]; exact hg) (fm_dg3 f z 1 _ (by omega)) (fm_dg_ok 1 none hz h4).2) rfl rfl (Nat.le_of_ble_eq_true rfl) (fm_room hR (by decide) (by decide)) ?_
        rintro _ M9 ⟨rfl, hM9⟩
        rw [hM9]
        clear hM9 M9
        refine fr_ret1 ?_
        exact fr_zreturn hB dX5_parseInput_32 (fm_nar _) (⟨by rw [e], by rw [e]⟩)
    · exact absurd (nI_pos' hg) h
/-- a cause's parts: up to e of them -/
def fm_pcl (f : Nat → Nat) (z : Nat) : Nat → Nat → fm_TS → Option Nat × fm_TS
  | 0, b, S => (some b, S)
  | e + 1, b, S => if (fm_ps f z 112 S).1 = true then
      match (fm_dg f z 1 none (fm_ps f z 112 S).2.1).1 with
      | none => (none, ((fm_dg f z 1 none (fm_ps f z 112 S).2.1).2, (fm_ps f z 112 S).2.2))
      | some p => fm_pcl f z e (b ||| 2 ^ p) ((fm_dg f z 1 none (fm_ps f z 112 S).2.1).2, (fm_ps f z 112 S).2.2)
    else (some b, S)
theorem fm_pcl_ok {f : Nat → Nat} {z : Nat} (hz : z ≤ 100) : ∀ e b (S : fm_TS), fm_tok S → fm_tok (fm_pcl f z e b S).2 := by
  intro e
  induction e with
  | zero => intro b S h; exact h
  | succ e ih =>
    intro b S h
    unfold fm_pcl
    split
    · split
      · exact fm_dg_ok 1 none hz (fm_ps_ok hz h)
      · exact ih _ _ (fm_dg_ok 1 none hz (fm_ps_ok hz h))
    · exact h
/-- a cause's clause, behind its c -/
def fm_pca (f : Nat → Nat) (z : Nat) (S : fm_TS) : Bool × fm_TS := match (fm_dg f z 3 none S.1).1 with
  | none => (false, ((fm_dg f z 3 none S.1).2, S.2))
  | some o => match fm_pcl f z 4 0 ((fm_dg f z 3 none S.1).2, S.2) with
    | (none, S2) => (false, S2)
    | (some b, S2) => if b = 0 then (false, S2) else fm_kc 4 (some o) (some b) S2
theorem fm_pca_ok {f : Nat → Nat} {z : Nat} {S : fm_TS} (hz : z ≤ 100) (h : fm_tok S) : fm_tok (fm_pca f z S).2 := by
  have h1 := fm_dg_ok (f := f) (z := z) 3 none hz h
  have h2 := fm_pcl_ok (f := f) hz 4 0 _ h1
  unfold fm_pca
  split
  · exact h1
  · split
    · rename_i hp; rw [hp] at h2; exact h2
    · rename_i hp; rw [hp] at h2
      split
      · exact h2
      · exact fm_kc_ok _ _ _ h2
theorem fm_or_lt {a b : Nat} (ha : a < 1024) (hb : b < 1024) : a ||| b < 1024 := Nat.or_lt_two_pow (n := 10) ha hb
theorem ct_X5_parseCause {E : fm_E} {z : Nat} {f : Nat → Nat} {S : fm_TS} {M : fm_M} (ht : fm_tx f z M) (ho : fm_tok S) : fm_C shC E mX5_parseCause 2 [.ref (E.2.1 63)] (fm_tm M S) (fun r M' => r = some (.int (fm_ib (fm_pca f z S).1)) ∧ M' = fm_tm M (fm_pca f z S).2) := by
  have hz := ht.2.1
  have h1 := fm_dg_ok (f := f) (z := z) 3 none hz ho
  refine fm_C.of (by decide +kernel) (Nat.le_of_ble_eq_true rfl) ?_
  intro X hE hR hB
  subst hE
  have hB : fm_B _ X cX5_parseCause 5 RX5 (some .boolean) := hB
  refine fr_lv [some (.ref (fm_rh X 63)), none, none, none, none] ⟨rfl, trivial⟩ ?_
  refine fr_aload_n hB dX5_parseCause_0 rfl rfl ?_
  refine fr_iconst (v := nI 3) hB dX5_parseCause_1 (by decide) ?_
  refine fr_callV hB _ _ dX5_parseCause_2 lm_X5_43 rfl (ct_X5_digits ht (by omega) ho.1) rfl rfl (Nat.le_of_ble_eq_true rfl) (fm_room hR (by decide) (by decide)) ?_
  rintro _ M9 ⟨rfl, hM9⟩
  rw [hM9]
  clear hM9 M9
  refine fr_ret1 ?_
  refine fr_istore_n hB dX5_parseCause_5 rfl (by decide) rfl ?_
  refine fr_iload_n hB dX5_parseCause_6 rfl rfl ?_
  cases hD : (fm_dg f z 3 none S.1).1 with
  | none =>
    have e : fm_pca f z S = (false, ((fm_dg f z 3 none S.1).2, S.2)) := by rw [fm_pca, hD]
    refine fr_if_ge (tgt := 12) hB dX5_parseCause_7 (by decide) (fun h => ?_) (fun h => ?_)
    · exact absurd h (by decide)
    · refine fr_iconst (v := nI 0) hB dX5_parseCause_10 (by decide) ?_
      exact fr_zreturn hB dX5_parseCause_11 (by first | exact fm_nar0 | exact fm_nar1 | exact fm_nar _) (⟨by rw [e]; rfl, by rw [e]⟩)
  | some o =>
    have hg := fm_dg3 f z 3 S.1 (by omega) o hD
    generalize hZ0 : fm_pca f z S = Z
    have e0 : (match fm_pcl f z 4 0 ((fm_dg f z 3 none S.1).2, S.2) with
      | (none, S2) => (false, S2)
      | (some b, S2) => if b = 0 then (false, S2) else fm_kc 4 (some o) (some b) S2) = Z := by rw [← hZ0, fm_pca, hD]
    have l1 : ∀ (e i b : Nat) (S1 : fm_TS), i + e = 4 → b < 1024 → fm_tok S1 → (match fm_pcl f z e b S1 with
      | (none, S2) => (false, S2)
      | (some b, S2) => if b = 0 then (false, S2) else fm_kc 4 (some o) (some b) S2) = Z → fm_W shC X 5 16 [some (.ref (fm_rh X 63)), some (.int (nI o)), some (.int (nI b)), some (.int (nI i)), none] [] (fm_tm M S1) (fm_Q shC X (fun r M' => r = some (.int (fm_ib Z.1)) ∧ M' = fm_tm M Z.2)) := by
      have cut : ∀ (b : Nat) (S1 : fm_TS) (v : Option Value), b < 1024 → fm_tok S1 → (if b = 0 then (false, S1) else fm_kc 4 (some o) (some b) S1) = Z → fm_W shC X 5 57 [some (.ref (fm_rh X 63)), some (.int (nI o)), some (.int (nI b)), none, none] [] (fm_tm M S1) (fm_Q shC X (fun r M' => r = some (.int (fm_ib Z.1)) ∧ M' = fm_tm M Z.2)) := by
        intro b S1 _ hb hok hZ
        refine fr_iload_n hB dX5_parseCause_57 rfl rfl ?_
        refine fr_if_eqN (tgt := 75) hB dX5_parseCause_58 (by decide) (by omega) (fun h2 => ?_) (fun h2 => ?_)
        · rw [if_pos h2] at hZ
          refine fr_iconst (v := nI 0) hB dX5_parseCause_75 (by decide) ?_
          exact fr_zreturn hB dX5_parseCause_76 (by first | exact fm_nar0 | exact fm_nar1 | exact fm_nar _) (⟨by rw [← hZ]; rfl, by rw [← hZ]⟩)
        · rw [if_neg (by omega)] at hZ
          refine fr_aload_n hB dX5_parseCause_61 rfl rfl ?_
          refine fr_iconst (v := nI 4) hB dX5_parseCause_62 (by decide) ?_
          refine fr_iload_n hB dX5_parseCause_63 rfl rfl ?_
          refine fr_iload_n hB dX5_parseCause_64 rfl rfl ?_
          refine fr_callV hB _ _ dX5_parseCause_65 lm_X5_47 rfl (ct_X5_keep (o1 := some o) (o2 := some b) (fun v hv => by rw [← Option.some.inj hv]; exact hg) (fun v hv => by rw [← Option.some.inj hv]; omega) hok.2) rfl rfl (Nat.le_of_ble_eq_true rfl) (fm_room hR (by decide) (by decide)) ?_
          rintro _ M9 ⟨rfl, hM9⟩
          rw [hM9]
          clear hM9 M9
          refine fr_ret1 ?_
          rw [hZ]
          refine fr_if_eqB (tgt := 75) hB dX5_parseCause_68 (by decide) (fun h5 => ?_) (fun h5 => ?_)
          · refine fr_iconst (v := nI 0) hB dX5_parseCause_75 (by decide) ?_
            exact fr_zreturn hB dX5_parseCause_76 (by first | exact fm_nar0 | exact fm_nar1 | exact fm_nar _) (⟨by rw [h5]; rfl, rfl⟩)
          · refine fr_iconst (v := nI 1) hB dX5_parseCause_71 (by decide) ?_
            refine fr_goto (tgt := 76) hB dX5_parseCause_72 (by decide) ?_
            exact fr_zreturn hB dX5_parseCause_76 (by first | exact fm_nar0 | exact fm_nar1 | exact fm_nar _) (⟨by rw [h5]; rfl, rfl⟩)
      intro e
      induction e with
      | zero =>
        intro i b S1 hi hb hok hZ
        refine fr_iload_n hB dX5_parseCause_16 rfl rfl ?_
        refine fr_iconst (v := nI 4) hB dX5_parseCause_17 (by decide) ?_
        refine fr_icmp_geN (tgt := 57) hB dX5_parseCause_18 (by decide) (by omega) (by omega) (fun h2 => ?_) (fun h2 => ?_)
        · refine fr_lv [some (.ref (fm_rh X 63)), some (.int (nI o)), some (.int (nI b)), none, none] ⟨rfl, rfl, rfl, trivial⟩ ?_
          exact cut b S1 none hb hok hZ
        · exact absurd h2 (by omega)
      | succ e ih =>
        intro i b S1 hi hb hok hZ
        refine fr_iload_n hB dX5_parseCause_16 rfl rfl ?_
        refine fr_iconst (v := nI 4) hB dX5_parseCause_17 (by decide) ?_
        refine fr_icmp_geN (tgt := 57) hB dX5_parseCause_18 (by decide) (by omega) (by omega) (fun h2 => ?_) (fun h2 => ?_)
        · exact absurd h2 (by omega)
        · refine fr_aload_n hB dX5_parseCause_21 rfl rfl ?_
          refine fr_bipush (v := nI 112) hB dX5_parseCause_22 (by decide) ?_
          refine fr_callV hB _ _ dX5_parseCause_24 lm_X5_39 rfl (ct_X5_passes ht (by omega) hok.1) rfl rfl (Nat.le_of_ble_eq_true rfl) (fm_room hR (by decide) (by decide)) ?_
          rintro _ M9 ⟨rfl, hM9⟩
          rw [hM9]
          clear hM9 M9
          refine fr_ret1 ?_
          refine fr_if_eqB (tgt := 57) hB dX5_parseCause_27 (by decide) (fun h3 => ?_) (fun h3 => ?_)
          · rw [fm_ps_no h3]
            have e1 : fm_pcl f z (e + 1) b S1 = (some b, S1) := by
              unfold fm_pcl
              rw [h3]; rfl
            rw [e1] at hZ
            refine fr_lv [some (.ref (fm_rh X 63)), some (.int (nI o)), some (.int (nI b)), none, none] ⟨rfl, rfl, rfl, trivial⟩ ?_
            exact cut b S1 none hb hok hZ
          · have hok2 := fm_ps_ok (f := f) (z := z) (x := 112) hz hok
            have hok3 := fm_dg_ok (f := f) (z := z) 1 none hz hok2
            refine fr_aload_n hB dX5_parseCause_30 rfl rfl ?_
            refine fr_iconst (v := nI 1) hB dX5_parseCause_31 (by decide) ?_
            refine fr_callV hB _ _ dX5_parseCause_32 lm_X5_43 rfl (ct_X5_digits ht (by omega) hok2.1) rfl rfl (Nat.le_of_ble_eq_true rfl) (fm_room hR (by decide) (by decide)) ?_
            rintro _ M9 ⟨rfl, hM9⟩
            rw [hM9]
            clear hM9 M9
            refine fr_ret1 ?_
            refine fr_istore hB dX5_parseCause_35 (by decide) rfl ?_
            refine fr_iload hB dX5_parseCause_37 rfl ?_
            cases hD2 : (fm_dg f z 1 none (fm_ps f z 112 S1).2.1).1 with
            | none =>
              have e1 : fm_pcl f z (e + 1) b S1 = (none, ((fm_dg f z 1 none (fm_ps f z 112 S1).2.1).2, (fm_ps f z 112 S1).2.2)) := by
                conv => lhs; unfold fm_pcl
                rw [if_pos h3, hD2]
              rw [e1] at hZ
              have hZ : (false, ((fm_dg f z 1 none (fm_ps f z 112 S1).2.1).2, (fm_ps f z 112 S1).2.2)) = Z := hZ
              refine fr_if_ge (tgt := 44) hB dX5_parseCause_39 (by decide) (fun h4 => ?_) (fun h4 => ?_)
              · exact absurd h4 (by decide)
              · refine fr_iconst (v := nI 0) hB dX5_parseCause_42 (by decide) ?_
                exact fr_zreturn hB dX5_parseCause_43 (by first | exact fm_nar0 | exact fm_nar1 | exact fm_nar _) (⟨by rw [← hZ]; rfl, by rw [← hZ]⟩)
            | some p =>
              have hp := fm_dg1 f z 1 _ (by omega) p hD2
              have hp : p < 10 := by
                have : fm_p10 1 = 10 := rfl
                omega
              have e1 : fm_pcl f z (e + 1) b S1 = fm_pcl f z e (b ||| 2 ^ p) ((fm_dg f z 1 none (fm_ps f z 112 S1).2.1).2, (fm_ps f z 112 S1).2.2) := by
                conv => lhs; unfold fm_pcl
                rw [if_pos h3, hD2]
              rw [e1] at hZ
              have hpl : 2 ^ p < 1024 := by
                rcases (show p = 0 ∨ p = 1 ∨ p = 2 ∨ p = 3 ∨ p = 4 ∨ p = 5 ∨ p = 6 ∨ p = 7 ∨ p = 8 ∨ p = 9 by omega) with rfl | rfl | rfl | rfl | rfl | rfl | rfl | rfl | rfl | rfl <;> decide
              refine fr_if_ge (tgt := 44) hB dX5_parseCause_39 (by decide) (fun h4 => ?_) (fun h4 => ?_)
              · refine fr_iload_n hB dX5_parseCause_44 rfl rfl ?_
                refine fr_iconst (v := nI 1) hB dX5_parseCause_45 (by decide) ?_
                refine fr_iload hB dX5_parseCause_46 rfl ?_
                refine fr_ishl hB dX5_parseCause_48 ?_
                refine fr_eqi (nI (2 ^ p)) (fm_shl9 (by omega)) ?_
                refine fr_ior hB dX5_parseCause_49 ?_
                refine fr_eqi (nI (b ||| 2 ^ p)) (nI_or b (2 ^ p)) ?_
                refine fr_istore_n hB dX5_parseCause_50 rfl (by decide) rfl ?_
                refine fr_iincN (b := 1) hB dX5_parseCause_51 rfl (by decide) (by decide) rfl ?_
                refine fr_goto (tgt := 16) hB dX5_parseCause_54 (by decide) ?_
                refine fr_lv [some (.ref (fm_rh X 63)), some (.int (nI o)), some (.int (nI (b ||| 2 ^ p))), some (.int (nI (i + 1))), none] ⟨rfl, rfl, rfl, rfl, trivial⟩ ?_
                exact ih (i + 1) (b ||| 2 ^ p) _ (by omega) (fm_or_lt hb hpl) hok3 hZ
              · exact absurd (nI_pos' (show p < 2 ^ 31 by omega)) h4
    refine fr_if_ge (tgt := 12) hB dX5_parseCause_7 (by decide) (fun h => ?_) (fun h => ?_)
    · refine fr_iconst (v := nI 0) hB dX5_parseCause_12 (by decide) ?_
      refine fr_istore_n hB dX5_parseCause_13 rfl (by decide) rfl ?_
      refine fr_iconst (v := nI 0) hB dX5_parseCause_14 (by decide) ?_
      refine fr_istore_n hB dX5_parseCause_15 rfl (by decide) rfl ?_
      exact l1 4 0 0 _ (by omega) (by omega) h1 e0
    · exact absurd (nI_pos' hg) h
/-- a clause: 'p' odds, 'a', 'o', 's' k, 'j' .., 'c' .. -/
def fm_pc1 (f : Nat → Nat) (z : Nat) (S : fm_TS) : Bool × fm_TS :=
  if (fm_ps f z 112 S).1 = true then fm_kc 0 (fm_dg f z 3 none (fm_ps f z 112 S).2.1).1 (some 0) ((fm_dg f z 3 none (fm_ps f z 112 S).2.1).2, (fm_ps f z 112 S).2.2)
  else if (fm_ps f z 97 S).1 = true then fm_kc 1 (some 0) (some 0) (fm_ps f z 97 S).2
  else if (fm_ps f z 111 S).1 = true then fm_kc 1 (some 1) (some 0) (fm_ps f z 111 S).2
  else if (fm_ps f z 115 S).1 = true then fm_kc 1 (some 2) (fm_dg f z 1 none (fm_ps f z 115 S).2.1).1 ((fm_dg f z 1 none (fm_ps f z 115 S).2.1).2, (fm_ps f z 115 S).2.2)
  else if (fm_ps f z 106 S).1 = true then fm_pin f z (fm_ps f z 106 S).2
  else if (fm_ps f z 99 S).1 = true then fm_pca f z (fm_ps f z 99 S).2
  else (false, S)
theorem fm_pc1_ok {f : Nat → Nat} {z : Nat} {S : fm_TS} (hz : z ≤ 100) (h : fm_tok S) : fm_tok (fm_pc1 f z S).2 := by
  unfold fm_pc1
  split
  · exact fm_kc_ok _ _ _ (fm_dg_ok 3 none hz (fm_ps_ok hz h))
  · split
    · exact fm_kc_ok _ _ _ (fm_ps_ok hz h)
    · split
      · exact fm_kc_ok _ _ _ (fm_ps_ok hz h)
      · split
        · exact fm_kc_ok _ _ _ (fm_dg_ok 1 none hz (fm_ps_ok hz h))
        · split
          · exact fm_pin_ok hz (fm_ps_ok hz h)
          · split
            · exact fm_pca_ok hz (fm_ps_ok hz h)
            · exact h
theorem ct_X5_parseClause {E : fm_E} {z : Nat} {f : Nat → Nat} {S : fm_TS} {M : fm_M} (ht : fm_tx f z M) (ho : fm_tok S) : fm_C shC E mX5_parseClause 3 [.ref (E.2.1 63)] (fm_tm M S) (fun r M' => r = some (.int (fm_ib (fm_pc1 f z S).1)) ∧ M' = fm_tm M (fm_pc1 f z S).2) := by
  have hz := ht.2.1
  have k0 : ∀ v : Nat, some 0 = some v → v < 2 ^ 31 := fun v hv => by rw [← Option.some.inj hv]; decide
  have k1 : ∀ v : Nat, some 1 = some v → v < 2 ^ 31 := fun v hv => by rw [← Option.some.inj hv]; decide
  have k2 : ∀ v : Nat, some 2 = some v → v < 2 ^ 31 := fun v hv => by rw [← Option.some.inj hv]; decide
  refine fm_C.of (by decide +kernel) (Nat.le_of_ble_eq_true rfl) ?_
  intro X hE hR hB
  subst hE
  have hB : fm_B _ X cX5_parseClause 1 RX5 (some .boolean) := hB
  refine fr_lv [some (.ref (fm_rh X 63))] ⟨rfl, trivial⟩ ?_
  refine fr_aload_n hB dX5_parseClause_0 rfl rfl ?_
  refine fr_bipush (v := nI 112) hB dX5_parseClause_1 (by decide) ?_
  refine fr_callV hB _ _ dX5_parseClause_3 lm_X5_39 rfl (ct_X5_passes ht (by omega) ho.1) rfl rfl (Nat.le_of_ble_eq_true rfl) (fm_room hR (by decide) (by decide)) ?_
  rintro _ M9 ⟨rfl, hM9⟩
  rw [hM9]
  clear hM9 M9
  refine fr_ret1 ?_
  refine fr_if_eqB (tgt := 21) hB dX5_parseClause_6 (by decide) (fun h1 => ?_) (fun h1 => ?_)
  · rw [fm_ps_no h1]
    refine fr_aload_n hB dX5_parseClause_21 rfl rfl ?_
    refine fr_bipush (v := nI 97) hB dX5_parseClause_22 (by decide) ?_
    refine fr_callV hB _ _ dX5_parseClause_24 lm_X5_39 rfl (ct_X5_passes ht (by omega) ho.1) rfl rfl (Nat.le_of_ble_eq_true rfl) (fm_room hR (by decide) (by decide)) ?_
    rintro _ M9 ⟨rfl, hM9⟩
    rw [hM9]
    clear hM9 M9
    refine fr_ret1 ?_
    refine fr_if_eqB (tgt := 38) hB dX5_parseClause_27 (by decide) (fun h2 => ?_) (fun h2 => ?_)
    · rw [fm_ps_no h2]
      refine fr_aload_n hB dX5_parseClause_38 rfl rfl ?_
      refine fr_bipush (v := nI 111) hB dX5_parseClause_39 (by decide) ?_
      refine fr_callV hB _ _ dX5_parseClause_41 lm_X5_39 rfl (ct_X5_passes ht (by omega) ho.1) rfl rfl (Nat.le_of_ble_eq_true rfl) (fm_room hR (by decide) (by decide)) ?_
      rintro _ M9 ⟨rfl, hM9⟩
      rw [hM9]
      clear hM9 M9
      refine fr_ret1 ?_
      refine fr_if_eqB (tgt := 55) hB dX5_parseClause_44 (by decide) (fun h3 => ?_) (fun h3 => ?_)
      · rw [fm_ps_no h3]
        refine fr_aload_n hB dX5_parseClause_55 rfl rfl ?_
        refine fr_bipush (v := nI 115) hB dX5_parseClause_56 (by decide) ?_
        refine fr_callV hB _ _ dX5_parseClause_58 lm_X5_39 rfl (ct_X5_passes ht (by omega) ho.1) rfl rfl (Nat.le_of_ble_eq_true rfl) (fm_room hR (by decide) (by decide)) ?_
        rintro _ M9 ⟨rfl, hM9⟩
        rw [hM9]
        clear hM9 M9
        refine fr_ret1 ?_
        refine fr_if_eqB (tgt := 76) hB dX5_parseClause_61 (by decide) (fun h4 => ?_) (fun h4 => ?_)
        · rw [fm_ps_no h4]
          refine fr_aload_n hB dX5_parseClause_76 rfl rfl ?_
          refine fr_bipush (v := nI 106) hB dX5_parseClause_77 (by decide) ?_
          refine fr_callV hB _ _ dX5_parseClause_79 lm_X5_39 rfl (ct_X5_passes ht (by omega) ho.1) rfl rfl (Nat.le_of_ble_eq_true rfl) (fm_room hR (by decide) (by decide)) ?_
          rintro _ M9 ⟨rfl, hM9⟩
          rw [hM9]
          clear hM9 M9
          refine fr_ret1 ?_
          refine fr_if_eqB (tgt := 90) hB dX5_parseClause_82 (by decide) (fun h5 => ?_) (fun h5 => ?_)
          · rw [fm_ps_no h5]
            refine fr_aload_n hB dX5_parseClause_90 rfl rfl ?_
            refine fr_bipush (v := nI 99) hB dX5_parseClause_91 (by decide) ?_
            refine fr_callV hB _ _ dX5_parseClause_93 lm_X5_39 rfl (ct_X5_passes ht (by omega) ho.1) rfl rfl (Nat.le_of_ble_eq_true rfl) (fm_room hR (by decide) (by decide)) ?_
            rintro _ M9 ⟨rfl, hM9⟩
            rw [hM9]
            clear hM9 M9
            refine fr_ret1 ?_
            refine fr_if_eqB (tgt := 110) hB dX5_parseClause_96 (by decide) (fun h6 => ?_) (fun h6 => ?_)
            · rw [fm_ps_no h6]
              have e : fm_pc1 f z S = (false, S) := by
                unfold fm_pc1
                simp only [h1, h2, h3, h4, h5, h6, Bool.false_eq_true, if_false]
              refine fr_iconst (v := nI 0) hB dX5_parseClause_110 (by decide) ?_
              exact fr_zreturn hB dX5_parseClause_111 (by first | exact fm_nar0 | exact fm_nar1 | exact fm_nar _) (⟨by rw [e]; rfl, by rw [e]⟩)
            · have e : fm_pc1 f z S = fm_pca f z (fm_ps f z 99 S).2 := by
                unfold fm_pc1
                simp only [h1, h2, h3, h4, h5, h6, Bool.false_eq_true, if_false, if_true]
              refine fr_aload_n hB dX5_parseClause_99 rfl rfl ?_
              refine fr_callV hB _ _ dX5_parseClause_100 lm_X5_54 rfl (ct_X5_parseCause ht (fm_ps_ok hz ho)) rfl rfl (Nat.le_of_ble_eq_true rfl) (fm_room hR (by decide) (by decide)) ?_
              rintro _ M9 ⟨rfl, hM9⟩
              rw [hM9]
              clear hM9 M9
              refine fr_ret1 ?_
              rw [← e]
              refine fr_if_eqB (tgt := 110) hB dX5_parseClause_103 (by decide) (fun h7 => ?_) (fun h7 => ?_)
              · refine fr_iconst (v := nI 0) hB dX5_parseClause_110 (by decide) ?_
                exact fr_zreturn hB dX5_parseClause_111 (by first | exact fm_nar0 | exact fm_nar1 | exact fm_nar _) (⟨by rw [h7]; rfl, rfl⟩)
              · refine fr_iconst (v := nI 1) hB dX5_parseClause_106 (by decide) ?_
                refine fr_goto (tgt := 111) hB dX5_parseClause_107 (by decide) ?_
                exact fr_zreturn hB dX5_parseClause_111 (by first | exact fm_nar0 | exact fm_nar1 | exact fm_nar _) (⟨by rw [h7]; rfl, rfl⟩)
          · have e : fm_pc1 f z S = fm_pin f z (fm_ps f z 106 S).2 := by
              unfold fm_pc1
              simp only [h1, h2, h3, h4, h5, Bool.false_eq_true, if_false, if_true]
            refine fr_aload_n hB dX5_parseClause_85 rfl rfl ?_
            refine fr_callV hB _ _ dX5_parseClause_86 lm_X5_51 rfl (ct_X5_parseInput ht (fm_ps_ok hz ho)) rfl rfl (Nat.le_of_ble_eq_true rfl) (fm_room hR (by decide) (by decide)) ?_
            rintro _ M9 ⟨rfl, hM9⟩
            rw [hM9]
            clear hM9 M9
            refine fr_ret1 ?_
            exact fr_zreturn hB dX5_parseClause_89 (fm_nar _) (⟨by rw [e], by rw [e]⟩)
        · have e : fm_pc1 f z S = fm_kc 1 (some 2) (fm_dg f z 1 none (fm_ps f z 115 S).2.1).1 ((fm_dg f z 1 none (fm_ps f z 115 S).2.1).2, (fm_ps f z 115 S).2.2) := by
            unfold fm_pc1
            simp only [h1, h2, h3, h4, Bool.false_eq_true, if_false, if_true]
          refine fr_aload_n hB dX5_parseClause_64 rfl rfl ?_
          refine fr_iconst (v := nI 1) hB dX5_parseClause_65 (by decide) ?_
          refine fr_iconst (v := nI 2) hB dX5_parseClause_66 (by decide) ?_
          refine fr_aload_n hB dX5_parseClause_67 rfl rfl ?_
          refine fr_iconst (v := nI 1) hB dX5_parseClause_68 (by decide) ?_
          refine fr_callV hB _ _ dX5_parseClause_69 lm_X5_43 rfl (ct_X5_digits ht (by omega) (fm_ps_ok hz ho).1) rfl rfl (Nat.le_of_ble_eq_true rfl) (fm_room hR (by decide) (by decide)) ?_
          rintro _ M9 ⟨rfl, hM9⟩
          rw [hM9]
          clear hM9 M9
          refine fr_ret1 ?_
          refine fr_callV hB _ _ dX5_parseClause_72 lm_X5_47 rfl (ct_X5_keep (o1 := some 2) k2 (fm_dg3 f z 1 _ (by omega)) (fm_dg_ok 1 none hz (fm_ps_ok hz ho)).2) rfl rfl (Nat.le_of_ble_eq_true rfl) (fm_room hR (by decide) (by decide)) ?_
          rintro _ M9 ⟨rfl, hM9⟩
          rw [hM9]
          clear hM9 M9
          refine fr_ret1 ?_
          exact fr_zreturn hB dX5_parseClause_75 (fm_nar _) (⟨by rw [e], by rw [e]⟩)
      · have e : fm_pc1 f z S = fm_kc 1 (some 1) (some 0) (fm_ps f z 111 S).2 := by
          unfold fm_pc1
          simp only [h1, h2, h3, Bool.false_eq_true, if_false, if_true]
        refine fr_aload_n hB dX5_parseClause_47 rfl rfl ?_
        refine fr_iconst (v := nI 1) hB dX5_parseClause_48 (by decide) ?_
        refine fr_iconst (v := nI 1) hB dX5_parseClause_49 (by decide) ?_
        refine fr_iconst (v := nI 0) hB dX5_parseClause_50 (by decide) ?_
        refine fr_callV hB _ _ dX5_parseClause_51 lm_X5_47 rfl (ct_X5_keep (o1 := some 1) (o2 := some 0) k1 k0 (fm_ps_ok hz ho).2) rfl rfl (Nat.le_of_ble_eq_true rfl) (fm_room hR (by decide) (by decide)) ?_
        rintro _ M9 ⟨rfl, hM9⟩
        rw [hM9]
        clear hM9 M9
        refine fr_ret1 ?_
        exact fr_zreturn hB dX5_parseClause_54 (fm_nar _) (⟨by rw [e], by rw [e]⟩)
    · have e : fm_pc1 f z S = fm_kc 1 (some 0) (some 0) (fm_ps f z 97 S).2 := by
        unfold fm_pc1
        simp only [h1, h2, Bool.false_eq_true, if_false, if_true]
      refine fr_aload_n hB dX5_parseClause_30 rfl rfl ?_
      refine fr_iconst (v := nI 1) hB dX5_parseClause_31 (by decide) ?_
      refine fr_iconst (v := nI 0) hB dX5_parseClause_32 (by decide) ?_
      refine fr_iconst (v := nI 0) hB dX5_parseClause_33 (by decide) ?_
      refine fr_callV hB _ _ dX5_parseClause_34 lm_X5_47 rfl (ct_X5_keep (o1 := some 0) (o2 := some 0) k0 k0 (fm_ps_ok hz ho).2) rfl rfl (Nat.le_of_ble_eq_true rfl) (fm_room hR (by decide) (by decide)) ?_
      rintro _ M9 ⟨rfl, hM9⟩
      rw [hM9]
      clear hM9 M9
      refine fr_ret1 ?_
      exact fr_zreturn hB dX5_parseClause_37 (fm_nar _) (⟨by rw [e], by rw [e]⟩)
  · have e : fm_pc1 f z S = fm_kc 0 (fm_dg f z 3 none (fm_ps f z 112 S).2.1).1 (some 0) ((fm_dg f z 3 none (fm_ps f z 112 S).2.1).2, (fm_ps f z 112 S).2.2) := by
      unfold fm_pc1
      simp only [h1, if_true]
    refine fr_aload_n hB dX5_parseClause_9 rfl rfl ?_
    refine fr_iconst (v := nI 0) hB dX5_parseClause_10 (by decide) ?_
    refine fr_aload_n hB dX5_parseClause_11 rfl rfl ?_
    refine fr_iconst (v := nI 3) hB dX5_parseClause_12 (by decide) ?_
    refine fr_callV hB _ _ dX5_parseClause_13 lm_X5_43 rfl (ct_X5_digits ht (by omega) (fm_ps_ok hz ho).1) rfl rfl (Nat.le_of_ble_eq_true rfl) (fm_room hR (by decide) (by decide)) ?_
    rintro _ M9 ⟨rfl, hM9⟩
    rw [hM9]
    clear hM9 M9
    refine fr_ret1 ?_
    refine fr_iconst (v := nI 0) hB dX5_parseClause_16 (by decide) ?_
    refine fr_callV hB _ _ dX5_parseClause_17 lm_X5_47 rfl (ct_X5_keep (o2 := some 0) (fm_dg3 f z 3 _ (by omega)) k0 (fm_dg_ok 3 none hz (fm_ps_ok hz ho)).2) rfl rfl (Nat.le_of_ble_eq_true rfl) (fm_room hR (by decide) (by decide)) ?_
    rintro _ M9 ⟨rfl, hM9⟩
    rw [hM9]
    clear hM9 M9
    refine fr_ret1 ?_
    exact fr_zreturn hB dX5_parseClause_20 (fm_nar _) (⟨by rw [e], by rw [e]⟩)
/-- the whole text: up to d clauses -/
def fm_par (f : Nat → Nat) (z : Nat) : Nat → fm_TS → Bool × fm_TS
  | 0, S => (false, S)
  | d + 1, S => if (fm_pc1 f z S).1 = true then
      (if z ≤ (fm_pc1 f z S).2.1 then (true, (fm_pc1 f z S).2)
      else if d = 0 then (false, (fm_pc1 f z S).2)
      else if (fm_ps f z 59 (fm_pc1 f z S).2).1 = true then fm_par f z d (fm_ps f z 59 (fm_pc1 f z S).2).2
      else (false, (fm_pc1 f z S).2))
    else (false, (fm_pc1 f z S).2)
theorem fm_par_ok {f : Nat → Nat} {z : Nat} (hz : z ≤ 100) : ∀ d (S : fm_TS), fm_tok S → fm_tok (fm_par f z d S).2 := by
  intro d
  induction d with
  | zero => intro S h; exact h
  | succ d ih =>
    intro S h
    have h1 := fm_pc1_ok (f := f) hz h
    unfold fm_par
    split
    · split
      · exact h1
      · split
        · exact h1
        · split
          · exact ih _ (fm_ps_ok hz h1)
          · exact h1
    · exact h1
theorem ct_X5_parse {E : fm_E} {z : Nat} {f : Nat → Nat} {M : fm_M} (ht : fm_tx f z M) : fm_C shC E mX5_parse 4 [.ref (E.2.1 63)] M (fun r M' => r = some (.int (fm_ib (fm_par f z 16 (0, 0, M.1 64, M.1 65, M.1 66)).1)) ∧ M' = fm_tm M (fm_par f z 16 (0, 0, M.1 64, M.1 65, M.1 66)).2) := by
  have hz := ht.2.1
  refine fm_C.of (by decide +kernel) (Nat.le_of_ble_eq_true rfl) ?_
  intro X hE hR hB
  subst hE
  have hB : fm_B _ X cX5_parse 2 RX5 (some .boolean) := hB
  refine fr_lv [some (.ref (fm_rh X 63)), none] ⟨rfl, trivial⟩ ?_
  generalize hZ0 : fm_par f z 16 (0, 0, M.1 64, M.1 65, M.1 66) = Z
  have l1 : ∀ (d i : Nat) (S : fm_TS), i + d = 16 → fm_tok S → fm_par f z d S = Z → fm_W shC X 2 12 [some (.ref (fm_rh X 63)), some (.int (nI i))] [] (fm_tm M S) (fm_Q shC X (fun r M' => r = some (.int (fm_ib Z.1)) ∧ M' = fm_tm M Z.2)) := by
    intro d
    induction d with
    | zero =>
      intro i S hi ho hZ
      have hZ : (false, S) = Z := hZ
      refine fr_iload_n hB dX5_parse_12 rfl rfl ?_
      refine fr_bipush (v := nI 16) hB dX5_parse_13 (by decide) ?_
      refine fr_icmp_geN (tgt := 63) hB dX5_parse_15 (by decide) (by omega) (by omega) (fun h => ?_) (fun h => ?_)
      · refine fr_iconst (v := nI 0) hB dX5_parse_63 (by decide) ?_
        exact fr_zreturn hB dX5_parse_64 (by first | exact fm_nar0 | exact fm_nar1 | exact fm_nar _) (⟨by rw [← hZ]; rfl, by rw [← hZ]⟩)
      · exact absurd h (by omega)
    | succ d ih =>
      intro i S hi ho hZ
      have hok := fm_pc1_ok (f := f) hz ho
      unfold fm_par at hZ
      refine fr_iload_n hB dX5_parse_12 rfl rfl ?_
      refine fr_bipush (v := nI 16) hB dX5_parse_13 (by decide) ?_
      refine fr_icmp_geN (tgt := 63) hB dX5_parse_15 (by decide) (by omega) (by omega) (fun h => ?_) (fun h => ?_)
      · exact absurd h (by omega)
      · refine fr_aload_n hB dX5_parse_18 rfl rfl ?_
        refine fr_callV hB _ _ dX5_parse_19 lm_X5_35 rfl (ct_X5_parseClause ht ho) rfl rfl (Nat.le_of_ble_eq_true rfl) (fm_room hR (by decide) (by decide)) ?_
        rintro _ M9 ⟨rfl, hM9⟩
        rw [hM9]
        clear hM9 M9
        refine fr_ret1 ?_
        refine fr_if_neB (tgt := 27) hB dX5_parse_22 (by decide) (fun h2 => ?_) (fun h2 => ?_)
        · rw [if_pos h2] at hZ
          refine fr_aload_n hB dX5_parse_27 rfl rfl ?_
          refine fr_getI hB dX5_parse_28 lf_X5_29 rfl rfl ?_
          refine fr_eqi _ (tm_at M (fm_pc1 f z S).2) ?_
          refine fr_aload_n hB dX5_parse_31 rfl rfl ?_
          refine fr_getI hB dX5_parse_32 lf_X5_25 rfl rfl ?_
          refine fr_eqi _ (ht.1) ?_
          have hat := hok.1
          refine fr_icmp_ltN (tgt := 40) hB dX5_parse_35 (by decide) (by omega) (by omega) (fun h3 => ?_) (fun h3 => ?_)
          · rw [if_neg (by omega)] at hZ
            refine fr_iload_n hB dX5_parse_40 rfl rfl ?_
            refine fr_bipush (v := nI 15) hB dX5_parse_41 (by decide) ?_
            refine fr_icmp_eqN (tgt := 55) hB dX5_parse_43 (by decide) (by omega) (by omega) (fun h4 => ?_) (fun h4 => ?_)
            · rw [if_pos (by omega)] at hZ
              refine fr_iconst (v := nI 0) hB dX5_parse_55 (by decide) ?_
              exact fr_zreturn hB dX5_parse_56 (by first | exact fm_nar0 | exact fm_nar1 | exact fm_nar _) (⟨by rw [← hZ]; rfl, by rw [← hZ]⟩)
            · rw [if_neg (by omega)] at hZ
              refine fr_aload_n hB dX5_parse_46 rfl rfl ?_
              refine fr_bipush (v := nI 59) hB dX5_parse_47 (by decide) ?_
              refine fr_callV hB _ _ dX5_parse_49 lm_X5_39 rfl (ct_X5_passes ht (by omega) hok.1) rfl rfl (Nat.le_of_ble_eq_true rfl) (fm_room hR (by decide) (by decide)) ?_
              rintro _ M9 ⟨rfl, hM9⟩
              rw [hM9]
              clear hM9 M9
              refine fr_ret1 ?_
              refine fr_if_neB (tgt := 57) hB dX5_parse_52 (by decide) (fun h5 => ?_) (fun h5 => ?_)
              · rw [if_pos h5] at hZ
                refine fr_iincN (b := 1) hB dX5_parse_57 rfl (by decide) (by decide) rfl ?_
                refine fr_goto (tgt := 12) hB dX5_parse_60 (by decide) ?_
                exact ih (i + 1) _ (by omega) (fm_ps_ok hz hok) hZ
              · rw [if_neg (by rw [h5]; decide)] at hZ
                rw [fm_ps_no h5]
                refine fr_iconst (v := nI 0) hB dX5_parse_55 (by decide) ?_
                exact fr_zreturn hB dX5_parse_56 (by first | exact fm_nar0 | exact fm_nar1 | exact fm_nar _) (⟨by rw [← hZ]; rfl, by rw [← hZ]⟩)
          · rw [if_pos h3] at hZ
            refine fr_iconst (v := nI 1) hB dX5_parse_38 (by decide) ?_
            exact fr_zreturn hB dX5_parse_39 (by first | exact fm_nar0 | exact fm_nar1 | exact fm_nar _) (⟨by rw [← hZ]; rfl, by rw [← hZ]⟩)
        · rw [if_neg (by rw [h2]; decide)] at hZ
          refine fr_iconst (v := nI 0) hB dX5_parse_25 (by decide) ?_
          exact fr_zreturn hB dX5_parse_26 (by first | exact fm_nar0 | exact fm_nar1 | exact fm_nar _) (⟨by rw [← hZ]; rfl, by rw [← hZ]⟩)
  refine fr_aload_n hB dX5_parse_0 rfl rfl ?_
  refine fr_iconst (v := nI 0) hB dX5_parse_1 (by decide) ?_
  refine fr_putI hB dX5_parse_2 lp_X5_29 rfl rfl ?_
  refine fr_aload_n hB dX5_parse_5 rfl rfl ?_
  refine fr_iconst (v := nI 0) hB dX5_parse_6 (by decide) ?_
  refine fr_putI hB dX5_parse_7 lp_X5_32 rfl rfl ?_
  have e0 : fm_pi (fm_pi M 63 1 (nI 0)) 63 2 (nI 0) = fm_tm M (0, 0, M.1 64, M.1 65, M.1 66) := by
    refine Prod.ext (funext fun a => ?_) rfl
    show fm_u (fm_u M.1 63 1 (nI 0)) 63 2 (nI 0) a = _
    unfold fm_u fm_tm
    by_cases h : a = 63
    · subst h
      funext j
      by_cases hj : j = 2
      · simp [hj]
      · by_cases hj1 : j = 1 <;> simp [hj, hj1]
    · by_cases h4 : a = 64
      · subst h4; simp
      · by_cases h5 : a = 65
        · subst h5; simp
        · by_cases h6 : a = 66
          · subst h6; simp
          · simp [h, h4, h5, h6]
  rw [e0]
  refine fr_iconst (v := nI 0) hB dX5_parse_10 (by decide) ?_
  refine fr_istore_n hB dX5_parse_11 rfl (by decide) rfl ?_
  exact l1 16 0 _ (by omega) ⟨by show 0 ≤ 100; omega, by show 0 ≤ 16; omega⟩ hZ0
