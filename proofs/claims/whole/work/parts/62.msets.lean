/-! ===== the reference: least sets ===== -/
theorem fm_half : ∀ s : Nat, s < 64 → nI s - nI s / nI 2 * nI 2 = nI (s % 2) ∧ nI s / nI 2 = nI (s / 2) := by decide +kernel
theorem fm_bcr_0 : ∀ d : Nat, fm_bcr d 0 = 0 := by
  intro d
  induction d with
  | zero => rfl
  | succ d ih =>
    show 0 % 2 + fm_bcr d (0 / 2) = 0
    rw [show 0 / 2 = 0 from rfl, ih]
theorem ct_X9_many {sh : List fm_S} {E : fm_E} {s : Nat} {M : fm_M} (hs : s < 64) : fm_C sh E mX9_many 0 [.int (nI s)] M (fun r M' => r = some (.int (nI (fm_bc s))) ∧ M' = M) := by
  refine fm_C.of (by decide +kernel) (Nat.le_of_ble_eq_true rfl) ?_
  intro X hE hR hB
  subst hE
  have hB : fm_B _ X cX9_many 3 RX9 (some .int) := hB
  refine fr_lv [some (.int (nI s)), none, none] ⟨rfl, trivial⟩ ?_
  have l1 : ∀ (d x k : Nat), x < 2 ^ d → x < 64 → k + fm_bcr d x = fm_bc s → fm_W sh X 3 4 [none, some (.int (nI k)), some (.int (nI x))] [] M (fm_Q sh X (fun r M' => r = some (.int (nI (fm_bc s))) ∧ M' = M)) := by
    intro d
    induction d with
    | zero =>
      intro x k hx h64 hk
      have hx : x = 0 := by simpa using hx
      subst hx
      refine fr_iload_n hB dX9_many_4 rfl rfl ?_
      refine fr_if_leN (tgt := 21) hB dX9_many_5 (by decide) (by omega) (fun h => ?_) (fun h => ?_)
      · refine fr_iload_n hB dX9_many_21 rfl rfl ?_
        exact fr_ireturn hB dX9_many_22 (⟨by rw [← hk]; rfl, rfl⟩)
      · exact absurd h (by omega)
    | succ d ih =>
      intro x k hx h64 hk
      refine fr_iload_n hB dX9_many_4 rfl rfl ?_
      refine fr_if_leN (tgt := 21) hB dX9_many_5 (by decide) (by omega) (fun h => ?_) (fun h => ?_)
      · have hx0 : x = 0 := by omega
        subst hx0
        rw [fm_bcr_0] at hk
        refine fr_iload_n hB dX9_many_21 rfl rfl ?_
        exact fr_ireturn hB dX9_many_22 (⟨by rw [← hk]; rfl, rfl⟩)
      · have e : fm_bcr (d + 1) x = x % 2 + fm_bcr d (x / 2) := rfl
        rw [e] at hk
        obtain ⟨q1, q2⟩ := fm_half x h64
        refine fr_iload_n hB dX9_many_8 rfl rfl ?_
        refine fr_iload_n hB dX9_many_9 rfl rfl ?_
        refine fr_iconst (v := nI 2) hB dX9_many_10 (by decide) ?_
        refine fr_irem hB dX9_many_11 (by decide) ?_
        refine fr_eqi (nI (x % 2)) (q1) ?_
        refine fr_iaddN hB dX9_many_12 ?_
        refine fr_istore_n hB dX9_many_13 rfl (by decide) rfl ?_
        refine fr_iload_n hB dX9_many_14 rfl rfl ?_
        refine fr_iconst (v := nI 2) hB dX9_many_15 (by decide) ?_
        refine fr_idiv hB dX9_many_16 (by decide) ?_
        refine fr_eqi (nI (x / 2)) (q2) ?_
        refine fr_istore_n hB dX9_many_17 rfl (by decide) rfl ?_
        refine fr_goto (tgt := 4) hB dX9_many_18 (by decide) ?_
        exact ih (x / 2) (k + x % 2) (by rw [Nat.pow_succ] at hx; omega) (by omega) (by omega)
  refine fr_iconst (v := nI 0) hB dX9_many_0 (by decide) ?_
  refine fr_istore_n hB dX9_many_1 rfl (by decide) rfl ?_
  refine fr_iload_n hB dX9_many_2 rfl rfl ?_
  refine fr_istore_n hB dX9_many_3 rfl (by decide) rfl ?_
  refine fr_lv [none, some (.int (nI 0)), some (.int (nI s))] ⟨rfl, rfl, trivial⟩ ?_
  exact l1 7 s 0 (by omega) hs (by show 0 + fm_bcr 7 s = fm_bcr 7 s; omega)
/-- the table of cuts, of paths -/
def fm_tb2 (P : fm_P) (b : Bool) : Int64 := if b then fm_TT P else fm_ku (fm_TT P)
theorem fm_ku_bit (T : Int64) {s : Nat} (hs : s < 64) : fm_bit (fm_ku T) s = !fm_bit T (63 - s) := by
  rw [fm_ku, fm_mk_bit _ 64 (by omega) s hs]
  simp [hs]
theorem fm_comp : ∀ c : Nat, c ≤ 6 → ∀ s : Nat, s < 64 → s < 2 ^ c → nI (2 ^ c - 1) &&& (nI s ^^^ -1) = nI (2 ^ c - 1 - s) ∧ (63 - s) % 2 ^ c = 2 ^ c - 1 - s := by decide +kernel
theorem ct_X9_isOne {E : fm_E} {s : Nat} {b : Bool} {P : fm_P} {M : fm_M} (hm : fm_NP P M) (hw : fm_wf P) (hg : 0 < P 3 0) (hs : s < 2 ^ P 0 0) : fm_C shM E mX9_isOne 3 [.ref (E.2.1 0), .int (nI s), .int (fm_ib b)] M (fun r M' => r = some (.int (fm_ib (fm_bit (fm_tb2 P b) s))) ∧ ∃ F, M' = (fm_row M.1 14 F, M.2)) := by
  have h6 := hw.p6
  have h2c := fm_2c h6
  refine fm_C.of (by decide +kernel) (Nat.le_of_ble_eq_true rfl) ?_
  intro X hE hR hB
  subst hE
  have hB : fm_B _ X cX9_isOne 3 RX9 (some .boolean) := hB
  refine fr_lv [some (.ref (fm_rh X 0)), some (.int (nI s)), some (.int (fm_ib b))] ⟨rfl, rfl, rfl, trivial⟩ ?_
  refine fr_iload_n hB dX9_isOne_0 rfl rfl ?_
  refine fr_if_eqB (tgt := 12) hB dX9_isOne_1 (by decide) (fun hb => ?_) (fun hb => ?_)
  · obtain ⟨c1, c2⟩ := fm_comp _ h6 s (by omega) hs
    have e : fm_bit (fm_tb2 P b) s = !fm_down P (fm_tg P) (2 ^ P 0 0 - 1 - s) := by
      rw [hb]
      show fm_bit (fm_ku (fm_TT P)) s = _
      rw [fm_ku_bit _ (by omega), fm_TT_bit P (by omega), fm_down_mod hw (by omega) _ (fm_tg_lt hw hg), c2]
    rw [e]
    refine fr_aload_n hB dX9_isOne_12 rfl rfl ?_
    refine fr_iconst (v := nI 1) hB dX9_isOne_13 (by decide) ?_
    refine fr_aload_n hB dX9_isOne_14 rfl rfl ?_
    refine fr_getI hB dX9_isOne_15 lf_X9_90 rfl rfl ?_
    refine fr_eqi _ (hm.parts) ?_
    refine fr_ishl hB dX9_isOne_18 ?_
    refine fr_eqi (nI (2 ^ P 0 0)) (fm_shl1 h6) ?_
    refine fr_iconst (v := nI 1) hB dX9_isOne_19 (by decide) ?_
    refine fr_isubN hB dX9_isOne_20 (by omega) ?_
    refine fr_iload_n hB dX9_isOne_21 rfl rfl ?_
    refine fr_iconst (v := -1) hB dX9_isOne_22 (by decide) ?_
    refine fr_ixor hB dX9_isOne_23 ?_
    refine fr_iand hB dX9_isOne_24 ?_
    refine fr_eqi (nI (2 ^ P 0 0 - 1 - s)) (c1) ?_
    refine fr_callV hB _ _ dX9_isOne_25 lm_X9_199 rfl (ct_X9_isDown hm hw hg (by omega)) rfl rfl (Nat.le_of_ble_eq_true rfl) (fm_room hR (by decide) (by decide)) ?_
    rintro _ _ ⟨rfl, F, rfl⟩
    refine fr_ret1 ?_
    refine fr_if_neB (tgt := 35) hB dX9_isOne_28 (by decide) (fun h3 => ?_) (fun h3 => ?_)
    · refine fr_iconst (v := nI 0) hB dX9_isOne_35 (by decide) ?_
      exact fr_zreturn hB dX9_isOne_36 (by first | exact fm_nar0 | exact fm_nar1 | exact fm_nar _) (⟨by rw [h3]; rfl, F, rfl⟩)
    · refine fr_iconst (v := nI 1) hB dX9_isOne_31 (by decide) ?_
      refine fr_goto (tgt := 36) hB dX9_isOne_32 (by decide) ?_
      exact fr_zreturn hB dX9_isOne_36 (by first | exact fm_nar0 | exact fm_nar1 | exact fm_nar _) (⟨by rw [h3]; rfl, F, rfl⟩)
  · have e : fm_bit (fm_tb2 P b) s = fm_down P (fm_tg P) s := by
      rw [hb]
      show fm_bit (fm_TT P) s = _
      rw [fm_TT_bit P (by omega)]
    rw [e]
    refine fr_aload_n hB dX9_isOne_4 rfl rfl ?_
    refine fr_iload_n hB dX9_isOne_5 rfl rfl ?_
    refine fr_callV hB _ _ dX9_isOne_6 lm_X9_199 rfl (ct_X9_isDown hm hw hg (by omega)) rfl rfl (Nat.le_of_ble_eq_true rfl) (fm_room hR (by decide) (by decide)) ?_
    rintro _ _ ⟨rfl, F, rfl⟩
    refine fr_ret1 ?_
    refine fr_goto (tgt := 36) hB dX9_isOne_9 (by decide) ?_
    exact fr_zreturn hB dX9_isOne_36 (by first | exact fm_nar0 | exact fm_nar1 | exact fm_nar _) (⟨rfl, F, rfl⟩)
theorem ct_X9_isLeast {E : fm_E} {s : Nat} {b : Bool} {P : fm_P} {M : fm_M} (hm : fm_NP P M) (hw : fm_wf P) (hg : 0 < P 3 0) (hs : s < 2 ^ P 0 0) : fm_C shM E mX9_isLeast 4 [.ref (E.2.1 0), .int (nI s), .int (fm_ib b)] M (fun r M' => r = some (.int (fm_ib (fm_ls (fm_tb2 P b) (P 0 0) s))) ∧ ∃ F, M' = (fm_row M.1 14 F, M.2)) := by
  have h6 := hw.p6
  have h2c := fm_2c h6
  refine fm_C.of (by decide +kernel) (Nat.le_of_ble_eq_true rfl) ?_
  intro X hE hR hB
  subst hE
  have hB : fm_B _ X cX9_isLeast 4 RX9 (some .boolean) := hB
  refine fr_lv [some (.ref (fm_rh X 0)), some (.int (nI s)), some (.int (fm_ib b)), none] ⟨rfl, rfl, rfl, trivial⟩ ?_
  refine fr_aload_n hB dX9_isLeast_0 rfl rfl ?_
  refine fr_iload_n hB dX9_isLeast_1 rfl rfl ?_
  refine fr_iload_n hB dX9_isLeast_2 rfl rfl ?_
  refine fr_callV hB _ _ dX9_isLeast_3 lm_X9_205 rfl (ct_X9_isOne hm hw hg hs) rfl rfl (Nat.le_of_ble_eq_true rfl) (fm_room hR (by decide) (by decide)) ?_
  rintro _ _ ⟨rfl, F0, rfl⟩
  refine fr_ret1 ?_
  refine fr_if_neB (tgt := 11) hB dX9_isLeast_6 (by decide) (fun h => ?_) (fun h => ?_)
  · have l1 : ∀ (d i : Nat) (F : Nat → Int32), i + d = P 0 0 → (∀ p, p < i → (!(s.testBit p && fm_bit (fm_tb2 P b) (fm_wo s p))) = true) → fm_W shM X 4 13 [some (.ref (fm_rh X 0)), some (.int (nI s)), some (.int (fm_ib b)), some (.int (nI i))] [] (fm_row M.1 14 F, M.2) (fm_Q shM X (fun r M' => r = some (.int (fm_ib (fm_ls (fm_tb2 P b) (P 0 0) s))) ∧ ∃ F, M' = (fm_row M.1 14 F, M.2))) := by
      intro d
      induction d with
      | zero =>
        intro i F hi hq
        have hmF := hm.r14 F
        refine fr_iload_n hB dX9_isLeast_13 rfl rfl ?_
        refine fr_aload_n hB dX9_isLeast_14 rfl rfl ?_
        refine fr_getI hB dX9_isLeast_15 lf_X9_90 rfl rfl ?_
        refine fr_eqi _ (hmF.parts) ?_
        refine fr_icmp_geN (tgt := 53) hB dX9_isLeast_18 (by decide) (by omega) (by omega) (fun h2 => ?_) (fun h2 => ?_)
        · refine fr_iconst (v := nI 1) hB dX9_isLeast_53 (by decide) ?_
          have e : fm_ls (fm_tb2 P b) (P 0 0) s = true := by
            unfold fm_ls
            rw [h, Bool.true_and]
            exact (fm_all_iff _ _).mpr (fun p hp => hq p (by omega))
          exact fr_zreturn hB dX9_isLeast_54 (by first | exact fm_nar0 | exact fm_nar1 | exact fm_nar _) (⟨by rw [e]; rfl, F, rfl⟩)
        · exact absurd h2 (by omega)
      | succ d ih =>
        intro i F hi hq
        have hmF := hm.r14 F
        have hwl := fm_wo_lt i (by omega) s (by omega)
        have hbl := fm_bn_le (s.testBit i)
        have nxt : ∀ F, (!(s.testBit i && fm_bit (fm_tb2 P b) (fm_wo s i))) = true → fm_W shM X 4 47 [some (.ref (fm_rh X 0)), some (.int (nI s)), some (.int (fm_ib b)), some (.int (nI i))] [] (fm_row M.1 14 F, M.2) (fm_Q shM X (fun r M' => r = some (.int (fm_ib (fm_ls (fm_tb2 P b) (P 0 0) s))) ∧ ∃ F, M' = (fm_row M.1 14 F, M.2))) := by
          intro F hq2
          refine fr_iincN (b := 1) hB dX9_isLeast_47 rfl (by decide) (by decide) rfl ?_
          refine fr_goto (tgt := 13) hB dX9_isLeast_50 (by decide) ?_
          refine ih (i + 1) F (by omega) (fun p hp => ?_)
          by_cases e : p = i
          · rw [e]; exact hq2
          · exact hq p (by omega)
        refine fr_iload_n hB dX9_isLeast_13 rfl rfl ?_
        refine fr_aload_n hB dX9_isLeast_14 rfl rfl ?_
        refine fr_getI hB dX9_isLeast_15 lf_X9_90 rfl rfl ?_
        refine fr_eqi _ (hmF.parts) ?_
        refine fr_icmp_geN (tgt := 53) hB dX9_isLeast_18 (by decide) (by omega) (by omega) (fun h2 => ?_) (fun h2 => ?_)
        · exact absurd h2 (by omega)
        · refine fr_iload_n hB dX9_isLeast_21 rfl rfl ?_
          refine fr_iload_n hB dX9_isLeast_22 rfl rfl ?_
          refine fr_ishr hB dX9_isLeast_23 ?_
          refine fr_iconst (v := nI 1) hB dX9_isLeast_24 (by decide) ?_
          refine fr_iand hB dX9_isLeast_25 ?_
          refine fr_eqi (nI (fm_bn (s.testBit i))) (fm_shr1 s (by omega) i (by omega)) ?_
          refine fr_iconst (v := nI 1) hB dX9_isLeast_26 (by decide) ?_
          refine fr_icmp_neN (tgt := 47) hB dX9_isLeast_27 (by decide) (by omega) (by omega) (fun h3 => ?_) (fun h3 => ?_)
          · refine nxt F ?_
            cases hb : s.testBit i with
            | false => rfl
            | true => exact absurd ((fm_bn1 _).mpr hb) h3
          · have h3 := (fm_bn1 _).mp h3
            refine fr_aload_n hB dX9_isLeast_30 rfl rfl ?_
            refine fr_iload_n hB dX9_isLeast_31 rfl rfl ?_
            refine fr_iconst (v := nI 1) hB dX9_isLeast_32 (by decide) ?_
            refine fr_iload_n hB dX9_isLeast_33 rfl rfl ?_
            refine fr_ishl hB dX9_isLeast_34 ?_
            refine fr_eqi (nI (2 ^ i)) (fm_shl1 (by omega)) ?_
            refine fr_iconst (v := -1) hB dX9_isLeast_35 (by decide) ?_
            refine fr_ixor hB dX9_isLeast_36 ?_
            refine fr_iand hB dX9_isLeast_37 ?_
            refine fr_eqi (nI (fm_wo s i)) (fm_less i (by omega) s (by omega)) ?_
            refine fr_iload_n hB dX9_isLeast_38 rfl rfl ?_
            refine fr_callV hB _ _ dX9_isLeast_39 lm_X9_205 rfl (ct_X9_isOne hmF hw hg (show fm_wo s i < 2 ^ P 0 0 by omega)) rfl rfl (Nat.le_of_ble_eq_true rfl) (fm_room hR (by decide) (by decide)) ?_
            rintro _ _ ⟨rfl, F2, rfl⟩
            refine fr_ret1 ?_
            rw [show fm_row (fm_row M.1 14 F) 14 F2 = fm_row M.1 14 F2 from fm_row_row _ _ _ _]
            refine fr_if_eqB (tgt := 47) hB dX9_isLeast_42 (by decide) (fun h4 => ?_) (fun h4 => ?_)
            · exact nxt F2 (by rw [h4, Bool.and_false]; rfl)
            · have e : fm_ls (fm_tb2 P b) (P 0 0) s = false := by
                unfold fm_ls
                rw [fm_all_no (i := i) h2 (by rw [h3, h4]; rfl), Bool.and_false]
              refine fr_iconst (v := nI 0) hB dX9_isLeast_45 (by decide) ?_
              exact fr_zreturn hB dX9_isLeast_46 (by first | exact fm_nar0 | exact fm_nar1 | exact fm_nar _) (⟨by rw [e]; rfl, F2, rfl⟩)
    refine fr_iconst (v := nI 0) hB dX9_isLeast_11 (by decide) ?_
    refine fr_istore_n hB dX9_isLeast_12 rfl (by decide) rfl ?_
    exact l1 (P 0 0) 0 F0 (by omega) (fun p hp => absurd hp (by omega))
  · have e : fm_ls (fm_tb2 P b) (P 0 0) s = false := by
      unfold fm_ls
      rw [h, Bool.false_and]
    refine fr_iconst (v := nI 0) hB dX9_isLeast_9 (by decide) ?_
    exact fr_zreturn hB dX9_isLeast_10 (by first | exact fm_nar0 | exact fm_nar1 | exact fm_nar _) (⟨by rw [e]; rfl, F0, rfl⟩)
/-- a memory whose list of sets is S -/
def fm_km (M : fm_M) (S : fm_SS) : fm_M := (fun a => if a = 0 then (fun j => if j = 27 then nI S.1 else M.1 0 j) else if a = 19 then S.2 else M.1 a, M.2)
theorem km_size (M : fm_M) (S : fm_SS) : (fm_km M S).1 0 27 = nI S.1 := rfl
theorem km_row (M : fm_M) (S : fm_SS) : (fm_km M S).1 19 = S.2 := rfl
theorem km_n (M : fm_M) (S : fm_SS) (m : Nat) : fm_pi (fm_km M S) 0 27 (nI m) = fm_km M (m, S.2) := by
  refine Prod.ext (funext fun a => ?_) rfl
  show fm_u (fm_km M S).1 0 27 (nI m) a = _
  unfold fm_u
  by_cases h : a = 0
  · subst h
    funext j
    by_cases hj : j = 27 <;> simp [fm_km, hj]
  · simp [fm_km, h]
theorem km_u (M : fm_M) (S : fm_SS) (n : Nat) (t : Int32) : fm_pi (fm_km M S) 19 n t = fm_km M (S.1, fm_up S.2 n t) := by
  refine Prod.ext (funext fun a => ?_) rfl
  show fm_u (fm_km M S).1 19 n t a = _
  unfold fm_u
  by_cases h : a = 19
  · subst h
    funext j
    by_cases hj : j = n <;> simp [fm_km, fm_up, hj]
  · simp [fm_km, h]
theorem km_0 (M : fm_M) : fm_pi M 0 27 (nI 0) = fm_km M (0, M.1 19) := by
  refine Prod.ext (funext fun a => ?_) rfl
  show fm_u M.1 0 27 (nI 0) a = _
  unfold fm_u
  by_cases h : a = 0
  · subst h
    funext j
    by_cases hj : j = 27 <;> simp [fm_km, hj]
  · by_cases h2 : a = 19
    · subst h2; simp [fm_km]
    · simp [fm_km, h, h2]
theorem km_r14 (M : fm_M) (S : fm_SS) (F : Nat → Int32) : (fm_row (fm_km M S).1 14 F, (fm_km M S).2) = fm_km (fm_row M.1 14 F, M.2) S := by
  refine Prod.ext (funext fun a => ?_) rfl
  show fm_row (fm_km M S).1 14 F a = _
  unfold fm_row fm_km
  by_cases h : a = 14
  · subst h; simp
  · simp [h]
theorem fm_mf.km (M : fm_M) (S : fm_SS) : fm_mf M (fm_km M S) := ⟨fun a h1 h2 => by simp [fm_km, show ¬ a = 0 by omega, show ¬ a = 19 by omega], fun j h1 h2 => by simp [fm_km, h2], fun a ha => by simp [fm_km, show ¬ a = 0 by omega, show ¬ a = 19 by omega], rfl⟩
theorem fm_cnt_lt1 (m : Nat) : ∀ n, fm_cnt (fun s => decide (fm_bc s < m)) n + fm_cnt (fun s => decide (fm_bc s = m)) n = fm_cnt (fun s => decide (fm_bc s < m + 1)) n := by
  intro n
  induction n with
  | zero => rfl
  | succ n ih =>
    unfold fm_cnt
    simp only [decide_eq_true_eq]
    rcases Nat.lt_trichotomy (fm_bc n) m with h | h | h
    · rw [if_pos h, if_neg (by omega), if_pos (by omega)]; omega
    · rw [if_neg (by omega), if_pos h, if_pos (by omega)]; omega
    · rw [if_neg (by omega), if_neg (by omega), if_neg (by omega)]; omega
theorem fm_cnt_mono (q : Nat → Bool) : ∀ d n, fm_cnt q n ≤ fm_cnt q (n + d) := by
  intro d
  induction d with
  | zero => intro n; exact Nat.le_refl _
  | succ d ih =>
    intro n
    have h := ih n
    have e : fm_cnt q (n + (d + 1)) = fm_cnt q (n + d) + (if q (n + d) then 1 else 0) := rfl
    omega
