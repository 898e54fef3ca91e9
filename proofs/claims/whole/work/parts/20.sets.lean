/-! ===== FaultGraph$LeastSets ===== -/
abbrev fm_SS : Type := Nat × (Nat → Int32)
/-- a memory whose list of sets is S -/
def fm_sm (M : fm_M) (S : fm_SS) : fm_M := (fun a => if a = 59 then (fun j => if j = 1 then nI S.1 else M.1 59 j) else if a = 60 then S.2 else M.1 a, M.2)
theorem sm_size (M : fm_M) (S : fm_SS) : (fm_sm M S).1 59 1 = nI S.1 := rfl
theorem sm_row (M : fm_M) (S : fm_SS) : (fm_sm M S).1 60 = S.2 := rfl
theorem sm_1 (M : fm_M) (S : fm_SS) {a : Nat} (h : a ≠ 59) (h2 : a ≠ 60) : (fm_sm M S).1 a = M.1 a := by simp [fm_sm, h, h2]
theorem sm_n (M : fm_M) (S : fm_SS) (m : Nat) : fm_pi (fm_sm M S) 59 1 (nI m) = fm_sm M (m, S.2) := by
  refine Prod.ext (funext fun a => ?_) rfl
  show fm_u (fm_sm M S).1 59 1 (nI m) a = _
  unfold fm_u
  by_cases h : a = 59
  · subst h
    funext j
    by_cases hj : j = 1 <;> simp [fm_sm, hj]
  · simp [fm_sm, h]
theorem sm_u (M : fm_M) (S : fm_SS) (n : Nat) (t : Int32) : fm_pi (fm_sm M S) 60 n t = fm_sm M (S.1, fm_up S.2 n t) := by
  refine Prod.ext (funext fun a => ?_) rfl
  show fm_u (fm_sm M S).1 60 n t a = _
  unfold fm_u
  by_cases h : a = 60
  · subst h
    funext j
    by_cases hj : j = n <;> simp [fm_sm, fm_up, hj]
  · simp [fm_sm, h]
theorem sm_0 (M : fm_M) : fm_pi M 59 1 (nI 0) = fm_sm M (0, M.1 60) := by
  refine Prod.ext (funext fun a => ?_) rfl
  show fm_u M.1 59 1 (nI 0) a = _
  unfold fm_u
  by_cases h : a = 59
  · subst h
    funext j
    by_cases hj : j = 1 <;> simp [fm_sm, hj]
  · by_cases h2 : a = 60
    · subst h2; simp [fm_sm]
    · simp [fm_sm, h, h2]
/-- a set is kept -/
def fm_kp (S : fm_SS) (x : Nat) : fm_SS := if S.1 < 64 then (S.1 + 1, fm_up S.2 S.1 (nI x)) else S
theorem fm_kp_le (S : fm_SS) (x : Nat) (h : S.1 ≤ 64) : (fm_kp S x).1 ≤ 64 := by
  unfold fm_kp
  split
  · show S.1 + 1 ≤ 64; omega
  · exact h
theorem ct_X2_keep {E : fm_E} {x : Nat} {S : fm_SS} {M : fm_M} (h64 : S.1 ≤ 64) : fm_C shC E mX2_keep 0 [.ref (E.2.1 59), .int (nI x)] (fm_sm M S) (fun r M' => r = none ∧ M' = fm_sm M (fm_kp S x)) := by
  refine fm_C.of (by decide +kernel) (Nat.le_of_ble_eq_true rfl) ?_
  intro X hE hR hB
  subst hE
  have hB : fm_B _ X cX2_keep 2 RX2 none := hB
  refine fr_lv [some (.ref (fm_rh X 59)), some (.int (nI x))] ⟨rfl, rfl, trivial⟩ ?_
  refine fr_aload_n hB dX2_keep_0 rfl rfl ?_
  refine fr_getI hB dX2_keep_1 lf_X2_27 rfl rfl ?_
  refine fr_eqi _ (sm_size M S) ?_
  refine fr_aload_n hB dX2_keep_4 rfl rfl ?_
  refine fr_getR hB dX2_keep_5 lf_X2_9 rfl rfl ?_
  refine fr_alen hB dX2_keep_8 rfl (by decide) ?_
  refine fr_icmp_geN (tgt := 32) hB dX2_keep_9 (by decide) (by omega) (by omega) (fun h => ?_) (fun h => ?_)
  · exact fr_return hB dX2_keep_32 (⟨rfl, by rw [fm_kp, if_neg (by omega)]⟩)
  · refine fr_aload_n hB dX2_keep_12 rfl rfl ?_
    refine fr_getR hB dX2_keep_13 lf_X2_9 rfl rfl ?_
    refine fr_aload_n hB dX2_keep_16 rfl rfl ?_
    refine fr_getI hB dX2_keep_17 lf_X2_27 rfl rfl ?_
    refine fr_eqi _ (sm_size M S) ?_
    refine fr_iload_n hB dX2_keep_20 rfl rfl ?_
    refine fr_iast hB (_) dX2_keep_21 rfl (rfl) (by omega) (by decide) ?_
    rw [sm_u]
    refine fr_aload_n hB dX2_keep_22 rfl rfl ?_
    refine fr_dup hB dX2_keep_23 rfl ?_
    refine fr_getI hB dX2_keep_24 lf_X2_27 rfl rfl ?_
    refine fr_eqi _ (sm_size M (S.1, fm_up S.2 S.1 (nI x))) ?_
    refine fr_iconst (v := nI 1) hB dX2_keep_27 (by decide) ?_
    refine fr_iaddN hB dX2_keep_28 ?_
    refine fr_putI hB dX2_keep_29 lp_X2_27 rfl rfl ?_
    rw [sm_n]
    exact fr_return hB dX2_keep_32 (⟨rfl, by rw [fm_kp, if_pos h]⟩)
/-- all of 0 .. n-1 -/
def fm_all (q : Nat → Bool) : Nat → Bool
  | 0 => true
  | n + 1 => fm_all q n && q n
theorem fm_all_iff (q : Nat → Bool) : ∀ n, fm_all q n = true ↔ ∀ i, i < n → q i = true := by
  intro n
  induction n with
  | zero => simp [fm_all]
  | succ n ih =>
    unfold fm_all
    rw [Bool.and_eq_true, ih]
    constructor
    · intro h i hi
      by_cases e : i = n
      · rw [e]; exact h.2
      · exact h.1 i (by omega)
    · intro h
      exact ⟨fun i hi => h i (by omega), h n (by omega)⟩
theorem fm_all_no {q : Nat → Bool} {n i : Nat} (hi : i < n) (h : q i = false) : fm_all q n = false := by
  cases hb : fm_all q n with
  | false => rfl
  | true =>
    have := (fm_all_iff q n).mp hb i hi
    rw [h] at this
    cases this
/-- s is one of the sets that T tells, and no set of one part less is -/
def fm_ls (T : Int64) (c s : Nat) : Bool := fm_bit T s && fm_all (fun p => !(s.testBit p && fm_bit T (fm_wo s p))) c
theorem fm_less : ∀ p : Nat, p < 6 → ∀ s : Nat, s < 64 → nI s &&& (nI (2 ^ p) ^^^ -1) = nI (fm_wo s p) := by decide +kernel
theorem fm_wo_lt : ∀ p : Nat, p < 6 → ∀ s : Nat, s < 64 → fm_wo s p ≤ s ∧ (fm_wo s p = s ↔ s.testBit p = false) := by decide +kernel
theorem ct_X2_isLeast {sh : List fm_S} {E : fm_E} {s c : Nat} {T : Int64} {M : fm_M} (hs : s < 64) (hc : c ≤ 6) (hnw : True) : fm_C sh E mX2_isLeast 1 [.long T, .int (nI s), .int (nI c)] M (fun r M' => r = some (.int (fm_ib (fm_ls T c s))) ∧ M' = M) := by
  refine fm_C.of (by decide +kernel) (Nat.le_of_ble_eq_true rfl) ?_
  intro X hE hR hB
  subst hE
  have hB : fm_B _ X cX2_isLeast 6 RX2 (some .boolean) := hB
  refine fr_lv [some (.long T), none, some (.int (nI s)), some (.int (nI c)), none, none] ⟨rfl, rfl, rfl, trivial⟩ ?_
  refine fr_lload_n hB dX2_isLeast_0 rfl rfl ?_
  refine fr_iload_n hB dX2_isLeast_1 rfl rfl ?_
  refine fr_callN hB _ _ dX2_isLeast_2 hB.G.2.2 ln_says (ct_X8_says hs) rfl rfl (Nat.le_of_ble_eq_true rfl) (fm_room hR (by decide) (by decide)) ?_
  rintro _ M9 ⟨rfl, hM9⟩
  rw [hM9]
  clear hM9 M9
  refine fr_ret1 ?_
  refine fr_if_neB (tgt := 10) hB dX2_isLeast_5 (by decide) (fun h => ?_) (fun h => ?_)
  · have l1 : ∀ (d i : Nat), i + d = c → (∀ p, p < i → (!(s.testBit p && fm_bit T (fm_wo s p))) = true) → fm_W sh X 6 13 [some (.long T), none, some (.int (nI s)), some (.int (nI c)), some (.int (nI i)), none] [] M (fm_Q sh X (fun r M' => r = some (.int (fm_ib (fm_ls T c s))) ∧ M' = M)) := by
      intro d
      induction d with
      | zero =>
        intro i hi hq
        refine fr_iload hB dX2_isLeast_13 rfl ?_
        refine fr_iload_n hB dX2_isLeast_15 rfl rfl ?_
        refine fr_icmp_geN (tgt := 52) hB dX2_isLeast_16 (by decide) (by omega) (by omega) (fun h2 => ?_) (fun h2 => ?_)
        · refine fr_iconst (v := nI 1) hB dX2_isLeast_52 (by decide) ?_
          have e : fm_ls T c s = true := by
            unfold fm_ls
            rw [h, Bool.true_and]
            exact (fm_all_iff _ c).mpr (fun p hp => hq p (by omega))
          exact fr_zreturn hB dX2_isLeast_53 (by first | exact fm_nar0 | exact fm_nar1 | exact fm_nar _) (⟨by rw [e]; rfl, rfl⟩)
        · exact absurd h2 (by omega)
      | succ d ih =>
        intro i hi hq
        have hwl := fm_wo_lt i (by omega) s hs
        refine fr_iload hB dX2_isLeast_13 rfl ?_
        refine fr_iload_n hB dX2_isLeast_15 rfl rfl ?_
        refine fr_icmp_geN (tgt := 52) hB dX2_isLeast_16 (by decide) (by omega) (by omega) (fun h2 => ?_) (fun h2 => ?_)
        · exact absurd h2 (by omega)
        · refine fr_iload_n hB dX2_isLeast_19 rfl rfl ?_
          refine fr_iconst (v := nI 1) hB dX2_isLeast_20 (by decide) ?_
          refine fr_iload hB dX2_isLeast_21 rfl ?_
          refine fr_ishl hB dX2_isLeast_23 ?_
          refine fr_eqi (nI (2 ^ i)) (fm_shl1 (by omega)) ?_
          refine fr_iconst (v := -1) hB dX2_isLeast_24 (by decide) ?_
          refine fr_ixor hB dX2_isLeast_25 ?_
          refine fr_iand hB dX2_isLeast_26 ?_
          refine fr_eqi (nI (fm_wo s i)) (fm_less i (by omega) s hs) ?_
          refine fr_istore hB dX2_isLeast_27 (by decide) rfl ?_
          refine fr_iload hB dX2_isLeast_29 rfl ?_
          refine fr_iload_n hB dX2_isLeast_31 rfl rfl ?_
          refine fr_icmp_eqN (tgt := 46) hB dX2_isLeast_32 (by decide) (by omega) (by omega) (fun h3 => ?_) (fun h3 => ?_)
          · refine fr_iincN (b := 1) hB dX2_isLeast_46 rfl (by decide) (by decide) rfl ?_
            refine fr_goto (tgt := 13) hB dX2_isLeast_49 (by decide) ?_
            refine fr_lv [some (.long T), none, some (.int (nI s)), some (.int (nI c)), some (.int (nI (i + 1))), none] ⟨rfl, rfl, rfl, rfl, trivial⟩ ?_
            refine ih (i + 1) (by omega) (fun p hp => ?_)
            by_cases e : p = i
            · rw [e, (hwl.2).mp h3]; rfl
            · exact hq p (by omega)
          · refine fr_lload_n hB dX2_isLeast_35 rfl rfl ?_
            refine fr_iload hB dX2_isLeast_36 rfl ?_
            refine fr_callN hB _ _ dX2_isLeast_38 hB.G.2.2 ln_says (ct_X8_says (by omega)) rfl rfl (Nat.le_of_ble_eq_true rfl) (fm_room hR (by decide) (by decide)) ?_
            rintro _ M9 ⟨rfl, hM9⟩
            rw [hM9]
            clear hM9 M9
            refine fr_ret1 ?_
            have hb : s.testBit i = true := by
              cases hb : s.testBit i with
              | true => rfl
              | false => exact absurd ((hwl.2).mpr hb) h3
            refine fr_if_eqB (tgt := 46) hB dX2_isLeast_41 (by decide) (fun h4 => ?_) (fun h4 => ?_)
            · refine fr_iincN (b := 1) hB dX2_isLeast_46 rfl (by decide) (by decide) rfl ?_
              refine fr_goto (tgt := 13) hB dX2_isLeast_49 (by decide) ?_
              refine fr_lv [some (.long T), none, some (.int (nI s)), some (.int (nI c)), some (.int (nI (i + 1))), none] ⟨rfl, rfl, rfl, rfl, trivial⟩ ?_
              refine ih (i + 1) (by omega) (fun p hp => ?_)
              by_cases e : p = i
              · rw [e, h4]; simp
              · exact hq p (by omega)
            · have e : fm_ls T c s = false := by
                unfold fm_ls
                rw [fm_all_no (i := i) (by omega) (by rw [hb, h4]; rfl)]
                simp
              refine fr_iconst (v := nI 0) hB dX2_isLeast_44 (by decide) ?_
              exact fr_zreturn hB dX2_isLeast_45 (by first | exact fm_nar0 | exact fm_nar1 | exact fm_nar _) (⟨by rw [e]; rfl, rfl⟩)
    refine fr_iconst (v := nI 0) hB dX2_isLeast_10 (by decide) ?_
    refine fr_istore hB dX2_isLeast_11 (by decide) rfl ?_
    exact l1 c 0 (by omega) (fun p hp => absurd hp (by omega))
  · have e : fm_ls T c s = false := by
      unfold fm_ls
      rw [h]; rfl
    refine fr_iconst (v := nI 0) hB dX2_isLeast_8 (by decide) ?_
    exact fr_zreturn hB dX2_isLeast_9 (by first | exact fm_nar0 | exact fm_nar1 | exact fm_nar _) (⟨by rw [e]; rfl, rfl⟩)
theorem ct_X2_keepsUp {sh : List fm_S} {E : fm_E} {T : Int64} {M : fm_M} : fm_C sh E mX2_keepsUp 1 [.long T] M (fun r M' => r = some (.long (fm_mk (fun s => !fm_bit T (63 - s)) 64)) ∧ M' = M) := by
  refine fm_C.of (by decide +kernel) (Nat.le_of_ble_eq_true rfl) ?_
  intro X hE hR hB
  subst hE
  have hB : fm_B _ X cX2_keepsUp 5 RX2 (some .long) := hB
  refine fr_lv [some (.long T), none, none, none, none] ⟨rfl, trivial⟩ ?_
  have l1 : ∀ (d i : Nat), i + d = 64 → fm_W sh X 5 5 [some (.long T), none, some (.long (fm_mk (fun s => !fm_bit T (63 - s)) i)), none, some (.int (nI i))] [] M (fm_Q sh X (fun r M' => r = some (.long (fm_mk (fun s => !fm_bit T (63 - s)) 64)) ∧ M' = M)) := by
    intro d
    induction d with
    | zero =>
      intro i hi
      refine fr_iload hB dX2_keepsUp_5 rfl ?_
      refine fr_bipush (v := nI 64) hB dX2_keepsUp_7 (by decide) ?_
      refine fr_icmp_geN (tgt := 37) hB dX2_keepsUp_9 (by decide) (by omega) (by omega) (fun h => ?_) (fun h => ?_)
      · have e : i = 64 := by omega
        subst e
        refine fr_lload_n hB dX2_keepsUp_37 rfl rfl ?_
        exact fr_lreturn hB dX2_keepsUp_38 (⟨rfl, rfl⟩)
      · exact absurd h (by omega)
    | succ d ih =>
      intro i hi
      refine fr_iload hB dX2_keepsUp_5 rfl ?_
      refine fr_bipush (v := nI 64) hB dX2_keepsUp_7 (by decide) ?_
      refine fr_icmp_geN (tgt := 37) hB dX2_keepsUp_9 (by decide) (by omega) (by omega) (fun h => ?_) (fun h => ?_)
      · exact absurd h (by omega)
      · refine fr_lload_n hB dX2_keepsUp_12 rfl rfl ?_
        refine fr_bipush (v := nI 63) hB dX2_keepsUp_13 (by decide) ?_
        refine fr_iload hB dX2_keepsUp_15 rfl ?_
        refine fr_isubN hB dX2_keepsUp_17 (by omega) ?_
        refine fr_callN hB _ _ dX2_keepsUp_18 hB.G.2.2 ln_says (ct_X8_says (by omega)) rfl rfl (Nat.le_of_ble_eq_true rfl) (fm_room hR (by decide) (by decide)) ?_
        rintro _ M9 ⟨rfl, hM9⟩
        rw [hM9]
        clear hM9 M9
        refine fr_ret1 ?_
        refine fr_if_neB (tgt := 31) hB dX2_keepsUp_21 (by decide) (fun h2 => ?_) (fun h2 => ?_)
        · refine fr_iincN (b := 1) hB dX2_keepsUp_31 rfl (by decide) (by decide) rfl ?_
          refine fr_goto (tgt := 5) hB dX2_keepsUp_34 (by decide) ?_
          have e : fm_mk (fun s => !fm_bit T (63 - s)) (i + 1) = fm_mk (fun s => !fm_bit T (63 - s)) i := by
            conv => lhs; unfold fm_mk
            rw [h2]
            simp only [Bool.not_true, Bool.false_eq_true, if_false]
            exact fm_bit_ext (fun s hs => by rw [fm_bit_or, fm_bit_0, Bool.or_false])
          rw [← e]
          exact ih (i + 1) (by omega)
        · refine fr_lload_n hB dX2_keepsUp_24 rfl rfl ?_
          refine fr_lconst (v := 1) hB dX2_keepsUp_25 (by decide) ?_
          refine fr_iload hB dX2_keepsUp_26 rfl ?_
          refine fr_lshl (v := _) hB dX2_keepsUp_28 (rfl) ?_
          refine fr_lor hB dX2_keepsUp_29 ?_
          refine fr_lstore_n hB dX2_keepsUp_30 rfl (by decide) rfl ?_
          refine fr_iincN (b := 1) hB dX2_keepsUp_31 rfl (by decide) (by decide) rfl ?_
          refine fr_goto (tgt := 5) hB dX2_keepsUp_34 (by decide) ?_
          have e : fm_mk (fun s => !fm_bit T (63 - s)) (i + 1) = fm_mk (fun s => !fm_bit T (63 - s)) i ||| (1 : Int64) <<< ((nI i).toInt64 &&& 63) := by
            conv => lhs; unfold fm_mk
            rw [h2]
            rfl
          rw [← e]
          exact ih (i + 1) (by omega)
  refine fr_lconst (v := 0) hB dX2_keepsUp_0 (by decide) ?_
  refine fr_lstore_n hB dX2_keepsUp_1 rfl (by decide) rfl ?_
  refine fr_iconst (v := nI 0) hB dX2_keepsUp_2 (by decide) ?_
  refine fr_istore hB dX2_keepsUp_3 (by decide) rfl ?_
  exact l1 64 0 (by omega)
