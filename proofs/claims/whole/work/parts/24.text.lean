/-! ===== FaultGraph$SetUpText ===== -/
theorem nI_or (a b : Nat) : nI a ||| nI b = nI (a ||| b) := by
  apply Int32.toBitVec_inj.mp
  rw [Int32.toBitVec_or]
  show BitVec.ofNat 32 a ||| BitVec.ofNat 32 b = BitVec.ofNat 32 (a ||| b)
  apply BitVec.eq_of_getLsbD_eq
  intro i hi
  rw [BitVec.getLsbD_or, BitVec.getLsbD_ofNat, BitVec.getLsbD_ofNat, BitVec.getLsbD_ofNat, Nat.testBit_or]
  simp [hi]
theorem fm_shl9 {c : Nat} (h : c ≤ 9) : nI 1 <<< (nI c &&& 31) = nI (2 ^ c) := by
  rcases (show c = 0 ∨ c = 1 ∨ c = 2 ∨ c = 3 ∨ c = 4 ∨ c = 5 ∨ c = 6 ∨ c = 7 ∨ c = 8 ∨ c = 9 by omega) with rfl | rfl | rfl | rfl | rfl | rfl | rfl | rfl | rfl | rfl <;> decide
/-- where the reading stands, how many clauses there are, their sorts, firsts, seconds -/
abbrev fm_TS : Type := Nat × Nat × (Nat → Int32) × (Nat → Int32) × (Nat → Int32)
def fm_tm (M : fm_M) (S : fm_TS) : fm_M := (fun a => if a = 63 then (fun j => if j = 1 then nI S.1 else if j = 2 then nI S.2.1 else M.1 63 j) else if a = 64 then S.2.2.1 else if a = 65 then S.2.2.2.1 else if a = 66 then S.2.2.2.2 else M.1 a, M.2)
theorem tm_size (M : fm_M) (S : fm_TS) : (fm_tm M S).1 63 0 = M.1 63 0 := rfl
theorem tm_at (M : fm_M) (S : fm_TS) : (fm_tm M S).1 63 1 = nI S.1 := rfl
theorem tm_n (M : fm_M) (S : fm_TS) : (fm_tm M S).1 63 2 = nI S.2.1 := rfl
theorem tm_sg (M : fm_M) (S : fm_TS) : (fm_tm M S).1 67 = M.1 67 := rfl
theorem tm_1 (M : fm_M) (S : fm_TS) {a : Nat} (h : a < 63 ∨ 66 < a) : (fm_tm M S).1 a = M.1 a := by
  have h1 : ¬ a = 63 := by omega
  have h2 : ¬ a = 64 := by omega
  have h3 : ¬ a = 65 := by omega
  have h4 : ¬ a = 66 := by omega
  simp [fm_tm, h1, h2, h3, h4]
theorem tm_uat (M : fm_M) (S : fm_TS) (m : Nat) : fm_pi (fm_tm M S) 63 1 (nI m) = fm_tm M (m, S.2) := by
  refine Prod.ext (funext fun a => ?_) rfl
  show fm_u (fm_tm M S).1 63 1 (nI m) a = _
  unfold fm_u
  by_cases h : a = 63
  · subst h
    funext j
    by_cases hj : j = 1 <;> simp [fm_tm, hj]
  · simp [fm_tm, h]
theorem tm_un (M : fm_M) (S : fm_TS) (m : Nat) : fm_pi (fm_tm M S) 63 2 (nI m) = fm_tm M (S.1, m, S.2.2) := by
  refine Prod.ext (funext fun a => ?_) rfl
  show fm_u (fm_tm M S).1 63 2 (nI m) a = _
  unfold fm_u
  by_cases h : a = 63
  · subst h
    funext j
    by_cases hj : j = 2
    · simp [fm_tm, hj]
    · simp [fm_tm, hj]
  · simp [fm_tm, h]
theorem tm_u4 (M : fm_M) (S : fm_TS) (n : Nat) (t : Int32) : fm_pi (fm_tm M S) 64 n t = fm_tm M (S.1, S.2.1, fm_up S.2.2.1 n t, S.2.2.2) := by
  refine Prod.ext (funext fun a => ?_) rfl
  show fm_u (fm_tm M S).1 64 n t a = _
  unfold fm_u
  by_cases h : a = 64
  · subst h
    funext j
    by_cases hj : j = n <;> simp [fm_tm, fm_up, hj]
  · simp [fm_tm, h]
theorem tm_u5 (M : fm_M) (S : fm_TS) (n : Nat) (t : Int32) : fm_pi (fm_tm M S) 65 n t = fm_tm M (S.1, S.2.1, S.2.2.1, fm_up S.2.2.2.1 n t, S.2.2.2.2) := by
  refine Prod.ext (funext fun a => ?_) rfl
  show fm_u (fm_tm M S).1 65 n t a = _
  unfold fm_u
  by_cases h : a = 65
  · subst h
    funext j
    by_cases hj : j = n <;> simp [fm_tm, fm_up, hj]
  · simp [fm_tm, h]
theorem tm_u6 (M : fm_M) (S : fm_TS) (n : Nat) (t : Int32) : fm_pi (fm_tm M S) 66 n t = fm_tm M (S.1, S.2.1, S.2.2.1, S.2.2.2.1, fm_up S.2.2.2.2 n t) := by
  refine Prod.ext (funext fun a => ?_) rfl
  show fm_u (fm_tm M S).1 66 n t a = _
  unfold fm_u
  by_cases h : a = 66
  · subst h
    funext j
    by_cases hj : j = n <;> simp [fm_tm, fm_up, hj]
  · simp [fm_tm, h]
/-- a sign is passed -/
def fm_ps (f : Nat → Nat) (z x : Nat) (S : fm_TS) : Bool × fm_TS := if S.1 < z ∧ f S.1 = x then (true, (S.1 + 1, S.2)) else (false, S)
/-- the text in the memory: z signs, f -/
def fm_tx (f : Nat → Nat) (z : Nat) (M : fm_M) : Prop := M.1 63 0 = nI z ∧ z ≤ 100 ∧ ∀ j, j < z → M.1 67 j = nI (f j) ∧ f j < 128
theorem ct_X5_passes {E : fm_E} {x z : Nat} {f : Nat → Nat} {S : fm_TS} {M : fm_M} (ht : fm_tx f z M) (hx : x < 128) (ha : S.1 ≤ 100) : fm_C shC E mX5_passes 0 [.ref (E.2.1 63), .int (nI x)] (fm_tm M S) (fun r M' => r = some (.int (fm_ib (fm_ps f z x S).1)) ∧ M' = fm_tm M (fm_ps f z x S).2) := by
  have hz := ht.2.1
  refine fm_C.of (by decide +kernel) (Nat.le_of_ble_eq_true rfl) ?_
  intro X hE hR hB
  subst hE
  have hB : fm_B _ X cX5_passes 2 RX5 (some .boolean) := hB
  refine fr_lv [some (.ref (fm_rh X 63)), some (.int (nI x))] ⟨rfl, rfl, trivial⟩ ?_
  refine fr_aload_n hB dX5_passes_0 rfl rfl ?_
  refine fr_getI hB dX5_passes_1 lf_X5_29 rfl rfl ?_
  refine fr_eqi _ (tm_at M S) ?_
  refine fr_aload_n hB dX5_passes_4 rfl rfl ?_
  refine fr_getI hB dX5_passes_5 lf_X5_25 rfl rfl ?_
  refine fr_eqi _ (ht.1) ?_
  refine fr_icmp_geN (tgt := 24) hB dX5_passes_8 (by decide) (by omega) (by omega) (fun h => ?_) (fun h => ?_)
  · have e : fm_ps f z x S = (false, S) := by rw [fm_ps, if_neg (by omega)]
    refine fr_iconst (v := nI 0) hB dX5_passes_24 (by decide) ?_
    exact fr_zreturn hB dX5_passes_25 (by first | exact fm_nar0 | exact fm_nar1 | exact fm_nar _) (⟨by rw [e]; rfl, by rw [e]⟩)
  · have hf := ht.2.2 S.1 h
    refine fr_aload_n hB dX5_passes_11 rfl rfl ?_
    refine fr_getR hB dX5_passes_12 lf_X5_21 rfl rfl ?_
    refine fr_aload_n hB dX5_passes_15 rfl rfl ?_
    refine fr_getI hB dX5_passes_16 lf_X5_29 rfl rfl ?_
    refine fr_eqi _ (tm_at M S) ?_
    refine fr_bald hB (_) dX5_passes_19 rfl (rfl) (by omega) (by decide) ?_
    refine fr_eqi (nI (f S.1)) (hf.1) ?_
    refine fr_iload_n hB dX5_passes_20 rfl rfl ?_
    refine fr_icmp_eqN (tgt := 26) hB dX5_passes_21 (by decide) (by omega) (by omega) (fun h2 => ?_) (fun h2 => ?_)
    · have e : fm_ps f z x S = (true, (S.1 + 1, S.2)) := by rw [fm_ps, if_pos ⟨h, h2⟩]
      refine fr_aload_n hB dX5_passes_26 rfl rfl ?_
      refine fr_dup hB dX5_passes_27 rfl ?_
      refine fr_getI hB dX5_passes_28 lf_X5_29 rfl rfl ?_
      refine fr_eqi _ (tm_at M S) ?_
      refine fr_iconst (v := nI 1) hB dX5_passes_31 (by decide) ?_
      refine fr_iaddN hB dX5_passes_32 ?_
      refine fr_putI hB dX5_passes_33 lp_X5_29 rfl rfl ?_
      rw [tm_uat]
      refine fr_iconst (v := nI 1) hB dX5_passes_36 (by decide) ?_
      exact fr_zreturn hB dX5_passes_37 (by first | exact fm_nar0 | exact fm_nar1 | exact fm_nar _) (⟨by rw [e]; rfl, by rw [e]⟩)
    · have e : fm_ps f z x S = (false, S) := by rw [fm_ps, if_neg (fun q => h2 q.2)]
      refine fr_iconst (v := nI 0) hB dX5_passes_24 (by decide) ?_
      exact fr_zreturn hB dX5_passes_25 (by first | exact fm_nar0 | exact fm_nar1 | exact fm_nar _) (⟨by rw [e]; rfl, by rw [e]⟩)
def fm_isd (x : Nat) : Bool := decide (48 ≤ x) && decide (x ≤ 57)
theorem ct_X5_isDigit {sh : List fm_S} {E : fm_E} {x : Nat} {M : fm_M} (hx : x < 128) : fm_C sh E mX5_isDigit 0 [.int (nI x)] M (fun r M' => r = some (.int (fm_ib (fm_isd x))) ∧ M' = M) := by
  refine fm_C.of (by decide +kernel) (Nat.le_of_ble_eq_true rfl) ?_
  intro X hE hR hB
  subst hE
  have hB : fm_B _ X cX5_isDigit 1 RX5 (some .boolean) := hB
  refine fr_lv [some (.int (nI x))] ⟨rfl, trivial⟩ ?_
  refine fr_iload_n hB dX5_isDigit_0 rfl rfl ?_
  refine fr_bipush (v := nI 48) hB dX5_isDigit_1 (by decide) ?_
  refine fr_icmp_ltN (tgt := 16) hB dX5_isDigit_3 (by decide) (by omega) (by omega) (fun h => ?_) (fun h => ?_)
  · refine fr_iconst (v := nI 0) hB dX5_isDigit_16 (by decide) ?_
    exact fr_zreturn hB dX5_isDigit_17 (by first | exact fm_nar0 | exact fm_nar1 | exact fm_nar _) (⟨by rw [show fm_isd x = false by simp [fm_isd]; omega]; rfl, rfl⟩)
  · refine fr_iload_n hB dX5_isDigit_6 rfl rfl ?_
    refine fr_bipush (v := nI 57) hB dX5_isDigit_7 (by decide) ?_
    refine fr_icmp_gtN (tgt := 16) hB dX5_isDigit_9 (by decide) (by omega) (by omega) (fun h2 => ?_) (fun h2 => ?_)
    · refine fr_iconst (v := nI 0) hB dX5_isDigit_16 (by decide) ?_
      exact fr_zreturn hB dX5_isDigit_17 (by first | exact fm_nar0 | exact fm_nar1 | exact fm_nar _) (⟨by rw [show fm_isd x = false by simp [fm_isd]; omega]; rfl, rfl⟩)
    · refine fr_iconst (v := nI 1) hB dX5_isDigit_12 (by decide) ?_
      refine fr_goto (tgt := 17) hB dX5_isDigit_13 (by decide) ?_
      exact fr_zreturn hB dX5_isDigit_17 (by first | exact fm_nar0 | exact fm_nar1 | exact fm_nar _) (⟨by rw [show fm_isd x = true by simp [fm_isd]; omega]; rfl, rfl⟩)
def fm_oI (o : Option Nat) : Int32 := match o with
  | some a => nI a
  | none => -1
def fm_oN (o : Option Nat) : Nat := match o with
  | some a => a
  | none => 0
/-- up to d digits from a place on: the number, and where they end -/
def fm_dg (f : Nat → Nat) (z : Nat) : Nat → Option Nat → Nat → Option Nat × Nat
  | 0, o, a => (o, a)
  | d + 1, o, a => if a < z ∧ fm_isd (f a) = true then fm_dg f z d (some (fm_oN o * 10 + (f a - 48))) (a + 1) else (o, a)
theorem fm_dg_at (f : Nat → Nat) (z : Nat) : ∀ d o a, a ≤ 100 → z ≤ 100 → (fm_dg f z d o a).2 ≤ 100 ∧ a ≤ (fm_dg f z d o a).2 := by
  intro d
  induction d with
  | zero => intro o a h _; exact ⟨h, Nat.le_refl a⟩
  | succ d ih =>
    intro o a h hz
    unfold fm_dg
    split
    · rename_i hc
      have := ih (some (fm_oN o * 10 + (f a - 48))) (a + 1) (by omega) hz
      omega
    · exact ⟨h, Nat.le_refl a⟩
def fm_p10 : Nat → Nat
  | 0 => 1
  | d + 1 => 10 * fm_p10 d
theorem fm_dg_lt (f : Nat → Nat) (z : Nat) : ∀ d o a b, (∀ v, o = some v → v < b) → 0 < b → ∀ v, (fm_dg f z d o a).1 = some v → v < b * fm_p10 d := by
  intro d
  induction d with
  | zero =>
    intro o a b ho hb v hv
    show v < b * 1
    have := ho v hv
    omega
  | succ d ih =>
    intro o a b ho hb v hv
    unfold fm_dg at hv
    split at hv
    · rename_i hc
      have h1 := ih (some (fm_oN o * 10 + (f a - 48))) (a + 1) (b * 10) (fun w hw => by
        have hw := Option.some.inj hw
        have hd : f a ≤ 57 := by
          have := hc.2
          simp [fm_isd] at this
          omega
        cases o with
        | none => simp only [fm_oN] at hw; omega
        | some q =>
          have := ho q rfl
          simp only [fm_oN] at hw
          omega) (by omega) v hv
      show v < b * (10 * fm_p10 d)
      rw [← Nat.mul_assoc]
      exact h1
    · have := ho v hv
      have h1 : 0 < fm_p10 (d + 1) := by
        have : ∀ n, 0 < fm_p10 n := by
          intro n
          induction n with
          | zero => decide
          | succ n ih2 => show 0 < 10 * fm_p10 n; omega
        exact this (d + 1)
      exact Nat.lt_of_lt_of_le this (Nat.le_mul_of_pos_right b h1)
theorem fm_max0 : ∀ o : Option Nat, (∀ v, o = some v → v < 2 ^ 31) → (if fm_oI o < nI 0 then nI 0 else fm_oI o) = nI (fm_oN o) := by
  intro o h
  cases o with
  | none => decide
  | some v => exact if_neg (by rw [nI_0]; exact nI_pos (h v rfl))
theorem ct_X5_digits {E : fm_E} {z d : Nat} {f : Nat → Nat} {S : fm_TS} {M : fm_M} (ht : fm_tx f z M) (hd : d ≤ 3) (ha : S.1 ≤ 100) : fm_C shC E mX5_digits 1 [.ref (E.2.1 63), .int (nI d)] (fm_tm M S) (fun r M' => r = some (.int (fm_oI (fm_dg f z d none S.1).1)) ∧ M' = fm_tm M ((fm_dg f z d none S.1).2, S.2)) := by
  have hz := ht.2.1
  refine fm_C.of (by decide +kernel) (Nat.le_of_ble_eq_true rfl) ?_
  intro X hE hR hB
  subst hE
  have hB : fm_B _ X cX5_digits 4 RX5 (some .int) := hB
  refine fr_lv [some (.ref (fm_rh X 63)), some (.int (nI d)), none, none] ⟨rfl, rfl, trivial⟩ ?_
  generalize hZ0 : fm_dg f z d none S.1 = Z
  have l1 : ∀ (e i a : Nat) (o : Option Nat), i + e = d → a ≤ 100 → (∀ v, o = some v → v < fm_p10 i) → fm_dg f z e o a = Z → fm_W shC X 4 4 [some (.ref (fm_rh X 63)), some (.int (nI d)), some (.int (fm_oI o)), some (.int (nI i))] [] (fm_tm M (a, S.2)) (fm_Q shC X (fun r M' => r = some (.int (fm_oI Z.1)) ∧ M' = fm_tm M (Z.2, S.2))) := by
    intro e
    induction e with
    | zero =>
      intro i a o hi ha2 ho hZ
      have hZ : (o, a) = Z := hZ
      subst hZ
      refine fr_iload_n hB dX5_digits_4 rfl rfl ?_
      refine fr_iload_n hB dX5_digits_5 rfl rfl ?_
      refine fr_icmp_geN (tgt := 73) hB dX5_digits_6 (by decide) (by omega) (by omega) (fun h => ?_) (fun h => ?_)
      · refine fr_iload_n hB dX5_digits_73 rfl rfl ?_
        exact fr_ireturn hB dX5_digits_74 (⟨rfl, rfl⟩)
      · exact absurd h (by omega)
    | succ e ih =>
      intro i a o hi ha2 ho hZ
      have hZ : (if a < z ∧ fm_isd (f a) = true then fm_dg f z e (some (fm_oN o * 10 + (f a - 48))) (a + 1) else (o, a)) = Z := hZ
      have hpi : fm_p10 i ≤ 100 := by
        rcases (show i = 0 ∨ i = 1 ∨ i = 2 by omega) with rfl | rfl | rfl <;> decide
      refine fr_iload_n hB dX5_digits_4 rfl rfl ?_
      refine fr_iload_n hB dX5_digits_5 rfl rfl ?_
      refine fr_icmp_geN (tgt := 73) hB dX5_digits_6 (by decide) (by omega) (by omega) (fun h => ?_) (fun h => ?_)
      · exact absurd h (by omega)
      · refine fr_aload_n hB dX5_digits_9 rfl rfl ?_
        refine fr_getI hB dX5_digits_10 lf_X5_29 rfl rfl ?_
        refine fr_eqi _ (tm_at M (a, S.2)) ?_
        refine fr_aload_n hB dX5_digits_13 rfl rfl ?_
        refine fr_getI hB dX5_digits_14 lf_X5_25 rfl rfl ?_
        refine fr_eqi _ (ht.1) ?_
        refine fr_icmp_geN (tgt := 73) hB dX5_digits_17 (by decide) (by omega) (by omega) (fun h2 => ?_) (fun h2 => ?_)
        · rw [if_neg (by omega)] at hZ
          subst hZ
          refine fr_iload_n hB dX5_digits_73 rfl rfl ?_
          exact fr_ireturn hB dX5_digits_74 (⟨rfl, rfl⟩)
        · have hf := ht.2.2 a h2
          refine fr_aload_n hB dX5_digits_20 rfl rfl ?_
          refine fr_getR hB dX5_digits_21 lf_X5_21 rfl rfl ?_
          refine fr_aload_n hB dX5_digits_24 rfl rfl ?_
          refine fr_getI hB dX5_digits_25 lf_X5_29 rfl rfl ?_
          refine fr_eqi _ (tm_at M (a, S.2)) ?_
          refine fr_bald hB (_) dX5_digits_28 rfl (rfl) (by omega) (by decide) ?_
          refine fr_eqi (nI (f a)) (hf.1) ?_
          refine fr_callS hB _ _ dX5_digits_29 lm_X5_57 (ct_X5_isDigit hf.2) rfl rfl (Nat.le_of_ble_eq_true rfl) (fm_room hR (by decide) (by decide)) ?_
          rintro _ M9 ⟨rfl, hM9⟩
          rw [hM9]
          clear hM9 M9
          refine fr_ret1 ?_
          refine fr_if_eqB (tgt := 73) hB dX5_digits_32 (by decide) (fun h3 => ?_) (fun h3 => ?_)
          · rw [if_neg (fun q => by rw [h3] at q; cases q.2)] at hZ
            subst hZ
            refine fr_iload_n hB dX5_digits_73 rfl rfl ?_
            exact fr_ireturn hB dX5_digits_74 (⟨rfl, rfl⟩)
          · rw [if_pos ⟨h2, h3⟩] at hZ
            have hdd : 48 ≤ f a ∧ f a ≤ 57 := by simpa [fm_isd] using h3
            have hon : fm_oN o < 100 := by
              cases o with
              | none => decide
              | some q => have := ho q rfl; show q < 100; omega
            refine fr_iload_n hB dX5_digits_35 rfl rfl ?_
            refine fr_iconst (v := nI 0) hB dX5_digits_36 (by decide) ?_
            refine fr_max hB dX5_digits_37 lx_X5_60.1 lx_X5_60.2.1 lx_X5_60.2.2.1 lx_X5_60.2.2.2 (Nat.le_of_ble_eq_true rfl) (fm_room1 hR (by decide)) ?_
            refine fr_eqi (nI (fm_oN o)) (fm_max0 o (fun v hv => by have := ho v hv; omega)) ?_
            refine fr_bipush (v := nI 10) hB dX5_digits_40 (by decide) ?_
            refine fr_imulN hB dX5_digits_42 ?_
            refine fr_aload_n hB dX5_digits_43 rfl rfl ?_
            refine fr_getR hB dX5_digits_44 lf_X5_21 rfl rfl ?_
            refine fr_aload_n hB dX5_digits_47 rfl rfl ?_
            refine fr_getI hB dX5_digits_48 lf_X5_29 rfl rfl ?_
            refine fr_eqi _ (tm_at M (a, S.2)) ?_
            refine fr_bald hB (_) dX5_digits_51 rfl (rfl) (by omega) (by decide) ?_
            refine fr_eqi (nI (f a)) (hf.1) ?_
            refine fr_iaddN hB dX5_digits_52 ?_
            refine fr_bipush (v := nI 48) hB dX5_digits_53 (by decide) ?_
            refine fr_isubN hB dX5_digits_55 (by omega) ?_
            refine fr_istore_n hB dX5_digits_56 rfl (by decide) rfl ?_
            refine fr_aload_n hB dX5_digits_57 rfl rfl ?_
            refine fr_dup hB dX5_digits_58 rfl ?_
            refine fr_getI hB dX5_digits_59 lf_X5_29 rfl rfl ?_
            refine fr_eqi _ (tm_at M (a, S.2)) ?_
            refine fr_iconst (v := nI 1) hB dX5_digits_62 (by decide) ?_
            refine fr_iaddN hB dX5_digits_63 ?_
            refine fr_putI hB dX5_digits_64 lp_X5_29 rfl rfl ?_
            rw [tm_uat]
            refine fr_iincN (b := 1) hB dX5_digits_67 rfl (by decide) (by decide) rfl ?_
            refine fr_goto (tgt := 4) hB dX5_digits_70 (by decide) ?_
            rw [show fm_oN o * 10 + f a - 48 = fm_oN o * 10 + (f a - 48) by omega]
            refine ih (i + 1) (a + 1) (some (fm_oN o * 10 + (f a - 48))) (by omega) (by omega) (fun v hv => ?_) hZ
            have hv := Option.some.inj hv
            show v < 10 * fm_p10 i
            cases o with
            | none =>
              have : 0 < fm_p10 i := by
                rcases (show i = 0 ∨ i = 1 ∨ i = 2 by omega) with rfl | rfl | rfl <;> decide
              simp only [fm_oN] at hv
              omega
            | some q =>
              have := ho q rfl
              simp only [fm_oN] at hv
              omega
  refine fr_iconst (v := -1) hB dX5_digits_0 (by decide) ?_
  refine fr_istore_n hB dX5_digits_1 rfl (by decide) rfl ?_
  refine fr_iconst (v := nI 0) hB dX5_digits_2 (by decide) ?_
  refine fr_istore_n hB dX5_digits_3 rfl (by decide) rfl ?_
  exact l1 d 0 S.1 none (by omega) ha (fun v hv => by cases hv) hZ0
/-- a clause is kept: its sort, and two numbers, where they are there -/
def fm_kc (so : Nat) (o1 o2 : Option Nat) (S : fm_TS) : Bool × fm_TS := match o1, o2 with
  | some a, some b => if S.2.1 < 16 then (true, (S.1, S.2.1 + 1, fm_up S.2.2.1 S.2.1 (nI so), fm_up S.2.2.2.1 S.2.1 (nI a), fm_up S.2.2.2.2 S.2.1 (nI b))) else (false, S)
  | _, _ => (false, S)
theorem ct_X5_keep {E : fm_E} {so : Nat} {o1 o2 : Option Nat} {S : fm_TS} {M : fm_M} (h1 : ∀ v, o1 = some v → v < 2 ^ 31) (h2 : ∀ v, o2 = some v → v < 2 ^ 31) (hn : S.2.1 ≤ 16) : fm_C shC E mX5_keep 0 [.ref (E.2.1 63), .int (nI so), .int (fm_oI o1), .int (fm_oI o2)] (fm_tm M S) (fun r M' => r = some (.int (fm_ib (fm_kc so o1 o2 S).1)) ∧ M' = fm_tm M (fm_kc so o1 o2 S).2) := by
  refine fm_C.of (by decide +kernel) (Nat.le_of_ble_eq_true rfl) ?_
  intro X hE hR hB
  subst hE
  have hB : fm_B _ X cX5_keep 4 RX5 (some .boolean) := hB
  refine fr_lv [some (.ref (fm_rh X 63)), some (.int (nI so)), some (.int (fm_oI o1)), some (.int (fm_oI o2))] ⟨rfl, rfl, rfl, rfl, trivial⟩ ?_
  refine fr_iload_n hB dX5_keep_0 rfl rfl ?_
  cases o1 with
  | none =>
    refine fr_if_lt (tgt := 17) hB dX5_keep_1 (by decide) (fun h => ?_) (fun h => ?_)
    · refine fr_iconst (v := nI 0) hB dX5_keep_17 (by decide) ?_
      exact fr_zreturn hB dX5_keep_18 (by first | exact fm_nar0 | exact fm_nar1 | exact fm_nar _) (⟨rfl, rfl⟩)
    · exact absurd (by decide) h
  | some a =>
    have ha := h1 a rfl
    refine fr_if_lt (tgt := 17) hB dX5_keep_1 (by decide) (fun h => ?_) (fun h => ?_)
    · exact absurd h (nI_pos ha)
    · refine fr_iload_n hB dX5_keep_4 rfl rfl ?_
      cases o2 with
      | none =>
        refine fr_if_lt (tgt := 17) hB dX5_keep_5 (by decide) (fun h3 => ?_) (fun h3 => ?_)
        · refine fr_iconst (v := nI 0) hB dX5_keep_17 (by decide) ?_
          exact fr_zreturn hB dX5_keep_18 (by first | exact fm_nar0 | exact fm_nar1 | exact fm_nar _) (⟨rfl, rfl⟩)
        · exact absurd (by decide) h3
      | some b =>
        have hb := h2 b rfl
        refine fr_if_lt (tgt := 17) hB dX5_keep_5 (by decide) (fun h3 => ?_) (fun h3 => ?_)
        · exact absurd h3 (nI_pos hb)
        · refine fr_aload_n hB dX5_keep_8 rfl rfl ?_
          refine fr_getI hB dX5_keep_9 lf_X5_32 rfl rfl ?_
          refine fr_eqi _ (tm_n M S) ?_
          refine fr_bipush (v := nI 16) hB dX5_keep_12 (by decide) ?_
          refine fr_icmp_ltN (tgt := 19) hB dX5_keep_14 (by decide) (by omega) (by omega) (fun h4 => ?_) (fun h4 => ?_)
          · have e : fm_kc so (some a) (some b) S = (true, (S.1, S.2.1 + 1, fm_up S.2.2.1 S.2.1 (nI so), fm_up S.2.2.2.1 S.2.1 (nI a), fm_up S.2.2.2.2 S.2.1 (nI b))) := by
              show (if S.2.1 < 16 then _ else _) = _
              rw [if_pos h4]
            refine fr_aload_n hB dX5_keep_19 rfl rfl ?_
            refine fr_getR hB dX5_keep_20 lf_X5_11 rfl rfl ?_
            refine fr_aload_n hB dX5_keep_23 rfl rfl ?_
            refine fr_getI hB dX5_keep_24 lf_X5_32 rfl rfl ?_
            refine fr_eqi _ (tm_n M S) ?_
            refine fr_iload_n hB dX5_keep_27 rfl rfl ?_
            refine fr_iast hB (_) dX5_keep_28 rfl (rfl) (by omega) (by decide) ?_
            rw [tm_u4]
            refine fr_aload_n hB dX5_keep_29 rfl rfl ?_
            refine fr_getR hB dX5_keep_30 lf_X5_15 rfl rfl ?_
            refine fr_aload_n hB dX5_keep_33 rfl rfl ?_
            refine fr_getI hB dX5_keep_34 lf_X5_32 rfl rfl ?_
            refine fr_eqi _ (tm_n M (S.1, S.2.1, fm_up S.2.2.1 S.2.1 (nI so), S.2.2.2)) ?_
            refine fr_iload_n hB dX5_keep_37 rfl rfl ?_
            refine fr_iast hB (_) dX5_keep_38 rfl (rfl) (by omega) (by decide) ?_
            rw [tm_u5]
            refine fr_aload_n hB dX5_keep_39 rfl rfl ?_
            refine fr_getR hB dX5_keep_40 lf_X5_18 rfl rfl ?_
            refine fr_aload_n hB dX5_keep_43 rfl rfl ?_
            refine fr_getI hB dX5_keep_44 lf_X5_32 rfl rfl ?_
            refine fr_eqi _ (tm_n M (S.1, S.2.1, fm_up S.2.2.1 S.2.1 (nI so), fm_up S.2.2.2.1 S.2.1 (fm_oI (some a)), S.2.2.2.2)) ?_
            refine fr_iload_n hB dX5_keep_47 rfl rfl ?_
            refine fr_iast hB (_) dX5_keep_48 rfl (rfl) (by omega) (by decide) ?_
            rw [tm_u6]
            refine fr_aload_n hB dX5_keep_49 rfl rfl ?_
            refine fr_dup hB dX5_keep_50 rfl ?_
            refine fr_getI hB dX5_keep_51 lf_X5_32 rfl rfl ?_
            refine fr_eqi _ (tm_n M (S.1, S.2.1, fm_up S.2.2.1 S.2.1 (nI so), fm_up S.2.2.2.1 S.2.1 (fm_oI (some a)), fm_up S.2.2.2.2 S.2.1 (fm_oI (some b)))) ?_
            refine fr_iconst (v := nI 1) hB dX5_keep_54 (by decide) ?_
            refine fr_iaddN hB dX5_keep_55 ?_
            refine fr_putI hB dX5_keep_56 lp_X5_32 rfl rfl ?_
            rw [tm_un]
            refine fr_iconst (v := nI 1) hB dX5_keep_59 (by decide) ?_
            exact fr_zreturn hB dX5_keep_60 (by first | exact fm_nar0 | exact fm_nar1 | exact fm_nar _) (⟨by rw [e]; rfl, by rw [e]; rfl⟩)
          · have e : fm_kc so (some a) (some b) S = (false, S) := by
              show (if S.2.1 < 16 then _ else _) = _
              rw [if_neg (by omega)]
            refine fr_iconst (v := nI 0) hB dX5_keep_17 (by decide) ?_
            exact fr_zreturn hB dX5_keep_18 (by first | exact fm_nar0 | exact fm_nar1 | exact fm_nar _) (⟨by rw [e]; rfl, by rw [e]⟩)
