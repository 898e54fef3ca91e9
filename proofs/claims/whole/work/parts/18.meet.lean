/-! ===== FaultGraph$Graph: meet, draw, ofNode ===== -/
abbrev fm_GS : Type := Nat × (Nat → Int64) × (Nat → Int32) × (Nat → Int32) × (Nat → Int32)
def fm_up {α : Type} (f : Nat → α) (n : Nat) (v : α) : Nat → α := fun j => if j = n then v else f j
/-- a memory whose graph is S: how many nodes, their tables, parts, works, fails -/
def fm_gm (M : fm_M) (S : fm_GS) : fm_M := (fun a => if a = 54 then (fun j => if j = 0 then nI S.1 else M.1 54 j) else if a = 56 then S.2.2.1 else if a = 57 then S.2.2.2.1 else if a = 58 then S.2.2.2.2 else M.1 a, fun a => if a = 55 then S.2.1 else M.2 a)
theorem gm_size (M : fm_M) (S : fm_GS) : (fm_gm M S).1 54 0 = nI S.1 := rfl
theorem gm_T (M : fm_M) (S : fm_GS) : (fm_gm M S).2 55 = S.2.1 := rfl
theorem gm_p (M : fm_M) (S : fm_GS) : (fm_gm M S).1 56 = S.2.2.1 := rfl
theorem gm_w (M : fm_M) (S : fm_GS) : (fm_gm M S).1 57 = S.2.2.2.1 := rfl
theorem gm_f (M : fm_M) (S : fm_GS) : (fm_gm M S).1 58 = S.2.2.2.2 := rfl
theorem gm_1 (M : fm_M) (S : fm_GS) {a : Nat} (h : a < 54 ∨ 58 < a) : (fm_gm M S).1 a = M.1 a := by
  have h1 : ¬ a = 54 := by omega
  have h2 : ¬ a = 56 := by omega
  have h3 : ¬ a = 57 := by omega
  have h4 : ¬ a = 58 := by omega
  simp [fm_gm, h1, h2, h3, h4]
theorem gm_2 (M : fm_M) (S : fm_GS) {a : Nat} (h : a ≠ 55) : (fm_gm M S).2 a = M.2 a := by simp [fm_gm, h]
theorem gm_n (M : fm_M) (S : fm_GS) (m : Nat) : fm_pi (fm_gm M S) 54 0 (nI m) = fm_gm M (m, S.2) := by
  refine Prod.ext (funext fun a => ?_) rfl
  show fm_u (fm_gm M S).1 54 0 (nI m) a = (fm_gm M (m, S.2)).1 a
  unfold fm_u
  by_cases h : a = 54
  · subst h
    funext j
    by_cases hj : j = 0 <;> simp [fm_gm, hj]
  · simp [fm_gm, h]
theorem gm_uT (M : fm_M) (S : fm_GS) (n : Nat) (t : Int64) : fm_pl (fm_gm M S) 55 n t = fm_gm M (S.1, fm_up S.2.1 n t, S.2.2) := by
  refine Prod.ext rfl (funext fun a => ?_)
  show fm_u (fm_gm M S).2 55 n t a = _
  unfold fm_u
  by_cases h : a = 55
  · subst h
    funext j
    by_cases hj : j = n <;> simp [fm_gm, fm_up, hj]
  · simp [fm_gm, h]
theorem gm_up (M : fm_M) (S : fm_GS) (n : Nat) (t : Int32) : fm_pi (fm_gm M S) 56 n t = fm_gm M (S.1, S.2.1, fm_up S.2.2.1 n t, S.2.2.2) := by
  refine Prod.ext (funext fun a => ?_) rfl
  show fm_u (fm_gm M S).1 56 n t a = _
  unfold fm_u
  by_cases h : a = 56
  · subst h
    funext j
    by_cases hj : j = n <;> simp [fm_gm, fm_up, hj]
  · simp [fm_gm, h]
theorem gm_uw (M : fm_M) (S : fm_GS) (n : Nat) (t : Int32) : fm_pi (fm_gm M S) 57 n t = fm_gm M (S.1, S.2.1, S.2.2.1, fm_up S.2.2.2.1 n t, S.2.2.2.2) := by
  refine Prod.ext (funext fun a => ?_) rfl
  show fm_u (fm_gm M S).1 57 n t a = _
  unfold fm_u
  by_cases h : a = 57
  · subst h
    funext j
    by_cases hj : j = n <;> simp [fm_gm, fm_up, hj]
  · simp [fm_gm, h]
theorem gm_uf (M : fm_M) (S : fm_GS) (n : Nat) (t : Int32) : fm_pi (fm_gm M S) 58 n t = fm_gm M (S.1, S.2.1, S.2.2.1, S.2.2.2.1, fm_up S.2.2.2.2 n t) := by
  refine Prod.ext (funext fun a => ?_) rfl
  show fm_u (fm_gm M S).1 58 n t a = _
  unfold fm_u
  by_cases h : a = 58
  · subst h
    funext j
    by_cases hj : j = n <;> simp [fm_gm, fm_up, hj]
  · simp [fm_gm, h]
theorem gm_self (M : fm_M) {n : Nat} (h : M.1 54 0 = nI n) : M = fm_gm M (n, M.2 55, M.1 56, M.1 57, M.1 58) := by
  refine Prod.ext (funext fun a => ?_) (funext fun a => ?_)
  · unfold fm_gm
    by_cases h1 : a = 54
    · subst h1
      funext j
      by_cases hj : j = 0
      · subst hj; simp [h]
      · simp [hj]
    · by_cases h2 : a = 56
      · subst h2; simp
      · by_cases h3 : a = 57
        · subst h3; simp
        · by_cases h4 : a = 58
          · subst h4; simp
          · simp [h1, h2, h3, h4]
  · unfold fm_gm
    by_cases h1 : a = 55
    · subst h1; simp
    · simp [h1]
theorem fm_PR.gm {k : Nat} {P : fm_P} {M : fm_M} (h : fm_PR k P M) (hk : k + 8 < 54) (S : fm_GS) : fm_PR k P (fm_gm M S) := h.kept (fun a _ h2 => gm_1 M S (by omega))
/-- the graph from a function on: what it is (a node, -6, -7), and the graph behind it -/
def fm_meet (o : Nat → Nat) (c : Nat) : Nat → Int64 → Nat → fm_GS → Int32 × fm_GS
  | 0, t, _, S => if t = 0 then (-6, S) else if t = -1 then (-7, S) else match fm_mt S.2.1 t 0 S.1 with
    | some i => (nI i, S)
    | none => (-6, S)
  | d + 1, t, pl, S => if t = 0 then (-6, S) else if t = -1 then (-7, S) else match fm_mt S.2.1 t 0 S.1 with
    | some i => (nI i, S)
    | none => if c ≤ fm_fp o t pl (c - pl) ∨ 64 ≤ S.1 then (-6, S) else
      let f := fm_fp o t pl (c - pl)
      let R1 := fm_meet o c d (fm_iw t (o f)) (f + 1) (S.1 + 1, fm_up S.2.1 S.1 t, fm_up S.2.2.1 S.1 (nI (o f)), S.2.2.2)
      let R2 := fm_meet o c d (fm_if t (o f)) (f + 1) (R1.2.1, R1.2.2.1, R1.2.2.2.1, fm_up R1.2.2.2.2.1 S.1 R1.1, R1.2.2.2.2.2)
      (nI S.1, (R2.2.1, R2.2.2.1, R2.2.2.2.1, R2.2.2.2.2.1, fm_up R2.2.2.2.2.2 S.1 R2.1))
theorem fm_meet_0 (o : Nat → Nat) (c d : Nat) {t : Int64} (pl : Nat) (S : fm_GS) (h : t = 0) : fm_meet o c d t pl S = (-6, S) := by
  cases d <;> simp [fm_meet, h]
theorem fm_meet_m1 (o : Nat → Nat) (c d : Nat) {t : Int64} (pl : Nat) (S : fm_GS) (h0 : ¬ t = 0) (h : t = -1) : fm_meet o c d t pl S = (-7, S) := by
  cases d <;> (unfold fm_meet; rw [if_neg h0, if_pos h])
theorem fm_meet_some (o : Nat → Nat) (c d : Nat) {t : Int64} (pl : Nat) (S : fm_GS) (h0 : ¬ t = 0) (h1 : ¬ t = -1) {i : Nat} (h : fm_mt S.2.1 t 0 S.1 = some i) : fm_meet o c d t pl S = (nI i, S) := by
  cases d <;> (unfold fm_meet; rw [if_neg h0, if_neg h1, h])
theorem fm_meet_z (o : Nat → Nat) (c : Nat) {t : Int64} (pl : Nat) (S : fm_GS) (h0 : ¬ t = 0) (h1 : ¬ t = -1) (h : fm_mt S.2.1 t 0 S.1 = none) : fm_meet o c 0 t pl S = (-6, S) := by
  unfold fm_meet
  rw [if_neg h0, if_neg h1, h]
theorem fm_meet_stop (o : Nat → Nat) (c d : Nat) {t : Int64} (pl : Nat) (S : fm_GS) (h0 : ¬ t = 0) (h1 : ¬ t = -1) (h : fm_mt S.2.1 t 0 S.1 = none) (h2 : c ≤ fm_fp o t pl (c - pl) ∨ 64 ≤ S.1) : fm_meet o c (d + 1) t pl S = (-6, S) := by
  unfold fm_meet
  rw [if_neg h0, if_neg h1, h]
  show (if c ≤ fm_fp o t pl (c - pl) ∨ 64 ≤ S.1 then _ else _) = _
  rw [if_pos h2]
theorem fm_meet_go (o : Nat → Nat) (c d : Nat) {t : Int64} (pl : Nat) (S : fm_GS) (h0 : ¬ t = 0) (h1 : ¬ t = -1) (h : fm_mt S.2.1 t 0 S.1 = none) (h2 : ¬ (c ≤ fm_fp o t pl (c - pl) ∨ 64 ≤ S.1)) {f : Nat} (hf : fm_fp o t pl (c - pl) = f) {R1 R2 : Int32 × fm_GS} (e1 : fm_meet o c d (fm_iw t (o f)) (f + 1) (S.1 + 1, fm_up S.2.1 S.1 t, fm_up S.2.2.1 S.1 (nI (o f)), S.2.2.2) = R1) (e2 : fm_meet o c d (fm_if t (o f)) (f + 1) (R1.2.1, R1.2.2.1, R1.2.2.2.1, fm_up R1.2.2.2.2.1 S.1 R1.1, R1.2.2.2.2.2) = R2) : fm_meet o c (d + 1) t pl S = (nI S.1, (R2.2.1, R2.2.2.1, R2.2.2.2.1, R2.2.2.2.2.1, fm_up R2.2.2.2.2.2 S.1 R2.1)) := by
  subst hf; subst e1; subst e2
  conv => lhs; unfold fm_meet
  rw [if_neg h0, if_neg h1, h]
  show (if c ≤ fm_fp o t pl (c - pl) ∨ 64 ≤ S.1 then _ else _) = _
  rw [if_neg h2]
theorem fm_meet_le (o : Nat → Nat) (c : Nat) : ∀ (d : Nat) (t : Int64) (pl : Nat) (S : fm_GS), S.1 ≤ 64 → (fm_meet o c d t pl S).2.1 ≤ 64 := by
  intro d
  induction d with
  | zero =>
    intro t pl S hS
    by_cases h0 : t = 0
    · rw [fm_meet_0 o c 0 pl S h0]; exact hS
    · by_cases h1 : t = -1
      · rw [fm_meet_m1 o c 0 pl S h0 h1]; exact hS
      · cases hm : fm_mt S.2.1 t 0 S.1 with
        | some i => rw [fm_meet_some o c 0 pl S h0 h1 hm]; exact hS
        | none => rw [fm_meet_z o c pl S h0 h1 hm]; exact hS
  | succ d ih =>
    intro t pl S hS
    by_cases h0 : t = 0
    · rw [fm_meet_0 o c (d + 1) pl S h0]; exact hS
    · by_cases h1 : t = -1
      · rw [fm_meet_m1 o c (d + 1) pl S h0 h1]; exact hS
      · cases hm : fm_mt S.2.1 t 0 S.1 with
        | some i => rw [fm_meet_some o c (d + 1) pl S h0 h1 hm]; exact hS
        | none =>
          by_cases h2 : c ≤ fm_fp o t pl (c - pl) ∨ 64 ≤ S.1
          · rw [fm_meet_stop o c d pl S h0 h1 hm h2]; exact hS
          · rw [fm_meet_go o c d pl S h0 h1 hm h2 rfl rfl rfl]
            apply ih
            apply ih
            show S.1 + 1 ≤ 64
            omega
theorem ct_X1_meet {k : Nat} {P : fm_P} {M : fm_M} (hk : k + 8 < 54) (hs : fm_Pl shC k) (hr : fm_PR k P M) (hw : fm_wf P) : ∀ (d : Nat) (E : fm_E) (pl : Nat) (t : Int64) (S : fm_GS), pl ≤ P 0 0 → P 0 0 ≤ pl + d → S.1 ≤ 64 → fm_C shC E mX1_meet (d + 2) [.ref (E.2.1 54), .ref (E.2.1 k), .long t, .int (nI pl)] (fm_gm M S) (fun r M' => r = some (.int (fm_meet (P 2) (P 0 0) d t pl S).1) ∧ M' = fm_gm M (fm_meet (P 2) (P 0 0) d t pl S).2) := by
  have h6 := hw.p6
  have ho := hw.ord.1
  intro d
  induction d with
  | zero =>
    intro E pl t S h1 h2 hS
    refine fm_C.of (by decide +kernel) (Nat.le_of_ble_eq_true rfl) ?_
    intro X hE hR hB
    subst hE
    have hB : fm_B _ X cX1_meet 9 RX1 (some .int) := hB
    refine fr_lv [some (.ref (fm_rh X 54)), some (.ref (fm_rh X k)), some (.long t), none, some (.int (nI pl)), none, none, none, none] ⟨rfl, rfl, rfl, rfl, trivial⟩ ?_
    refine fr_lload_n hB dX1_meet_0 rfl rfl ?_
    refine fr_lconst (v := 0) hB dX1_meet_1 (by decide) ?_
    refine fr_lcmp hB dX1_meet_2 ?_
    refine fr_if_ne (tgt := 9) hB dX1_meet_3 (by decide) (fun g0 => ?_) (fun g0 => ?_)
    · have g0 : ¬ t = 0 := fun q => g0 ((lg_cmp_eq _ _).mpr q)
      refine fr_lload_n hB dX1_meet_9 rfl rfl ?_
      refine fr_ldc2 (v := -1) hB dX1_meet_10 lc_X1_35 ?_
      refine fr_lcmp hB dX1_meet_13 ?_
      refine fr_if_ne (tgt := 20) hB dX1_meet_14 (by decide) (fun g1 => ?_) (fun g1 => ?_)
      · have g1 : ¬ t = -1 := fun q => g1 ((lg_cmp_eq _ _).mpr q)
        refine fr_aload_n hB dX1_meet_20 rfl rfl ?_
        refine fr_lload_n hB dX1_meet_21 rfl rfl ?_
        refine fr_callV hB _ _ dX1_meet_22 lm_X1_37 rfl (ct_X1_met (gm_size M S) hS) rfl rfl (Nat.le_of_ble_eq_true rfl) (fm_room hR (by omega) (by decide)) ?_
        rintro _ M9 ⟨rfl, hM9⟩
        rw [hM9]
        clear hM9 M9
        refine fr_ret1 ?_
        rw [gm_T]
        cases hm : fm_mt S.2.1 t 0 S.1 with
        | some i =>
          have hi := (fm_mt_lt S.2.1 t S.1 0 i hm).2
          refine fr_eqi (nI i) rfl ?_
          refine fr_istore hB dX1_meet_25 (by decide) rfl ?_
          refine fr_iload hB dX1_meet_27 rfl ?_
          refine fr_if_ltN (tgt := 35) hB dX1_meet_29 (by decide) (by omega) ?_
          refine fr_iload hB dX1_meet_32 rfl ?_
          exact fr_ireturn hB dX1_meet_34 (⟨by rw [fm_meet_some _ _ 0 pl S g0 g1 hm], by rw [fm_meet_some _ _ 0 pl S g0 g1 hm]⟩)
        | none =>
          refine fr_eqi (-1) rfl ?_
          refine fr_istore hB dX1_meet_25 (by decide) rfl ?_
          refine fr_iload hB dX1_meet_27 rfl ?_
          refine fr_if_lt (tgt := 35) hB dX1_meet_29 (by decide) (fun h => ?_) (fun h => ?_)
          · refine fr_aload_n hB dX1_meet_35 rfl rfl ?_
            refine fr_lload_n hB dX1_meet_36 rfl rfl ?_
            refine fr_iload hB dX1_meet_37 rfl ?_
            refine fr_callS hB _ _ dX1_meet_39 lm_X1_41 (ct_X1_firstPlace hs (hr.gm hk S) hw h1) rfl rfl (Nat.le_of_ble_eq_true rfl) (fm_room hR (by omega) (by decide)) ?_
            rintro _ M9 ⟨rfl, hM9⟩
            rw [hM9]
            clear hM9 M9
            refine fr_ret1 ?_
            refine fr_istore hB dX1_meet_42 (by decide) rfl ?_
            refine fr_iload hB dX1_meet_44 rfl ?_
            refine fr_aload_n hB dX1_meet_46 rfl rfl ?_
            refine fr_getI hB dX1_meet_47 lf_X1_44 hs.o rfl ?_
            refine fr_eqi _ ((hr.gm hk S).parts) ?_
            have hf : fm_fp (P 2) t pl (P 0 0 - pl) = P 0 0 := by
              have := fm_fp_ge (P 2) t (P 0 0 - pl) pl
              omega
            rw [hf]
            refine fr_icmp_geN (tgt := 62) hB dX1_meet_50 (by decide) (by omega) (by omega) (fun h3 => ?_) (fun h3 => ?_)
            · refine fr_bipush (v := -6) hB dX1_meet_62 (by decide) ?_
              exact fr_ireturn hB dX1_meet_64 (⟨by rw [fm_meet_z _ _ pl S g0 g1 hm], by rw [fm_meet_z _ _ pl S g0 g1 hm]⟩)
            · exact absurd h3 (by omega)
          · exact absurd (by decide) h
      · have g1 : t = -1 := (lg_cmp_eq _ _).mp (Decidable.not_not.mp g1)
        refine fr_bipush (v := -7) hB dX1_meet_17 (by decide) ?_
        exact fr_ireturn hB dX1_meet_19 (⟨by rw [fm_meet_m1 _ _ 0 pl S g0 g1], by rw [fm_meet_m1 _ _ 0 pl S g0 g1]⟩)
    · have g0 : t = 0 := (lg_cmp_eq _ _).mp (Decidable.not_not.mp g0)
      refine fr_bipush (v := -6) hB dX1_meet_6 (by decide) ?_
      exact fr_ireturn hB dX1_meet_8 (⟨by rw [fm_meet_0 _ _ 0 pl S g0], by rw [fm_meet_0 _ _ 0 pl S g0]⟩)
  | succ d ih =>
    intro E pl t S h1 h2 hS
    refine fm_C.of (by decide +kernel) (Nat.le_of_ble_eq_true rfl) ?_
    intro X hE hR hB
    subst hE
    have hB : fm_B _ X cX1_meet 9 RX1 (some .int) := hB
    refine fr_lv [some (.ref (fm_rh X 54)), some (.ref (fm_rh X k)), some (.long t), none, some (.int (nI pl)), none, none, none, none] ⟨rfl, rfl, rfl, rfl, trivial⟩ ?_
    refine fr_lload_n hB dX1_meet_0 rfl rfl ?_
    refine fr_lconst (v := 0) hB dX1_meet_1 (by decide) ?_
    refine fr_lcmp hB dX1_meet_2 ?_
    refine fr_if_ne (tgt := 9) hB dX1_meet_3 (by decide) (fun g0 => ?_) (fun g0 => ?_)
    · have g0 : ¬ t = 0 := fun q => g0 ((lg_cmp_eq _ _).mpr q)
      refine fr_lload_n hB dX1_meet_9 rfl rfl ?_
      refine fr_ldc2 (v := -1) hB dX1_meet_10 lc_X1_35 ?_
      refine fr_lcmp hB dX1_meet_13 ?_
      refine fr_if_ne (tgt := 20) hB dX1_meet_14 (by decide) (fun g1 => ?_) (fun g1 => ?_)
      · have g1 : ¬ t = -1 := fun q => g1 ((lg_cmp_eq _ _).mpr q)
        refine fr_aload_n hB dX1_meet_20 rfl rfl ?_
        refine fr_lload_n hB dX1_meet_21 rfl rfl ?_
        refine fr_callV hB _ _ dX1_meet_22 lm_X1_37 rfl (ct_X1_met (gm_size M S) hS) rfl rfl (Nat.le_of_ble_eq_true rfl) (fm_room hR (by omega) (by decide)) ?_
        rintro _ M9 ⟨rfl, hM9⟩
        rw [hM9]
        clear hM9 M9
        refine fr_ret1 ?_
        rw [gm_T]
        cases hm : fm_mt S.2.1 t 0 S.1 with
        | some i =>
          have hi := (fm_mt_lt S.2.1 t S.1 0 i hm).2
          refine fr_eqi (nI i) rfl ?_
          refine fr_istore hB dX1_meet_25 (by decide) rfl ?_
          refine fr_iload hB dX1_meet_27 rfl ?_
          refine fr_if_ltN (tgt := 35) hB dX1_meet_29 (by decide) (by omega) ?_
          refine fr_iload hB dX1_meet_32 rfl ?_
          exact fr_ireturn hB dX1_meet_34 (⟨by rw [fm_meet_some _ _ (d + 1) pl S g0 g1 hm], by rw [fm_meet_some _ _ (d + 1) pl S g0 g1 hm]⟩)
        | none =>
          refine fr_eqi (-1) rfl ?_
          refine fr_istore hB dX1_meet_25 (by decide) rfl ?_
          refine fr_iload hB dX1_meet_27 rfl ?_
          refine fr_if_lt (tgt := 35) hB dX1_meet_29 (by decide) (fun h => ?_) (fun h => ?_)
          · refine fr_aload_n hB dX1_meet_35 rfl rfl ?_
            refine fr_lload_n hB dX1_meet_36 rfl rfl ?_
            refine fr_iload hB dX1_meet_37 rfl ?_
            refine fr_callS hB _ _ dX1_meet_39 lm_X1_41 (ct_X1_firstPlace hs (hr.gm hk S) hw h1) rfl rfl (Nat.le_of_ble_eq_true rfl) (fm_room hR (by omega) (by decide)) ?_
            rintro _ M9 ⟨rfl, hM9⟩
            rw [hM9]
            clear hM9 M9
            refine fr_ret1 ?_
            refine fr_istore hB dX1_meet_42 (by decide) rfl ?_
            refine fr_iload hB dX1_meet_44 rfl ?_
            refine fr_aload_n hB dX1_meet_46 rfl rfl ?_
            refine fr_getI hB dX1_meet_47 lf_X1_44 hs.o rfl ?_
            refine fr_eqi _ ((hr.gm hk S).parts) ?_
            have hfb := fm_fp_ge (P 2) t (P 0 0 - pl) pl
            generalize hf : fm_fp (P 2) t pl (P 0 0 - pl) = f at hfb ⊢
            refine fr_icmp_geN (tgt := 62) hB dX1_meet_50 (by decide) (by omega) (by omega) (fun h3 => ?_) (fun h3 => ?_)
            · refine fr_bipush (v := -6) hB dX1_meet_62 (by decide) ?_
              exact fr_ireturn hB dX1_meet_64 (⟨by rw [fm_meet_stop _ _ d pl S g0 g1 hm (Or.inl (by rw [hf]; exact h3))], by rw [fm_meet_stop _ _ d pl S g0 g1 hm (Or.inl (by rw [hf]; exact h3))]⟩)
            · refine fr_aload_n hB dX1_meet_53 rfl rfl ?_
              refine fr_getI hB dX1_meet_54 lf_X1_25 rfl rfl ?_
              refine fr_eqi _ (gm_size M S) ?_
              refine fr_bipush (v := nI 64) hB dX1_meet_57 (by decide) ?_
              refine fr_icmp_ltN (tgt := 65) hB dX1_meet_59 (by decide) (by omega) (by omega) (fun h4 => ?_) (fun h4 => ?_)
              · have hof := ho f h3
                generalize e1 : fm_meet (P 2) (P 0 0) d (fm_iw t (P 2 f)) (f + 1) (S.1 + 1, fm_up S.2.1 S.1 t, fm_up S.2.2.1 S.1 (nI (P 2 f)), S.2.2.2) = R1
                generalize e2 : fm_meet (P 2) (P 0 0) d (fm_if t (P 2 f)) (f + 1) (R1.2.1, R1.2.2.1, R1.2.2.2.1, fm_up R1.2.2.2.2.1 S.1 R1.1, R1.2.2.2.2.2) = R2
                have hgo := fm_meet_go (P 2) (P 0 0) d pl S g0 g1 hm (by rw [hf]; omega) hf e1 e2
                have b1 : R1.2.1 ≤ 64 := by rw [← e1]; exact fm_meet_le _ _ d _ _ _ (by show S.1 + 1 ≤ 64; omega)
                refine fr_aload_n hB dX1_meet_65 rfl rfl ?_
                refine fr_getR hB dX1_meet_66 lf_X1_47 hs.o rfl ?_
                refine fr_iload hB dX1_meet_69 rfl ?_
                refine fr_iald hB (_) dX1_meet_71 hs.a2 (rfl) (by omega) (by decide) ?_
                refine fr_eqi _ ((hr.gm hk S).order _ (by omega)) ?_
                refine fr_istore hB dX1_meet_72 (by decide) rfl ?_
                refine fr_aload_n hB dX1_meet_74 rfl rfl ?_
                refine fr_getI hB dX1_meet_75 lf_X1_25 rfl rfl ?_
                refine fr_eqi _ (gm_size M S) ?_
                refine fr_istore hB dX1_meet_78 (by decide) rfl ?_
                refine fr_aload_n hB dX1_meet_80 rfl rfl ?_
                refine fr_dup hB dX1_meet_81 rfl ?_
                refine fr_getI hB dX1_meet_82 lf_X1_25 rfl rfl ?_
                refine fr_eqi _ (gm_size M S) ?_
                refine fr_iconst (v := nI 1) hB dX1_meet_85 (by decide) ?_
                refine fr_iaddN hB dX1_meet_86 ?_
                refine fr_putI hB dX1_meet_87 lp_X1_25 rfl rfl ?_
                rw [gm_n]
                refine fr_aload_n hB dX1_meet_90 rfl rfl ?_
                refine fr_getR hB dX1_meet_91 lf_X1_11 rfl rfl ?_
                refine fr_iload hB dX1_meet_94 rfl ?_
                refine fr_lload_n hB dX1_meet_96 rfl rfl ?_
                refine fr_last hB (_) dX1_meet_97 rfl (rfl) (by omega) (by decide) ?_
                rw [gm_uT]
                refine fr_aload_n hB dX1_meet_98 rfl rfl ?_
                refine fr_getR hB dX1_meet_99 lf_X1_15 rfl rfl ?_
                refine fr_iload hB dX1_meet_102 rfl ?_
                refine fr_iload hB dX1_meet_104 rfl ?_
                refine fr_iast hB (_) dX1_meet_106 rfl (rfl) (by omega) (by decide) ?_
                rw [gm_up]
                refine fr_aload_n hB dX1_meet_107 rfl rfl ?_
                refine fr_getR hB dX1_meet_108 lf_X1_19 rfl rfl ?_
                refine fr_iload hB dX1_meet_111 rfl ?_
                refine fr_aload_n hB dX1_meet_113 rfl rfl ?_
                refine fr_aload_n hB dX1_meet_114 rfl rfl ?_
                refine fr_lload_n hB dX1_meet_115 rfl rfl ?_
                refine fr_iload hB dX1_meet_116 rfl ?_
                refine fr_callS hB _ _ dX1_meet_118 lm_X1_50 (ct_X3_ifWorks (by omega)) rfl rfl (Nat.le_of_ble_eq_true rfl) (fm_room hR (by omega) (by decide)) ?_
                rintro _ M9 ⟨rfl, hM9⟩
                rw [hM9]
                clear hM9 M9
                refine fr_ret1 ?_
                refine fr_iload hB dX1_meet_121 rfl ?_
                refine fr_iconst (v := nI 1) hB dX1_meet_123 (by decide) ?_
                refine fr_iaddN hB dX1_meet_124 ?_
                refine fr_callV hB _ _ dX1_meet_125 lm_X1_29 rfl (ih (fm_EX X) (f + 1) _ _ (by omega) (by omega) (by show S.1 + 1 ≤ 64; omega)) rfl rfl (Nat.le_of_ble_eq_true rfl) (fm_room hR (by omega) (by decide)) ?_
                rintro _ M9 ⟨rfl, hM9⟩
                rw [hM9]
                clear hM9 M9
                refine fr_ret1 ?_
                rw [e1]
                refine fr_iast hB (_) dX1_meet_128 rfl (rfl) (by omega) (by decide) ?_
                rw [gm_uw]
                refine fr_aload_n hB dX1_meet_129 rfl rfl ?_
                refine fr_getR hB dX1_meet_130 lf_X1_22 rfl rfl ?_
                refine fr_iload hB dX1_meet_133 rfl ?_
                refine fr_aload_n hB dX1_meet_135 rfl rfl ?_
                refine fr_aload_n hB dX1_meet_136 rfl rfl ?_
                refine fr_lload_n hB dX1_meet_137 rfl rfl ?_
                refine fr_iload hB dX1_meet_138 rfl ?_
                refine fr_callS hB _ _ dX1_meet_140 lm_X1_54 (ct_X3_ifFails (by omega)) rfl rfl (Nat.le_of_ble_eq_true rfl) (fm_room hR (by omega) (by decide)) ?_
                rintro _ M9 ⟨rfl, hM9⟩
                rw [hM9]
                clear hM9 M9
                refine fr_ret1 ?_
                refine fr_iload hB dX1_meet_143 rfl ?_
                refine fr_iconst (v := nI 1) hB dX1_meet_145 (by decide) ?_
                refine fr_iaddN hB dX1_meet_146 ?_
                refine fr_callV hB _ _ dX1_meet_147 lm_X1_29 rfl (ih (fm_EX X) (f + 1) _ _ (by omega) (by omega) b1) rfl rfl (Nat.le_of_ble_eq_true rfl) (fm_room hR (by omega) (by decide)) ?_
                rintro _ M9 ⟨rfl, hM9⟩
                rw [hM9]
                clear hM9 M9
                refine fr_ret1 ?_
                rw [e2]
                refine fr_iast hB (_) dX1_meet_150 rfl (rfl) (by omega) (by decide) ?_
                rw [gm_uf]
                refine fr_iload hB dX1_meet_151 rfl ?_
                exact fr_ireturn hB dX1_meet_153 (⟨by rw [hgo], by rw [hgo]⟩)
              · refine fr_bipush (v := -6) hB dX1_meet_62 (by decide) ?_
                exact fr_ireturn hB dX1_meet_64 (⟨by rw [fm_meet_stop _ _ d pl S g0 g1 hm (Or.inr h4)], by rw [fm_meet_stop _ _ d pl S g0 g1 hm (Or.inr h4)]⟩)
          · exact absurd (by decide) h
      · have g1 : t = -1 := (lg_cmp_eq _ _).mp (Decidable.not_not.mp g1)
        refine fr_bipush (v := -7) hB dX1_meet_17 (by decide) ?_
        exact fr_ireturn hB dX1_meet_19 (⟨by rw [fm_meet_m1 _ _ (d + 1) pl S g0 g1], by rw [fm_meet_m1 _ _ (d + 1) pl S g0 g1]⟩)
    · have g0 : t = 0 := (lg_cmp_eq _ _).mp (Decidable.not_not.mp g0)
      refine fr_bipush (v := -6) hB dX1_meet_6 (by decide) ?_
      exact fr_ireturn hB dX1_meet_8 (⟨by rw [fm_meet_0 _ _ (d + 1) pl S g0], by rw [fm_meet_0 _ _ (d + 1) pl S g0]⟩)
