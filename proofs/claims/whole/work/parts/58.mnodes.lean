/-! ===== the reference: its graph ===== -/
theorem fm_al_eq : ∀ c : Nat, c < 6 → (1 : Int64) <<< ((nI (2 ^ c)).toInt64 &&& 63) - 1 = fm_al c := by decide +kernel
theorem fm_al_6 : (-1 : Int64) = fm_al 6 := by decide +kernel
theorem ct_X9_all {E : fm_E} {P : fm_P} {M : fm_M} (hm : fm_NP P M) (hw : fm_wf P) : fm_C shM E mX9_all 0 [.ref (E.2.1 0)] M (fun r M' => r = some (.long (fm_al (P 0 0))) ∧ M' = M) := by
  have h6 := hw.p6
  refine fm_C.of (by decide +kernel) (Nat.le_of_ble_eq_true rfl) ?_
  intro X hE hR hB
  subst hE
  have hB : fm_B _ X cX9_all 1 RX9 (some .long) := hB
  refine fr_lv [some (.ref (fm_rh X 0))] ⟨rfl, trivial⟩ ?_
  refine fr_aload_n hB dX9_all_0 rfl rfl ?_
  refine fr_getI hB dX9_all_1 lf_X9_90 rfl rfl ?_
  refine fr_eqi _ (hm.parts) ?_
  refine fr_bipush (v := nI 6) hB dX9_all_4 (by decide) ?_
  refine fr_icmp_neN (tgt := 15) hB dX9_all_6 (by decide) (by omega) (by omega) (fun h => ?_) (fun h => ?_)
  · refine fr_lconst (v := 1) hB dX9_all_15 (by decide) ?_
    refine fr_iconst (v := nI 1) hB dX9_all_16 (by decide) ?_
    refine fr_aload_n hB dX9_all_17 rfl rfl ?_
    refine fr_getI hB dX9_all_18 lf_X9_90 rfl rfl ?_
    refine fr_eqi _ (hm.parts) ?_
    refine fr_ishl hB dX9_all_21 ?_
    refine fr_eqi (nI (2 ^ P 0 0)) (fm_shl1 h6) ?_
    refine fr_lshl (v := _) hB dX9_all_22 (rfl) ?_
    refine fr_lconst (v := 1) hB dX9_all_23 (by decide) ?_
    refine fr_lsub hB dX9_all_24 ?_
    refine fr_eql _ (fm_al_eq _ (by omega)) ?_
    exact fr_lreturn hB dX9_all_25 (⟨rfl, rfl⟩)
  · refine fr_ldc2 (v := -1) hB dX9_all_9 lc_X9_182 ?_
    refine fr_goto (tgt := 25) hB dX9_all_12 (by decide) ?_
    exact fr_lreturn hB dX9_all_25 (⟨by rw [h]; exact congrArg (fun z => some (Value.long z)) fm_al_6, rfl⟩)
theorem fm_and1t (v : Int64) : v &&& 1 = 1 ↔ fm_bit v 0 = true := by
  constructor
  · intro h
    cases hb : fm_bit v 0 with
    | true => rfl
    | false =>
      rw [(fm_and1 v).mpr hb] at h
      exact absurd h (by decide)
  · intro h
    apply fm_bit_ext
    intro s hs
    rw [fm_bit_and, fm_bit_1 s hs]
    by_cases e : s = 0
    · rw [e, h]; rfl
    · simp [e]
theorem fm_iwi : ∀ p : Nat, p < 6 → ∀ s : Nat, s < 64 → nI s ||| nI (2 ^ p) = nI (fm_wi s p) := by decide +kernel
/-- a function were a part as told -/
def fm_we (f : Int64) (p : Nat) (b : Bool) (s : Nat) : Bool := fm_bit f (if b then fm_wi s p else fm_wo s p)
theorem ct_X9_were {E : fm_E} {f : Int64} {p : Nat} {b : Bool} {P : fm_P} {M : fm_M} (hm : fm_NP P M) (hw : fm_wf P) (hp : p < 6) : fm_C shM E mX9_were 0 [.ref (E.2.1 0), .long f, .int (nI p), .int (fm_ib b)] M (fun r M' => r = some (.long (fm_mk (fm_we f p b) (2 ^ P 0 0))) ∧ M' = M) := by
  have h6 := hw.p6
  have h2c := fm_2c h6
  refine fm_C.of (by decide +kernel) (Nat.le_of_ble_eq_true rfl) ?_
  intro X hE hR hB
  subst hE
  have hB : fm_B _ X cX9_were 9 RX9 (some .long) := hB
  refine fr_lv [some (.ref (fm_rh X 0)), some (.long f), none, some (.int (nI p)), some (.int (fm_ib b)), none, none, none, none] ⟨rfl, rfl, rfl, rfl, trivial⟩ ?_
  have l1 : ∀ d i : Nat, i + d = 2 ^ P 0 0 → fm_W shM X 9 6 [some (.ref (fm_rh X 0)), some (.long f), none, some (.int (nI p)), some (.int (fm_ib b)), some (.long (fm_mk (fm_we f p b) i)), none, some (.int (nI i)), none] [] M (fm_Q shM X (fun r M' => r = some (.long (fm_mk (fm_we f p b) (2 ^ P 0 0))) ∧ M' = M)) := by
    intro d
    induction d with
    | zero =>
      intro i hi
      have hi : i = 2 ^ P 0 0 := by omega
      subst hi
      refine fr_iload hB dX9_were_6 rfl ?_
      refine fr_iconst (v := nI 1) hB dX9_were_8 (by decide) ?_
      refine fr_aload_n hB dX9_were_9 rfl rfl ?_
      refine fr_getI hB dX9_were_10 lf_X9_90 rfl rfl ?_
      refine fr_eqi _ (hm.parts) ?_
      refine fr_ishl hB dX9_were_13 ?_
      refine fr_eqi (nI (2 ^ P 0 0)) (fm_shl1 h6) ?_
      refine fr_icmp_geN (tgt := 67) hB dX9_were_14 (by decide) (by omega) (by omega) (fun h => ?_) (fun h => ?_)
      · refine fr_lload hB dX9_were_67 rfl ?_
        exact fr_lreturn hB dX9_were_69 (⟨rfl, rfl⟩)
      · exact absurd h (by omega)
    | succ d ih =>
      intro i hi
      have fin : ∀ w : Nat, w < 64 → (if b then fm_wi i p else fm_wo i p) = w → fm_W shM X 9 41 [some (.ref (fm_rh X 0)), some (.long f), none, some (.int (nI p)), some (.int (fm_ib b)), some (.long (fm_mk (fm_we f p b) i)), none, some (.int (nI i)), some (.int (nI w))] [] M (fm_Q shM X (fun r M' => r = some (.long (fm_mk (fm_we f p b) (2 ^ P 0 0))) ∧ M' = M)) := by
        intro w hw64 hwe
        have e := fm_bit_ushr f (n := w) (s := 0) hw64
        rw [Nat.add_zero] at e
        have e2 : fm_mk (fm_we f p b) (i + 1) = fm_mk (fm_we f p b) i ||| (if fm_bit f w then (1 : Int64) <<< ((nI i).toInt64 &&& 63) else 0) := by rw [← hwe]; rfl
        refine fr_lload_n hB dX9_were_41 rfl rfl ?_
        refine fr_iload hB dX9_were_42 rfl ?_
        refine fr_lushr (v := _) hB dX9_were_44 (rfl) ?_
        refine fr_lconst (v := 1) hB dX9_were_45 (by decide) ?_
        refine fr_land hB dX9_were_46 ?_
        refine fr_lconst (v := 1) hB dX9_were_47 (by decide) ?_
        refine fr_lcmp hB dX9_were_48 ?_
        refine fr_if_ne (tgt := 61) hB dX9_were_49 (by decide) (fun h3 => ?_) (fun h3 => ?_)
        · have h3 : fm_bit f w = false := by
            cases hb : fm_bit f w with
            | false => rfl
            | true => exact absurd ((lg_cmp_eq _ _).mpr ((fm_and1t _).mpr (by rw [e]; exact hb))) h3
          rw [h3] at e2
          simp only [Bool.false_eq_true, if_false, Int64.or_zero] at e2
          rw [← e2]
          refine fr_iincN (b := 1) hB dX9_were_61 rfl (by decide) (by decide) rfl ?_
          refine fr_goto (tgt := 6) hB dX9_were_64 (by decide) ?_
          refine fr_lv [some (.ref (fm_rh X 0)), some (.long f), none, some (.int (nI p)), some (.int (fm_ib b)), some (.long (fm_mk (fm_we f p b) (i + 1))), none, some (.int (nI (i + 1))), none] ⟨rfl, rfl, rfl, rfl, rfl, rfl, trivial⟩ ?_
          exact ih (i + 1) (by omega)
        · have h3 : fm_bit f w = true := by
            have h4 := (fm_and1t _).mp ((lg_cmp_eq _ _).mp (Decidable.not_not.mp h3))
            rw [e] at h4
            exact h4
          rw [h3] at e2
          simp only [if_true] at e2
          refine fr_lload hB dX9_were_52 rfl ?_
          refine fr_lconst (v := 1) hB dX9_were_54 (by decide) ?_
          refine fr_iload hB dX9_were_55 rfl ?_
          refine fr_lshl (v := _) hB dX9_were_57 (rfl) ?_
          refine fr_lor hB dX9_were_58 ?_
          refine fr_lstore hB dX9_were_59 (by decide) rfl ?_
          refine fr_iincN (b := 1) hB dX9_were_61 rfl (by decide) (by decide) rfl ?_
          refine fr_goto (tgt := 6) hB dX9_were_64 (by decide) ?_
          rw [← e2]
          refine fr_lv [some (.ref (fm_rh X 0)), some (.long f), none, some (.int (nI p)), some (.int (fm_ib b)), some (.long (fm_mk (fm_we f p b) (i + 1))), none, some (.int (nI (i + 1))), none] ⟨rfl, rfl, rfl, rfl, rfl, rfl, trivial⟩ ?_
          exact ih (i + 1) (by omega)
      have hww := fm_wo64 p hp i (by omega)
      refine fr_iload hB dX9_were_6 rfl ?_
      refine fr_iconst (v := nI 1) hB dX9_were_8 (by decide) ?_
      refine fr_aload_n hB dX9_were_9 rfl rfl ?_
      refine fr_getI hB dX9_were_10 lf_X9_90 rfl rfl ?_
      refine fr_eqi _ (hm.parts) ?_
      refine fr_ishl hB dX9_were_13 ?_
      refine fr_eqi (nI (2 ^ P 0 0)) (fm_shl1 h6) ?_
      refine fr_icmp_geN (tgt := 67) hB dX9_were_14 (by decide) (by omega) (by omega) (fun h => ?_) (fun h => ?_)
      · exact absurd h (by omega)
      · refine fr_iload hB dX9_were_17 rfl ?_
        refine fr_if_eqB (tgt := 31) hB dX9_were_19 (by decide) (fun hb => ?_) (fun hb => ?_)
        · refine fr_iload hB dX9_were_31 rfl ?_
          refine fr_iconst (v := nI 1) hB dX9_were_33 (by decide) ?_
          refine fr_iload_n hB dX9_were_34 rfl rfl ?_
          refine fr_ishl hB dX9_were_35 ?_
          refine fr_eqi (nI (2 ^ p)) (fm_shl1 (by omega)) ?_
          refine fr_iconst (v := -1) hB dX9_were_36 (by decide) ?_
          refine fr_ixor hB dX9_were_37 ?_
          refine fr_iand hB dX9_were_38 ?_
          refine fr_eqi (nI (fm_wo i p)) (fm_less p hp i (by omega)) ?_
          refine fr_istore hB dX9_were_39 (by decide) rfl ?_
          exact fin _ hww.1 (by rw [hb]; rfl)
        · refine fr_iload hB dX9_were_22 rfl ?_
          refine fr_iconst (v := nI 1) hB dX9_were_24 (by decide) ?_
          refine fr_iload_n hB dX9_were_25 rfl rfl ?_
          refine fr_ishl hB dX9_were_26 ?_
          refine fr_eqi (nI (2 ^ p)) (fm_shl1 (by omega)) ?_
          refine fr_ior hB dX9_were_27 ?_
          refine fr_eqi (nI (fm_wi i p)) (fm_iwi p hp i (by omega)) ?_
          refine fr_goto (tgt := 39) hB dX9_were_28 (by decide) ?_
          refine fr_istore hB dX9_were_39 (by decide) rfl ?_
          exact fin _ hww.2 (by rw [hb]; rfl)
  refine fr_lconst (v := 0) hB dX9_were_0 (by decide) ?_
  refine fr_lstore hB dX9_were_1 (by decide) rfl ?_
  refine fr_iconst (v := nI 0) hB dX9_were_3 (by decide) ?_
  refine fr_istore hB dX9_were_4 (by decide) rfl ?_
  exact l1 (2 ^ P 0 0) 0 (by omega)
/-- a restricted table, were a part as told -/
def fm_wt2 (t : Int64) (p : Nat) (b : Bool) : Int64 := if b then fm_if t p else fm_iw t p
theorem fm_we_rs {c : Nat} (hc : c ≤ 6) (t : Int64) {p : Nat} (hp : p < c) (b : Bool) : fm_mk (fm_we (fm_rs c t) p b) (2 ^ c) = fm_rs c (fm_wt2 t p b) := by
  have h64 := (fm_2c hc).1
  apply fm_bit_ext
  intro s hs
  rw [fm_mk_bit _ _ h64 s hs, fm_rs_bit hc _ hs]
  by_cases h : s < 2 ^ c
  · obtain ⟨-, -, h3⟩ := fm_wmod c hc p hp s hs
    obtain ⟨h4, h5⟩ := h3 h
    have hl := fm_wo64 p (by omega) s hs
    unfold fm_we fm_wt2
    cases b with
    | true =>
      simp only [if_true]
      rw [fm_rs_bit hc _ hl.2, fm_if_bit t (by omega) hs, decide_eq_true h5, Bool.true_and]
    | false =>
      simp only [Bool.false_eq_true, if_false]
      rw [fm_rs_bit hc _ hl.1, fm_iw_bit t (by omega) hs, decide_eq_true h4, Bool.true_and]
  · rw [decide_eq_false h, Bool.false_and, Bool.false_and]
theorem ct_X9_wereT {E : fm_E} {t : Int64} {p : Nat} {b : Bool} {P : fm_P} {M : fm_M} (hm : fm_NP P M) (hw : fm_wf P) (hp : p < P 0 0) : fm_C shM E mX9_were 0 [.ref (E.2.1 0), .long (fm_rs (P 0 0) t), .int (nI p), .int (fm_ib b)] M (fun r M' => r = some (.long (fm_rs (P 0 0) (fm_wt2 t p b))) ∧ M' = M) := by
  have h6 := hw.p6
  rw [← fm_we_rs h6 t hp b]
  exact ct_X9_were hm hw (by omega)
/-- a memory whose graph is S, its functions L -/
def fm_hm (M : fm_M) (S : fm_GS) (L : Nat → Int64) : fm_M := (fun a => if a = 0 then (fun j => if j = 22 then nI S.1 else M.1 0 j) else if a = 16 then S.2.2.1 else if a = 17 then S.2.2.2.1 else if a = 18 then S.2.2.2.2 else M.1 a, fun a => if a = 15 then L else M.2 a)
theorem hm_n (M : fm_M) (S : fm_GS) (L : Nat → Int64) (m : Nat) : fm_pi (fm_hm M S L) 0 22 (nI m) = fm_hm M (m, S.2) L := by
  refine Prod.ext (funext fun a => ?_) rfl
  show fm_u (fm_hm M S L).1 0 22 (nI m) a = _
  unfold fm_u
  by_cases h : a = 0
  · subst h
    funext j
    by_cases hj : j = 22 <;> simp [fm_hm, hj]
  · simp [fm_hm, h]
theorem hm_uT (M : fm_M) (S : fm_GS) (L : Nat → Int64) (n : Nat) (t : Int64) : fm_pl (fm_hm M S L) 15 n t = fm_hm M S (fm_up L n t) := by
  refine Prod.ext rfl (funext fun a => ?_)
  show fm_u (fm_hm M S L).2 15 n t a = _
  unfold fm_u
  by_cases h : a = 15
  · subst h
    funext j
    by_cases hj : j = n <;> simp [fm_hm, fm_up, hj]
  · simp [fm_hm, h]
theorem hm_up (M : fm_M) (S : fm_GS) (L : Nat → Int64) (n : Nat) (t : Int32) : fm_pi (fm_hm M S L) 16 n t = fm_hm M (S.1, S.2.1, fm_up S.2.2.1 n t, S.2.2.2) L := by
  refine Prod.ext (funext fun a => ?_) rfl
  show fm_u (fm_hm M S L).1 16 n t a = _
  unfold fm_u
  by_cases h : a = 16
  · subst h
    funext j
    by_cases hj : j = n <;> simp [fm_hm, fm_up, hj]
  · simp [fm_hm, h]
theorem hm_uw (M : fm_M) (S : fm_GS) (L : Nat → Int64) (n : Nat) (t : Int32) : fm_pi (fm_hm M S L) 17 n t = fm_hm M (S.1, S.2.1, S.2.2.1, fm_up S.2.2.2.1 n t, S.2.2.2.2) L := by
  refine Prod.ext (funext fun a => ?_) rfl
  show fm_u (fm_hm M S L).1 17 n t a = _
  unfold fm_u
  by_cases h : a = 17
  · subst h
    funext j
    by_cases hj : j = n <;> simp [fm_hm, fm_up, hj]
  · simp [fm_hm, h]
theorem hm_uf (M : fm_M) (S : fm_GS) (L : Nat → Int64) (n : Nat) (t : Int32) : fm_pi (fm_hm M S L) 18 n t = fm_hm M (S.1, S.2.1, S.2.2.1, S.2.2.2.1, fm_up S.2.2.2.2 n t) L := by
  refine Prod.ext (funext fun a => ?_) rfl
  show fm_u (fm_hm M S L).1 18 n t a = _
  unfold fm_u
  by_cases h : a = 18
  · subst h
    funext j
    by_cases hj : j = n <;> simp [fm_hm, fm_up, hj]
  · simp [fm_hm, h]
theorem hm_0 (M : fm_M) (T : Nat → Int64) : fm_pi M 0 22 (nI 0) = fm_hm M (0, T, M.1 16, M.1 17, M.1 18) (M.2 15) := by
  refine Prod.ext (funext fun a => ?_) (funext fun a => ?_)
  · show fm_u M.1 0 22 (nI 0) a = _
    unfold fm_u fm_hm
    by_cases h : a = 0
    · subst h
      funext j
      by_cases hj : j = 22 <;> simp [hj]
    · by_cases h2 : a = 16
      · subst h2; simp
      · by_cases h3 : a = 17
        · subst h3; simp
        · by_cases h4 : a = 18
          · subst h4; simp
          · simp [h, h2, h3, h4]
  · unfold fm_hm
    by_cases h : a = 15
    · subst h; simp
    · simp [h]
theorem hm_1 (M : fm_M) (S : fm_GS) (L : Nat → Int64) {a : Nat} (h0 : a ≠ 0) (h : a < 16 ∨ 18 < a) : (fm_hm M S L).1 a = M.1 a := by
  simp [fm_hm, h0, show ¬ a = 16 by omega, show ¬ a = 17 by omega, show ¬ a = 18 by omega]
theorem hm_f (M : fm_M) (S : fm_GS) (L : Nat → Int64) {j : Nat} (h : j ≠ 22) : (fm_hm M S L).1 0 j = M.1 0 j := by simp [fm_hm, h]
theorem fm_NP.hm {P : fm_P} {M : fm_M} (h : fm_NP P M) (S : fm_GS) (L : Nat → Int64) : fm_NP P (fm_hm M S L) := h.kept (fun a h1 h2 => hm_1 M S L (by omega) (by omega)) (fun j hj => hm_f M S L (by omega))
theorem fm_mf.hm (M : fm_M) (S : fm_GS) (L : Nat → Int64) : fm_mf M (fm_hm M S L) := ⟨fun a h1 h2 => hm_1 M S L (by omega) (by omega), fun j h1 h2 => hm_f M S L h1, fun a ha => hm_1 M S L (by omega) (by omega), rfl⟩
theorem hm_nodes (M : fm_M) (S : fm_GS) (L : Nat → Int64) : (fm_hm M S L).1 0 22 = nI S.1 := rfl
/-- the functions are the tables, restricted -/
def fm_gok (c : Nat) (S : fm_GS) (L : Nat → Int64) : Prop := ∀ j, j < S.1 → L j = fm_rs c (S.2.1 j) ∧ fm_ci c (S.2.1 j)
theorem fm_gok.add {c : Nat} {S : fm_GS} {L : Nat → Int64} (h : fm_gok c S L) {t : Int64} (ht : fm_ci c t) (p : Int32) : fm_gok c (S.1 + 1, fm_up S.2.1 S.1 t, fm_up S.2.2.1 S.1 p, S.2.2.2) (fm_up L S.1 (fm_rs c t)) := by
  intro j hj
  have hj : j < S.1 + 1 := hj
  show fm_up L S.1 (fm_rs c t) j = fm_rs c (fm_up S.2.1 S.1 t j) ∧ fm_ci c (fm_up S.2.1 S.1 t j)
  rw [fm_up_at, fm_up_at]
  by_cases e : j = S.1
  · rw [if_pos e, if_pos e]; exact ⟨rfl, ht⟩
  · rw [if_neg e, if_neg e]; exact h j (by omega)
theorem fm_mt_rs {c : Nat} (hc : c ≤ 6) {T L : Nat → Int64} {t : Int64} (ht : fm_ci c t) : ∀ d i, (∀ j, j < i + d → L j = fm_rs c (T j) ∧ fm_ci c (T j)) → fm_mt L (fm_rs c t) i d = fm_mt T t i d := by
  intro d
  induction d with
  | zero => intro i _; rfl
  | succ d ih =>
    intro i h
    unfold fm_mt
    rw [ih (i + 1) (fun j hj => h j (by omega))]
    obtain ⟨h1, h2⟩ := h i (by omega)
    by_cases e : T i = t
    · rw [if_pos e, if_pos (by rw [h1, e])]
    · rw [if_neg e, if_neg (fun q => e (fm_rs_inj hc h2 ht (by rw [← h1]; exact q)))]
theorem fm_meet_bd (o : Nat → Nat) (c : Nat) : ∀ (d : Nat) (t : Int64) (pl : Nat) (S : fm_GS), (fm_meet o c d t pl S).2.1 + 1 ≤ S.1 + 2 ^ d := by
  intro d
  induction d with
  | zero =>
    intro t pl S
    by_cases h0 : t = 0
    · rw [fm_meet_0 o c 0 pl S h0]; exact Nat.le_refl _
    · by_cases h1 : t = -1
      · rw [fm_meet_m1 o c 0 pl S h0 h1]; exact Nat.le_refl _
      · cases hm : fm_mt S.2.1 t 0 S.1 with
        | some i => rw [fm_meet_some o c 0 pl S h0 h1 hm]; exact Nat.le_refl _
        | none => rw [fm_meet_z o c pl S h0 h1 hm]; exact Nat.le_refl _
  | succ d ih =>
    intro t pl S
    have h2d := Nat.two_pow_pos d
    rw [Nat.pow_succ]
    by_cases h0 : t = 0
    · rw [fm_meet_0 o c (d + 1) pl S h0]; show S.1 + 1 ≤ _; omega
    · by_cases h1 : t = -1
      · rw [fm_meet_m1 o c (d + 1) pl S h0 h1]; show S.1 + 1 ≤ _; omega
      · cases hm : fm_mt S.2.1 t 0 S.1 with
        | some i => rw [fm_meet_some o c (d + 1) pl S h0 h1 hm]; show S.1 + 1 ≤ _; omega
        | none =>
          by_cases h2 : c ≤ fm_fp o t pl (c - pl) ∨ 64 ≤ S.1
          · rw [fm_meet_stop o c d pl S h0 h1 hm h2]; show S.1 + 1 ≤ _; omega
          · rw [fm_meet_go o c d pl S h0 h1 hm h2 rfl rfl rfl]
            generalize fm_fp o t pl (c - pl) = f
            have g1 := ih (fm_iw t (o f)) (f + 1) (S.1 + 1, fm_up S.2.1 S.1 t, fm_up S.2.2.1 S.1 (nI (o f)), S.2.2.2)
            generalize fm_meet o c d (fm_iw t (o f)) (f + 1) (S.1 + 1, fm_up S.2.1 S.1 t, fm_up S.2.2.1 S.1 (nI (o f)), S.2.2.2) = R1 at g1 ⊢
            have g2 := ih (fm_if t (o f)) (f + 1) (R1.2.1, R1.2.2.1, R1.2.2.2.1, fm_up R1.2.2.2.2.1 S.1 R1.1, R1.2.2.2.2.2)
            generalize fm_meet o c d (fm_if t (o f)) (f + 1) (R1.2.1, R1.2.2.1, R1.2.2.2.1, fm_up R1.2.2.2.2.1 S.1 R1.1, R1.2.2.2.2.2) = R2 at g2 ⊢
            have g1 : R1.2.1 + 1 ≤ S.1 + 1 + 2 ^ d := g1
            have g2 : R2.2.1 + 1 ≤ R1.2.1 + 2 ^ d := g2
            show R2.2.1 + 1 ≤ _
            omega
