/-! ===== the reference: nodeFor, draws, node, drawn, ever ===== -/
/-- the parts and tables of old nodes stay -/
theorem fm_meet_old (o : Nat → Nat) (c : Nat) : ∀ (d : Nat) (t : Int64) (pl : Nat) (S : fm_GS), S.1 ≤ (fm_meet o c d t pl S).2.1 ∧ ∀ j, j < S.1 → (fm_meet o c d t pl S).2.2.2.1 j = S.2.2.1 j := by
  intro d
  induction d with
  | zero =>
    intro t pl S
    by_cases h0 : t = 0
    · rw [fm_meet_0 o c 0 pl S h0]; exact ⟨Nat.le_refl _, fun _ _ => rfl⟩
    · by_cases h1 : t = -1
      · rw [fm_meet_m1 o c 0 pl S h0 h1]; exact ⟨Nat.le_refl _, fun _ _ => rfl⟩
      · cases hm : fm_mt S.2.1 t 0 S.1 with
        | some i => rw [fm_meet_some o c 0 pl S h0 h1 hm]; exact ⟨Nat.le_refl _, fun _ _ => rfl⟩
        | none => rw [fm_meet_z o c pl S h0 h1 hm]; exact ⟨Nat.le_refl _, fun _ _ => rfl⟩
  | succ d ih =>
    intro t pl S
    by_cases h0 : t = 0
    · rw [fm_meet_0 o c (d + 1) pl S h0]; exact ⟨Nat.le_refl _, fun _ _ => rfl⟩
    · by_cases h1 : t = -1
      · rw [fm_meet_m1 o c (d + 1) pl S h0 h1]; exact ⟨Nat.le_refl _, fun _ _ => rfl⟩
      · cases hm : fm_mt S.2.1 t 0 S.1 with
        | some i => rw [fm_meet_some o c (d + 1) pl S h0 h1 hm]; exact ⟨Nat.le_refl _, fun _ _ => rfl⟩
        | none =>
          by_cases h2 : c ≤ fm_fp o t pl (c - pl) ∨ 64 ≤ S.1
          · rw [fm_meet_stop o c d pl S h0 h1 hm h2]; exact ⟨Nat.le_refl _, fun _ _ => rfl⟩
          · rw [fm_meet_go o c d pl S h0 h1 hm h2 rfl rfl rfl]
            generalize fm_fp o t pl (c - pl) = f
            have g1 := ih (fm_iw t (o f)) (f + 1) (S.1 + 1, fm_up S.2.1 S.1 t, fm_up S.2.2.1 S.1 (nI (o f)), S.2.2.2)
            generalize fm_meet o c d (fm_iw t (o f)) (f + 1) (S.1 + 1, fm_up S.2.1 S.1 t, fm_up S.2.2.1 S.1 (nI (o f)), S.2.2.2) = R1 at g1 ⊢
            have g2 := ih (fm_if t (o f)) (f + 1) (R1.2.1, R1.2.2.1, R1.2.2.2.1, fm_up R1.2.2.2.2.1 S.1 R1.1, R1.2.2.2.2.2)
            generalize fm_meet o c d (fm_if t (o f)) (f + 1) (R1.2.1, R1.2.2.1, R1.2.2.2.1, fm_up R1.2.2.2.2.1 S.1 R1.1, R1.2.2.2.2.2) = R2 at g2 ⊢
            have a1 : S.1 + 1 ≤ R1.2.1 := g1.1
            have a2 : R1.2.1 ≤ R2.2.1 := g2.1
            refine ⟨by show S.1 ≤ R2.2.1; omega, fun j hj => ?_⟩
            show R2.2.2.2.1 j = _
            have b2 : R2.2.2.2.1 j = R1.2.2.2.1 j := g2.2 j (by show j < R1.2.1; omega)
            have b1 : R1.2.2.2.1 j = fm_up S.2.2.1 S.1 (nI (o f)) j := g1.2 j (by show j < S.1 + 1; omega)
            rw [b2, b1, fm_up_at, if_neg (by omega)]
theorem ct_X9_nodeFor {P : fm_P} {M : fm_M} (hm : fm_NP P M) (hw : fm_wf P) : ∀ (d : Nat) (E : fm_E) (pl : Nat) (t : Int64) (S : fm_GS) (L : Nat → Int64), pl ≤ P 0 0 → P 0 0 ≤ pl + d → S.1 + 2 ^ d ≤ 64 → fm_ci (P 0 0) t → (∀ j, j < pl → fm_dp t (P 2 j)) → fm_gok (P 0 0) S L → fm_C shM E mX9_nodeFor (d + 1) [.ref (E.2.1 0), .long (fm_rs (P 0 0) t)] (fm_hm M S L) (fun r M' => r = some (.int (fm_meet (P 2) (P 0 0) d t pl S).1) ∧ ∃ L', M' = fm_hm M (fm_meet (P 2) (P 0 0) d t pl S).2 L' ∧ fm_gok (P 0 0) (fm_meet (P 2) (P 0 0) d t pl S).2 L') := by
  have h6 := hw.p6
  have ho := hw.ord.1
  intro d
  induction d with
  | zero =>
    intro E pl t S L h1 h2 hS hci hdp hok
    have hcon : t = 0 ∨ t = -1 := fm_const h6 hci (fun p hp => by
      obtain ⟨j, hj, e⟩ := hw.ord.2.2 p hp
      rw [← e]
      exact hdp j (by omega))
    refine fm_C.of (by decide +kernel) (Nat.le_of_ble_eq_true rfl) ?_
    intro X hE hR hB
    subst hE
    have hB : fm_B _ X cX9_nodeFor 5 RX9 (some .int) := hB
    refine fr_lv [some (.ref (fm_rh X 0)), some (.long (fm_rs (P 0 0) t)), none, none, none] ⟨rfl, rfl, trivial⟩ ?_
    refine fr_lload_n hB dX9_nodeFor_0 rfl rfl ?_
    refine fr_lconst (v := 0) hB dX9_nodeFor_1 (by decide) ?_
    refine fr_lcmp hB dX9_nodeFor_2 ?_
    refine fr_if_ne (tgt := 9) hB dX9_nodeFor_3 (by decide) (fun g0 => ?_) (fun g0 => ?_)
    · have g0 : ¬ t = 0 := fun q => g0 ((lg_cmp_eq _ _).mpr ((fm_rs_z h6 hci).mpr q))
      have g1 : t = -1 := hcon.resolve_left g0
      refine fr_lload_n hB dX9_nodeFor_9 rfl rfl ?_
      refine fr_aload_n hB dX9_nodeFor_10 rfl rfl ?_
      refine fr_callV hB _ _ dX9_nodeFor_11 lm_X9_184 rfl (ct_X9_all (hm.hm S L) hw) rfl rfl (Nat.le_of_ble_eq_true rfl) (fm_room hR (by omega) (by decide)) ?_
      rintro _ M9 ⟨rfl, hM9⟩
      rw [hM9]
      clear hM9 M9
      refine fr_ret1 ?_
      refine fr_lcmp hB dX9_nodeFor_14 ?_
      refine fr_if_ne (tgt := 21) hB dX9_nodeFor_15 (by decide) (fun g2 => ?_) (fun g2 => ?_)
      · exact absurd ((lg_cmp_eq _ _).mpr ((fm_rs_a h6 hci).mpr g1)) g2
      · refine fr_bipush (v := -7) hB dX9_nodeFor_18 (by decide) ?_
        exact fr_ireturn hB dX9_nodeFor_20 (⟨by rw [fm_meet_m1 _ _ 0 pl S g0 g1], L, by rw [fm_meet_m1 _ _ 0 pl S g0 g1], by rw [fm_meet_m1 _ _ 0 pl S g0 g1]; exact hok⟩)
    · have g0 : t = 0 := (fm_rs_z h6 hci).mp ((lg_cmp_eq _ _).mp (Decidable.not_not.mp g0))
      refine fr_bipush (v := -6) hB dX9_nodeFor_6 (by decide) ?_
      exact fr_ireturn hB dX9_nodeFor_8 (⟨by rw [fm_meet_0 _ _ 0 pl S g0], L, by rw [fm_meet_0 _ _ 0 pl S g0], by rw [fm_meet_0 _ _ 0 pl S g0]; exact hok⟩)
  | succ d ih =>
    intro E pl t S L h1 h2 hS hci hdp hok
    have h2d := Nat.two_pow_pos d
    rw [Nat.pow_succ] at hS
    refine fm_C.of (by decide +kernel) (Nat.le_of_ble_eq_true rfl) ?_
    intro X hE hR hB
    subst hE
    have hB : fm_B _ X cX9_nodeFor 5 RX9 (some .int) := hB
    refine fr_lv [some (.ref (fm_rh X 0)), some (.long (fm_rs (P 0 0) t)), none, none, none] ⟨rfl, rfl, trivial⟩ ?_
    refine fr_lload_n hB dX9_nodeFor_0 rfl rfl ?_
    refine fr_lconst (v := 0) hB dX9_nodeFor_1 (by decide) ?_
    refine fr_lcmp hB dX9_nodeFor_2 ?_
    refine fr_if_ne (tgt := 9) hB dX9_nodeFor_3 (by decide) (fun g0 => ?_) (fun g0 => ?_)
    · have g0 : ¬ t = 0 := fun q => g0 ((lg_cmp_eq _ _).mpr ((fm_rs_z h6 hci).mpr q))
      refine fr_lload_n hB dX9_nodeFor_9 rfl rfl ?_
      refine fr_aload_n hB dX9_nodeFor_10 rfl rfl ?_
      refine fr_callV hB _ _ dX9_nodeFor_11 lm_X9_184 rfl (ct_X9_all (hm.hm S L) hw) rfl rfl (Nat.le_of_ble_eq_true rfl) (fm_room hR (by omega) (by decide)) ?_
      rintro _ M9 ⟨rfl, hM9⟩
      rw [hM9]
      clear hM9 M9
      refine fr_ret1 ?_
      refine fr_lcmp hB dX9_nodeFor_14 ?_
      refine fr_if_ne (tgt := 21) hB dX9_nodeFor_15 (by decide) (fun g1 => ?_) (fun g1 => ?_)
      · have g1 : ¬ t = -1 := fun q => g1 ((lg_cmp_eq _ _).mpr ((fm_rs_a h6 hci).mpr q))
        have emt : fm_mt L (fm_rs (P 0 0) t) 0 S.1 = fm_mt S.2.1 t 0 S.1 := fm_mt_rs h6 hci S.1 0 (fun j hj => hok j (by omega))
        have hfb := fm_fp_ge (P 2) t (P 0 0 - pl) pl
        have hfp : fm_fp (P 2) t pl (P 0 0 - pl) < P 0 0 := by
          rcases Nat.lt_or_ge (fm_fp (P 2) t pl (P 0 0 - pl)) (P 0 0) with q | q
          · exact q
          · exfalso
            have hcon : t = 0 ∨ t = -1 := fm_const h6 hci (fun p hp => by
              obtain ⟨j, hj, e⟩ := hw.ord.2.2 p hp
              rw [← e]
              rcases Nat.lt_or_ge j pl with z | z
              · exact hdp j z
              · exact (fm_dp_iff (by have := ho j hj; omega)).mp (fm_fp_before (P 2) t (P 0 0 - pl) pl j z (by omega)))
            exact hcon.elim g0 g1
        have hbef : ∀ j, j < fm_fp (P 2) t pl (P 0 0 - pl) → fm_dp t (P 2 j) := by
          intro j hj
          have := ho j (by omega)
          rcases Nat.lt_or_ge j pl with z | z
          · exact hdp j z
          · exact (fm_dp_iff (by omega)).mp (fm_fp_before (P 2) t (P 0 0 - pl) pl j z hj)
        have hat := fm_fp_at (P 2) t (P 0 0 - pl) pl (by omega)
        have fin : fm_mt S.2.1 t 0 S.1 = none → fm_W shM X 5 50 [some (.ref (fm_rh X 0)), some (.long (fm_rs (P 0 0) t)), none, none, none] [] (fm_hm M S L) (fm_Q shM X (fun r M' => r = some (.int (fm_meet (P 2) (P 0 0) (d + 1) t pl S).1) ∧ ∃ L', M' = fm_hm M (fm_meet (P 2) (P 0 0) (d + 1) t pl S).2 L' ∧ fm_gok (P 0 0) (fm_meet (P 2) (P 0 0) (d + 1) t pl S).2 L')) := by
          intro hmn
          generalize hf : fm_fp (P 2) t pl (P 0 0 - pl) = f at hfb hfp hbef hat
          have hof := ho f hfp
          generalize e1 : fm_meet (P 2) (P 0 0) d (fm_iw t (P 2 f)) (f + 1) (S.1 + 1, fm_up S.2.1 S.1 t, fm_up S.2.2.1 S.1 (nI (P 2 f)), S.2.2.2) = R1
          generalize e2 : fm_meet (P 2) (P 0 0) d (fm_if t (P 2 f)) (f + 1) (R1.2.1, R1.2.2.1, R1.2.2.2.1, fm_up R1.2.2.2.2.1 S.1 R1.1, R1.2.2.2.2.2) = R2
          have hgo := fm_meet_go (P 2) (P 0 0) d pl S g0 g1 hmn (by rw [hf]; omega) hf e1 e2
          rw [hgo]
          have b1 : R1.2.1 + 1 ≤ S.1 + 1 + 2 ^ d := by rw [← e1]; exact fm_meet_bd _ _ d _ _ (S.1 + 1, fm_up S.2.1 S.1 t, fm_up S.2.2.1 S.1 (nI (P 2 f)), S.2.2.2)
          have hge1 : S.1 + 1 ≤ R1.2.1 := by rw [← e1]; exact (fm_meet_old (P 2) (P 0 0) d _ _ (S.1 + 1, fm_up S.2.1 S.1 t, fm_up S.2.2.1 S.1 (nI (P 2 f)), S.2.2.2)).1
          have mid : ∀ L1, fm_gok (P 0 0) R1.2 L1 → R1.2.2.2.1 S.1 = nI (P 2 f) → fm_W shM X 5 142 [some (.ref (fm_rh X 0)), some (.long (fm_rs (P 0 0) t)), none, some (.int (nI S.1)), none] [.int R1.1, .int (nI S.1), .ref (fm_rh X 17)] (fm_hm M R1.2 L1) (fm_Q shM X (fun r M' => r = some (.int (nI S.1)) ∧ ∃ L', M' = fm_hm M (R2.2.1, R2.2.2.1, R2.2.2.2.1, R2.2.2.2.2.1, fm_up R2.2.2.2.2.2 S.1 R2.1) L' ∧ fm_gok (P 0 0) (R2.2.1, R2.2.2.1, R2.2.2.2.1, R2.2.2.2.2.1, fm_up R2.2.2.2.2.2 S.1 R2.1) L')) := by
            intro L1 hok1 hpr
            refine fr_iast hB (_) dX9_nodeFor_142 rfl (rfl) (by omega) (by decide) ?_
            rw [hm_uw]
            refine fr_aload_n hB dX9_nodeFor_143 rfl rfl ?_
            refine fr_getR hB dX9_nodeFor_144 lf_X9_69 rfl rfl ?_
            refine fr_iload_n hB dX9_nodeFor_147 rfl rfl ?_
            refine fr_aload_n hB dX9_nodeFor_148 rfl rfl ?_
            refine fr_aload_n hB dX9_nodeFor_149 rfl rfl ?_
            refine fr_lload_n hB dX9_nodeFor_150 rfl rfl ?_
            refine fr_aload_n hB dX9_nodeFor_151 rfl rfl ?_
            refine fr_getR hB dX9_nodeFor_152 lf_X9_63 rfl rfl ?_
            refine fr_iload_n hB dX9_nodeFor_155 rfl rfl ?_
            refine fr_iald hB (_) dX9_nodeFor_156 rfl (rfl) (by omega) (by decide) ?_
            refine fr_eqi (nI (P 2 f)) (hpr) ?_
            refine fr_iconst (v := nI 1) hB dX9_nodeFor_157 (by decide) ?_
            refine fr_callV hB _ _ dX9_nodeFor_158 lm_X9_191 rfl (ct_X9_wereT (t := t) (b := true) (hm.hm (R1.2.1, R1.2.2.1, R1.2.2.2.1, fm_up R1.2.2.2.2.1 S.1 R1.1, R1.2.2.2.2.2) L1) hw hof) rfl rfl (Nat.le_of_ble_eq_true rfl) (fm_room hR (by omega) (by decide)) ?_
            rintro _ M9 ⟨rfl, hM9⟩
            rw [hM9]
            clear hM9 M9
            refine fr_ret1 ?_
            have ih2 := ih (fm_EX X) (f + 1) (fm_if t (P 2 f)) (R1.2.1, R1.2.2.1, R1.2.2.2.1, fm_up R1.2.2.2.2.1 S.1 R1.1, R1.2.2.2.2.2) L1 (by omega) (by omega) (by show R1.2.1 + 2 ^ d ≤ 64; omega) (hci.f h6 hof) (fun j hj => by
              have := ho j (by omega)
              by_cases ej : j = f
              · rw [ej]; exact fm_dp.f (by omega) (by omega) (Or.inl rfl)
              · exact fm_dp.f (by omega) (by omega) (Or.inr (hbef j (by omega)))) hok1
            rw [e2] at ih2
            refine fr_callV hB _ _ dX9_nodeFor_161 lm_X9_195 rfl (ih2) rfl rfl (Nat.le_of_ble_eq_true rfl) (fm_room hR (by omega) (by decide)) ?_
            rintro _ _ ⟨rfl, L2, rfl, hok2⟩
            refine fr_ret1 ?_
            refine fr_iast hB (_) dX9_nodeFor_164 rfl (rfl) (by omega) (by decide) ?_
            rw [hm_uf]
            refine fr_iload_n hB dX9_nodeFor_165 rfl rfl ?_
            exact fr_ireturn hB dX9_nodeFor_166 (⟨rfl, L2, rfl, hok2⟩)
          refine fr_aload_n hB dX9_nodeFor_50 rfl rfl ?_
          refine fr_dup hB dX9_nodeFor_51 rfl ?_
          refine fr_getI hB dX9_nodeFor_52 lf_X9_188 rfl rfl ?_
          refine fr_eqi _ (hm_nodes M S L) ?_
          refine fr_dup_x1 hB dX9_nodeFor_55 rfl rfl ?_
          refine fr_iconst (v := nI 1) hB dX9_nodeFor_56 (by decide) ?_
          refine fr_iaddN hB dX9_nodeFor_57 ?_
          refine fr_putI hB dX9_nodeFor_58 lp_X9_188 rfl rfl ?_
          rw [hm_n]
          refine fr_istore_n hB dX9_nodeFor_61 rfl (by decide) rfl ?_
          refine fr_aload_n hB dX9_nodeFor_62 rfl rfl ?_
          refine fr_getR hB dX9_nodeFor_63 lf_X9_59 rfl rfl ?_
          refine fr_iload_n hB dX9_nodeFor_66 rfl rfl ?_
          refine fr_lload_n hB dX9_nodeFor_67 rfl rfl ?_
          refine fr_last hB (_) dX9_nodeFor_68 rfl (rfl) (by omega) (by decide) ?_
          rw [hm_uT]
          have hok0 := hok.add hci (nI (P 2 f))
          have hNP := hm.hm (S.1 + 1, S.2) (fm_up L S.1 (fm_rs (P 0 0) t))
          have l2 : ∀ e i : Nat, i + e = f → fm_W shM X 5 72 [some (.ref (fm_rh X 0)), some (.long (fm_rs (P 0 0) t)), none, some (.int (nI S.1)), some (.int (nI i))] [] (fm_hm M (S.1 + 1, S.2) (fm_up L S.1 (fm_rs (P 0 0) t))) (fm_Q shM X (fun r M' => r = some (.int (nI S.1)) ∧ ∃ L', M' = fm_hm M (R2.2.1, R2.2.2.1, R2.2.2.2.1, R2.2.2.2.2.1, fm_up R2.2.2.2.2.2 S.1 R2.1) L' ∧ fm_gok (P 0 0) (R2.2.1, R2.2.2.1, R2.2.2.2.1, R2.2.2.2.2.1, fm_up R2.2.2.2.2.2 S.1 R2.1) L')) := by
            intro e
            induction e with
            | zero =>
              intro i hi
              have hi : i = f := by omega
              subst hi
              refine fr_aload_n hB dX9_nodeFor_72 rfl rfl ?_
              refine fr_lload_n hB dX9_nodeFor_73 rfl rfl ?_
              refine fr_aload_n hB dX9_nodeFor_74 rfl rfl ?_
              refine fr_getR hB dX9_nodeFor_75 lf_X9_15 rfl rfl ?_
              refine fr_iload hB dX9_nodeFor_78 rfl ?_
              refine fr_iald hB (_) dX9_nodeFor_80 rfl (rfl) (by omega) (by decide) ?_
              refine fr_eqi (nI (P 2 i)) (hNP.order _ (by omega)) ?_
              refine fr_iconst (v := nI 1) hB dX9_nodeFor_81 (by decide) ?_
              refine fr_callV hB _ _ dX9_nodeFor_82 lm_X9_191 rfl (ct_X9_wereT (t := t) (b := true) hNP hw hof) rfl rfl (Nat.le_of_ble_eq_true rfl) (fm_room hR (by omega) (by decide)) ?_
              rintro _ M9 ⟨rfl, hM9⟩
              rw [hM9]
              clear hM9 M9
              refine fr_ret1 ?_
              refine fr_aload_n hB dX9_nodeFor_85 rfl rfl ?_
              refine fr_lload_n hB dX9_nodeFor_86 rfl rfl ?_
              refine fr_aload_n hB dX9_nodeFor_87 rfl rfl ?_
              refine fr_getR hB dX9_nodeFor_88 lf_X9_15 rfl rfl ?_
              refine fr_iload hB dX9_nodeFor_91 rfl ?_
              refine fr_iald hB (_) dX9_nodeFor_93 rfl (rfl) (by omega) (by decide) ?_
              refine fr_eqi (nI (P 2 i)) (hNP.order _ (by omega)) ?_
              refine fr_iconst (v := nI 0) hB dX9_nodeFor_94 (by decide) ?_
              refine fr_callV hB _ _ dX9_nodeFor_95 lm_X9_191 rfl (ct_X9_wereT (t := t) (b := false) hNP hw hof) rfl rfl (Nat.le_of_ble_eq_true rfl) (fm_room hR (by omega) (by decide)) ?_
              rintro _ M9 ⟨rfl, hM9⟩
              rw [hM9]
              clear hM9 M9
              refine fr_ret1 ?_
              refine fr_lcmp hB dX9_nodeFor_98 ?_
              refine fr_if_ne (tgt := 108) hB dX9_nodeFor_99 (by decide) (fun g3 => ?_) (fun g3 => ?_)
              · refine fr_aload_n hB dX9_nodeFor_108 rfl rfl ?_
                refine fr_getR hB dX9_nodeFor_109 lf_X9_63 rfl rfl ?_
                refine fr_iload_n hB dX9_nodeFor_112 rfl rfl ?_
                refine fr_aload_n hB dX9_nodeFor_113 rfl rfl ?_
                refine fr_getR hB dX9_nodeFor_114 lf_X9_15 rfl rfl ?_
                refine fr_iload hB dX9_nodeFor_117 rfl ?_
                refine fr_iald hB (_) dX9_nodeFor_119 rfl (rfl) (by omega) (by decide) ?_
                refine fr_eqi (nI (P 2 i)) (hNP.order _ (by omega)) ?_
                refine fr_iast hB (_) dX9_nodeFor_120 rfl (rfl) (by omega) (by decide) ?_
                rw [hm_up]
                have ih1 := ih (fm_EX X) (i + 1) (fm_iw t (P 2 i)) (S.1 + 1, fm_up S.2.1 S.1 t, fm_up S.2.2.1 S.1 (nI (P 2 i)), S.2.2.2) (fm_up L S.1 (fm_rs (P 0 0) t)) (by omega) (by omega) (by show S.1 + 1 + 2 ^ d ≤ 64; omega) (hci.w h6 hof) (fun j hj => by
                  have := ho j (by omega)
                  by_cases ej : j = i
                  · rw [ej]; exact fm_dp.w (by omega) (by omega) (Or.inl rfl)
                  · exact fm_dp.w (by omega) (by omega) (Or.inr (hbef j (by omega)))) hok0
                rw [e1] at ih1
                have hNP2 := hm.hm (S.1 + 1, S.2.1, fm_up S.2.2.1 S.1 (nI (P 2 i)), S.2.2.2) (fm_up L S.1 (fm_rs (P 0 0) t))
                refine fr_aload_n hB dX9_nodeFor_121 rfl rfl ?_
                refine fr_getR hB dX9_nodeFor_122 lf_X9_66 rfl rfl ?_
                refine fr_iload_n hB dX9_nodeFor_125 rfl rfl ?_
                refine fr_aload_n hB dX9_nodeFor_126 rfl rfl ?_
                refine fr_aload_n hB dX9_nodeFor_127 rfl rfl ?_
                refine fr_lload_n hB dX9_nodeFor_128 rfl rfl ?_
                refine fr_aload_n hB dX9_nodeFor_129 rfl rfl ?_
                refine fr_getR hB dX9_nodeFor_130 lf_X9_63 rfl rfl ?_
                refine fr_iload_n hB dX9_nodeFor_133 rfl rfl ?_
                refine fr_iald hB (_) dX9_nodeFor_134 rfl (rfl) (by omega) (by decide) ?_
                refine fr_eqi (nI (P 2 i)) (by show fm_up S.2.2.1 S.1 (nI (P 2 i)) S.1 = _; rw [fm_up_at, if_pos rfl]) ?_
                refine fr_iconst (v := nI 0) hB dX9_nodeFor_135 (by decide) ?_
                refine fr_callV hB _ _ dX9_nodeFor_136 lm_X9_191 rfl (ct_X9_wereT (t := t) (b := false) hNP2 hw hof) rfl rfl (Nat.le_of_ble_eq_true rfl) (fm_room hR (by omega) (by decide)) ?_
                rintro _ M9 ⟨rfl, hM9⟩
                rw [hM9]
                clear hM9 M9
                refine fr_ret1 ?_
                refine fr_callV hB _ _ dX9_nodeFor_139 lm_X9_195 rfl (ih1) rfl rfl (Nat.le_of_ble_eq_true rfl) (fm_room hR (by omega) (by decide)) ?_
                rintro _ _ ⟨rfl, L1, rfl, hok1⟩
                refine fr_ret1 ?_
                refine fr_lv [some (.ref (fm_rh X 0)), some (.long (fm_rs (P 0 0) t)), none, some (.int (nI S.1)), none] ⟨rfl, rfl, rfl, trivial⟩ ?_
                refine mid L1 hok1 ?_
                rw [← e1]
                refine ((fm_meet_old (P 2) (P 0 0) d (fm_iw t (P 2 i)) (i + 1) (S.1 + 1, fm_up S.2.1 S.1 t, fm_up S.2.2.1 S.1 (nI (P 2 i)), S.2.2.2)).2 S.1 (Nat.lt_succ_self _)).trans ?_
                show fm_up S.2.2.1 S.1 (nI (P 2 i)) S.1 = _
                rw [fm_up_at, if_pos rfl]
              · exfalso
                have g4 := fm_rs_inj h6 (hci.f h6 hof) (hci.w h6 hof) ((lg_cmp_eq _ _).mp (Decidable.not_not.mp g3))
                exact hat g4.symm
            | succ e ihe =>
              intro i hi
              have hoi := ho i (by omega)
              refine fr_aload_n hB dX9_nodeFor_72 rfl rfl ?_
              refine fr_lload_n hB dX9_nodeFor_73 rfl rfl ?_
              refine fr_aload_n hB dX9_nodeFor_74 rfl rfl ?_
              refine fr_getR hB dX9_nodeFor_75 lf_X9_15 rfl rfl ?_
              refine fr_iload hB dX9_nodeFor_78 rfl ?_
              refine fr_iald hB (_) dX9_nodeFor_80 rfl (rfl) (by omega) (by decide) ?_
              refine fr_eqi (nI (P 2 i)) (hNP.order _ (by omega)) ?_
              refine fr_iconst (v := nI 1) hB dX9_nodeFor_81 (by decide) ?_
              refine fr_callV hB _ _ dX9_nodeFor_82 lm_X9_191 rfl (ct_X9_wereT (t := t) (b := true) hNP hw hoi) rfl rfl (Nat.le_of_ble_eq_true rfl) (fm_room hR (by omega) (by decide)) ?_
              rintro _ M9 ⟨rfl, hM9⟩
              rw [hM9]
              clear hM9 M9
              refine fr_ret1 ?_
              refine fr_aload_n hB dX9_nodeFor_85 rfl rfl ?_
              refine fr_lload_n hB dX9_nodeFor_86 rfl rfl ?_
              refine fr_aload_n hB dX9_nodeFor_87 rfl rfl ?_
              refine fr_getR hB dX9_nodeFor_88 lf_X9_15 rfl rfl ?_
              refine fr_iload hB dX9_nodeFor_91 rfl ?_
              refine fr_iald hB (_) dX9_nodeFor_93 rfl (rfl) (by omega) (by decide) ?_
              refine fr_eqi (nI (P 2 i)) (hNP.order _ (by omega)) ?_
              refine fr_iconst (v := nI 0) hB dX9_nodeFor_94 (by decide) ?_
              refine fr_callV hB _ _ dX9_nodeFor_95 lm_X9_191 rfl (ct_X9_wereT (t := t) (b := false) hNP hw hoi) rfl rfl (Nat.le_of_ble_eq_true rfl) (fm_room hR (by omega) (by decide)) ?_
              rintro _ M9 ⟨rfl, hM9⟩
              rw [hM9]
              clear hM9 M9
              refine fr_ret1 ?_
              refine fr_lcmp hB dX9_nodeFor_98 ?_
              have heq : fm_iw t (P 2 i) = fm_if t (P 2 i) := (fm_dp_iff (by omega)).mpr (hbef i (by omega))
              refine fr_if_ne (tgt := 108) hB dX9_nodeFor_99 (by decide) (fun g3 => ?_) (fun g3 => ?_)
              · exact absurd ((lg_cmp_eq _ _).mpr (by show fm_rs (P 0 0) (fm_if t (P 2 i)) = fm_rs (P 0 0) (fm_iw t (P 2 i)); rw [heq])) g3
              · refine fr_iincN (b := 1) hB dX9_nodeFor_102 rfl (by decide) (by decide) rfl ?_
                refine fr_goto (tgt := 72) hB dX9_nodeFor_105 (by decide) ?_
                exact ihe (i + 1) (by omega)
          refine fr_iconst (v := nI 0) hB dX9_nodeFor_69 (by decide) ?_
          refine fr_istore hB dX9_nodeFor_70 (by decide) rfl ?_
          exact l2 f 0 (by omega)
        have l1 : ∀ e i : Nat, i + e = S.1 → fm_mt S.2.1 t 0 S.1 = fm_mt L (fm_rs (P 0 0) t) i e → fm_W shM X 5 23 [some (.ref (fm_rh X 0)), some (.long (fm_rs (P 0 0) t)), none, some (.int (nI i)), none] [] (fm_hm M S L) (fm_Q shM X (fun r M' => r = some (.int (fm_meet (P 2) (P 0 0) (d + 1) t pl S).1) ∧ ∃ L', M' = fm_hm M (fm_meet (P 2) (P 0 0) (d + 1) t pl S).2 L' ∧ fm_gok (P 0 0) (fm_meet (P 2) (P 0 0) (d + 1) t pl S).2 L')) := by
          intro e
          induction e with
          | zero =>
            intro i hi hmt
            refine fr_iload_n hB dX9_nodeFor_23 rfl rfl ?_
            refine fr_aload_n hB dX9_nodeFor_24 rfl rfl ?_
            refine fr_getI hB dX9_nodeFor_25 lf_X9_188 rfl rfl ?_
            refine fr_eqi _ (hm_nodes M S L) ?_
            refine fr_icmp_geN (tgt := 50) hB dX9_nodeFor_28 (by decide) (by omega) (by omega) (fun h => ?_) (fun h => ?_)
            · refine fr_lv [some (.ref (fm_rh X 0)), some (.long (fm_rs (P 0 0) t)), none, none, none] ⟨rfl, rfl, trivial⟩ ?_
              exact fin hmt
            · exact absurd h (by omega)
          | succ e ihe =>
            intro i hi hmt
            refine fr_iload_n hB dX9_nodeFor_23 rfl rfl ?_
            refine fr_aload_n hB dX9_nodeFor_24 rfl rfl ?_
            refine fr_getI hB dX9_nodeFor_25 lf_X9_188 rfl rfl ?_
            refine fr_eqi _ (hm_nodes M S L) ?_
            refine fr_icmp_geN (tgt := 50) hB dX9_nodeFor_28 (by decide) (by omega) (by omega) (fun h => ?_) (fun h => ?_)
            · exact absurd h (by omega)
            · have e0 : fm_mt L (fm_rs (P 0 0) t) i (e + 1) = if L i = fm_rs (P 0 0) t then some i else fm_mt L (fm_rs (P 0 0) t) (i + 1) e := rfl
              rw [e0] at hmt
              refine fr_aload_n hB dX9_nodeFor_31 rfl rfl ?_
              refine fr_getR hB dX9_nodeFor_32 lf_X9_59 rfl rfl ?_
              refine fr_iload_n hB dX9_nodeFor_35 rfl rfl ?_
              refine fr_lald hB (_) dX9_nodeFor_36 rfl (rfl) (by omega) (by decide) ?_
              refine fr_eql (L i) (rfl) ?_
              refine fr_lload_n hB dX9_nodeFor_37 rfl rfl ?_
              refine fr_lcmp hB dX9_nodeFor_38 ?_
              refine fr_if_ne (tgt := 44) hB dX9_nodeFor_39 (by decide) (fun g3 => ?_) (fun g3 => ?_)
              · rw [if_neg (fun q => g3 ((lg_cmp_eq _ _).mpr q))] at hmt
                refine fr_iincN (b := 1) hB dX9_nodeFor_44 rfl (by decide) (by decide) rfl ?_
                refine fr_goto (tgt := 23) hB dX9_nodeFor_47 (by decide) ?_
                exact ihe (i + 1) (by omega) hmt
              · rw [if_pos ((lg_cmp_eq _ _).mp (Decidable.not_not.mp g3))] at hmt
                refine fr_iload_n hB dX9_nodeFor_42 rfl rfl ?_
                exact fr_ireturn hB dX9_nodeFor_43 (⟨by rw [fm_meet_some _ _ (d + 1) pl S g0 g1 hmt], L, by rw [fm_meet_some _ _ (d + 1) pl S g0 g1 hmt], by rw [fm_meet_some _ _ (d + 1) pl S g0 g1 hmt]; exact hok⟩)
        refine fr_iconst (v := nI 0) hB dX9_nodeFor_21 (by decide) ?_
        refine fr_istore_n hB dX9_nodeFor_22 rfl (by decide) rfl ?_
        exact l1 S.1 0 (by omega) emt.symm
      · have g1 : t = -1 := (fm_rs_a h6 hci).mp ((lg_cmp_eq _ _).mp (Decidable.not_not.mp g1))
        refine fr_bipush (v := -7) hB dX9_nodeFor_18 (by decide) ?_
        exact fr_ireturn hB dX9_nodeFor_20 (⟨by rw [fm_meet_m1 _ _ (d + 1) pl S g0 g1], L, by rw [fm_meet_m1 _ _ (d + 1) pl S g0 g1], by rw [fm_meet_m1 _ _ (d + 1) pl S g0 g1]; exact hok⟩)
    · have g0 : t = 0 := (fm_rs_z h6 hci).mp ((lg_cmp_eq _ _).mp (Decidable.not_not.mp g0))
      refine fr_bipush (v := -6) hB dX9_nodeFor_6 (by decide) ?_
      exact fr_ireturn hB dX9_nodeFor_8 (⟨by rw [fm_meet_0 _ _ (d + 1) pl S g0], L, by rw [fm_meet_0 _ _ (d + 1) pl S g0], by rw [fm_meet_0 _ _ (d + 1) pl S g0]; exact hok⟩)
