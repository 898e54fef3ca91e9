/-! ===== the reference: judge, after ===== -/
theorem fm_sort1 : ∀ t : Nat, t ≤ 5 → (nI t - 1 ≤ 0 ↔ t ≤ 1) := by decide
theorem mm_judge {E : fm_E} {t i : Int32} {Z : fm_Z} {M : fm_M} (hm : fm_MR Z M) (hw : fm_WZ Z) : fm_C shM E mX9_judge 6 [.ref (E.2.1 0), .int t, .int i] M (fun r M' => r = some (.int (sp_judge Z t i)) ∧ fm_mf M M') := by
  have h8 := hw.1.1.g8
  refine fm_C.of (by decide +kernel) (Nat.le_of_ble_eq_true rfl) ?_
  intro X hE hR hB
  subst hE
  have hB : fm_B _ X cX9_judge 4 RX9 (some .int) := hB
  refine fr_lv [some (.ref (fm_rh X 0)), some (.int t), some (.int i), none] ⟨rfl, rfl, rfl, trivial⟩ ?_
  refine fr_iload_n hB dX9_judge_0 rfl rfl ?_
  refine fr_callS hB _ _ dX9_judge_1 lm_X9_284 (ct_X9_isTape) rfl rfl (Nat.le_of_ble_eq_true rfl) (fm_room hR (by decide) (by decide)) ?_
  rintro _ M9 ⟨rfl, hM9⟩
  rw [hM9]
  clear hM9 M9
  refine fr_ret1 ?_
  refine fr_if_neB (tgt := 9) hB dX9_judge_4 (by decide) (fun ht => ?_) (fun ht => ?_)
  · obtain ⟨a, ha, rfl⟩ := fm_lt_of (by omega) ht
    have ea : (nI a).toNatClampNeg = a := nI_clamp (by omega)
    obtain ⟨k1, k2, k3⟩ := hm.2.2.2 a ha
    obtain ⟨w1, w2, w3⟩ := hw.2.2 a ha
    refine fr_aload_n hB dX9_judge_9 rfl rfl ?_
    refine fr_getI hB dX9_judge_10 lf_X9_97 rfl rfl ?_
    refine fr_eqi _ (hm.1.pl.gates) ?_
    refine fr_if_neN (tgt := 19) hB dX9_judge_13 (by decide) (by omega) (fun hg => ?_) (fun hg => ?_)
    · refine fr_aload_n hB dX9_judge_19 rfl rfl ?_
      refine fr_getR hB dX9_judge_20 lf_X9_81 rfl rfl ?_
      refine fr_iload_n hB dX9_judge_23 rfl rfl ?_
      refine fr_iald hB (_) dX9_judge_24 rfl (rfl) (by omega) (by decide) ?_
      rw [k1]
      refine fr_if_le (tgt := 31) hB dX9_judge_25 (by decide) (fun h1 => ?_) (fun h1 => ?_)
      · have hso := (fm_sort1 _ w1).mp h1
        refine fr_aload_n hB dX9_judge_31 rfl rfl ?_
        refine fr_iconst (v := nI 1) hB dX9_judge_32 (by decide) ?_
        refine fr_eqi (fm_ib true) rfl ?_
        refine fr_callV hB _ _ dX9_judge_33 lm_X9_218 rfl (ct_X9_setsK (b := true) hm.1.pl hw.1.1 hg) rfl rfl (Nat.le_of_ble_eq_true rfl) (fm_room hR (by decide) (by decide)) ?_
        rintro _ _ ⟨rfl, hmf, S, e1, e2, hsq, h64⟩
        refine fr_ret0 ?_
        refine fr_iconst (v := nI 0) hB dX9_judge_36 (by decide) ?_
        refine fr_istore_n hB dX9_judge_37 rfl (by decide) rfl ?_
        rename_i M1
        have hm2 := hm.mf hmf
        obtain ⟨q1, q2, q3⟩ := hm2.2.2.2 a ha
        have hsq : fm_sq S (fm_LS (fm_TT Z.1) (Z.1 0 0)) := hsq
        have e : sp_judge Z (nI a) i = fm_ju (Z.2.2.2.2.2.1 a) (Z.2.2.2.2.2.2 a) i S.2 S.1 0 := by
          rw [sp_judge, if_pos ht, if_neg (by omega), ea, if_neg (by omega), ← hsq.1]
          have : ∀ d k, k + d = S.1 → fm_ju (Z.2.2.2.2.2.1 a) (Z.2.2.2.2.2.2 a) i (fm_LS (fm_TT Z.1) (Z.1 0 0)).2 d k = fm_ju (Z.2.2.2.2.2.1 a) (Z.2.2.2.2.2.2 a) i S.2 d k := by
            intro d
            induction d with
            | zero => intro k _; rfl
            | succ d ih =>
              intro k hk
              unfold fm_ju
              rw [hsq.2 k (by omega), ih (k + 1) (by omega)]
          exact this S.1 0 (by omega)
        rw [e]
        have l1 : ∀ (d k : Nat), k + d = S.1 → fm_W shM X 4 38 [some (.ref (fm_rh X 0)), some (.int (nI a)), some (.int i), some (.int (nI k))] [] M1 (fm_Q shM X (fun r M' => r = some (.int (fm_ju (Z.2.2.2.2.2.1 a) (Z.2.2.2.2.2.2 a) i S.2 d k)) ∧ fm_mf M M')) := by
          intro d
          induction d with
          | zero =>
            intro k hk
            refine fr_iload_n hB dX9_judge_38 rfl rfl ?_
            refine fr_aload_n hB dX9_judge_39 rfl rfl ?_
            refine fr_getI hB dX9_judge_40 lf_X9_209 rfl rfl ?_
            refine fr_eqi _ (e1) ?_
            refine fr_icmp_geN (tgt := 113) hB dX9_judge_43 (by decide) (by omega) (by omega) (fun h2 => ?_) (fun h2 => ?_)
            · refine fr_bipush (v := -5) hB dX9_judge_113 (by decide) ?_
              exact fr_ireturn hB dX9_judge_115 (⟨rfl, hmf⟩)
            · exact absurd h2 (by omega)
          | succ d ih =>
            intro k hk
            have end_ : fm_ju (Z.2.2.2.2.2.1 a) (Z.2.2.2.2.2.2 a) i S.2 (d + 1) k = nI (100 + k) → fm_W shM X 4 76 [some (.ref (fm_rh X 0)), some (.int (nI a)), some (.int i), some (.int (nI k))] [] M1 (fm_Q shM X (fun r M' => r = some (.int (fm_ju (Z.2.2.2.2.2.1 a) (Z.2.2.2.2.2.2 a) i S.2 (d + 1) k)) ∧ fm_mf M M')) := by
              intro e3
              refine fr_bipush (v := nI 100) hB dX9_judge_76 (by decide) ?_
              refine fr_iload_n hB dX9_judge_78 rfl rfl ?_
              refine fr_iaddN hB dX9_judge_79 ?_
              exact fr_ireturn hB dX9_judge_80 (⟨by rw [e3], hmf⟩)
            refine fr_iload_n hB dX9_judge_38 rfl rfl ?_
            refine fr_aload_n hB dX9_judge_39 rfl rfl ?_
            refine fr_getI hB dX9_judge_40 lf_X9_209 rfl rfl ?_
            refine fr_eqi _ (e1) ?_
            refine fr_icmp_geN (tgt := 113) hB dX9_judge_43 (by decide) (by omega) (by omega) (fun h2 => ?_) (fun h2 => ?_)
            · exact absurd h2 (by omega)
            · refine fr_aload_n hB dX9_judge_46 rfl rfl ?_
              refine fr_getR hB dX9_judge_47 lf_X9_81 rfl rfl ?_
              refine fr_iload_n hB dX9_judge_50 rfl rfl ?_
              refine fr_iald hB (_) dX9_judge_51 rfl (rfl) (by omega) (by decide) ?_
              rw [q1]
              refine fr_iconst (v := -1) hB dX9_judge_52 (by decide) ?_
              refine fr_icmp_eq (tgt := 76) hB dX9_judge_53 (by decide) (fun hs => ?_) (fun hs => ?_)
              · have hz := ((fm_sort _ w1).1).mp hs
                have hl := w3 hz
                exact end_ (by
                  show (if i < 0 ∨ _ then _ else _) = _
                  rw [if_pos (Or.inr (by rw [hl]; exact Nat.zero_le _))])
              · refine fr_iload_n hB dX9_judge_56 rfl rfl ?_
                refine fr_if_lt (tgt := 76) hB dX9_judge_57 (by decide) (fun h3 => ?_) (fun h3 => ?_)
                · exact end_ (by
                    show (if i < 0 ∨ _ then _ else _) = _
                    rw [if_pos (Or.inl h3)])
                · obtain ⟨x, hx, rfl⟩ := nI_of h3
                  have ex : (nI x).toNatClampNeg = x := nI_clamp hx
                  refine fr_iload_n hB dX9_judge_60 rfl rfl ?_
                  refine fr_i2l (v := lN x) hB dX9_judge_61 (nI_l (by omega)) ?_
                  refine fr_iload_n hB dX9_judge_62 rfl rfl ?_
                  refine fr_i2l (v := lN k) hB dX9_judge_63 (nI_l (by omega)) ?_
                  refine fr_ladd hB dX9_judge_64 ?_
                  refine fr_eql (lN (x + k)) (lN_add x k) ?_
                  refine fr_aload_n hB dX9_judge_65 rfl rfl ?_
                  refine fr_getR hB dX9_judge_66 lf_X9_84 rfl rfl ?_
                  refine fr_iload_n hB dX9_judge_69 rfl rfl ?_
                  refine fr_iald hB (_) dX9_judge_70 rfl (rfl) (by omega) (by decide) ?_
                  refine fr_eqi (nI (Z.2.2.2.2.2.1 a)) (q2) ?_
                  refine fr_i2l (v := lN (Z.2.2.2.2.2.1 a)) hB dX9_judge_71 (nI_l (by omega)) ?_
                  refine fr_lcmp hB dX9_judge_72 ?_
                  refine fr_if_lt (tgt := 81) hB dX9_judge_73 (by decide) (fun h4 => ?_) (fun h4 => ?_)
                  · have h5 : x + k < Z.2.2.2.2.2.1 a := (lN_lt' (by omega) (by omega)).mp ((lg_cmp_lt _ _).mp h4)
                    have hne : ¬ (nI x < 0 ∨ Z.2.2.2.2.2.1 a ≤ (nI x).toNatClampNeg + k) := by
                      rw [ex]
                      intro q
                      rcases q with q | q
                      · exact h3 q
                      · omega
                    refine fr_aload_n hB dX9_judge_81 rfl rfl ?_
                    refine fr_getR hB dX9_judge_82 lf_X9_87 rfl rfl ?_
                    refine fr_bipush (v := nI 60) hB dX9_judge_85 (by decide) ?_
                    refine fr_iload_n hB dX9_judge_87 rfl rfl ?_
                    refine fr_imulN hB dX9_judge_88 ?_
                    refine fr_iload_n hB dX9_judge_89 rfl rfl ?_
                    refine fr_iaddN hB dX9_judge_90 ?_
                    refine fr_iload_n hB dX9_judge_91 rfl rfl ?_
                    refine fr_iaddN hB dX9_judge_92 ?_
                    refine fr_lald hB (_) dX9_judge_93 rfl (rfl) (by omega) (by decide) ?_
                    refine fr_eql (Z.2.2.2.2.2.2 a (x + k)) (by rw [Nat.add_assoc]; exact q3 _ (by omega)) ?_
                    refine fr_aload_n hB dX9_judge_94 rfl rfl ?_
                    refine fr_getR hB dX9_judge_95 lf_X9_72 rfl rfl ?_
                    refine fr_iload_n hB dX9_judge_98 rfl rfl ?_
                    refine fr_iald hB (_) dX9_judge_99 rfl (rfl) (by omega) (by decide) ?_
                    refine fr_eqi (S.2 k) (congrFun e2 k) ?_
                    refine fr_i2l (v := _) hB dX9_judge_100 (rfl) ?_
                    refine fr_lcmp hB dX9_judge_101 ?_
                    refine fr_if_eq (tgt := 107) hB dX9_judge_102 (by decide) (fun h6 => ?_) (fun h6 => ?_)
                    · have h6 := (lg_cmp_eq _ _).mp h6
                      have e3 : fm_ju (Z.2.2.2.2.2.1 a) (Z.2.2.2.2.2.2 a) (nI x) S.2 (d + 1) k = fm_ju (Z.2.2.2.2.2.1 a) (Z.2.2.2.2.2.2 a) (nI x) S.2 d (k + 1) := by
                        show (if nI x < 0 ∨ _ then _ else _) = _
                        rw [if_neg hne, ex, if_pos h6]
                      rw [e3]
                      refine fr_iincN (b := 1) hB dX9_judge_107 rfl (by decide) (by decide) rfl ?_
                      refine fr_goto (tgt := 38) hB dX9_judge_110 (by decide) ?_
                      exact ih (k + 1) (by omega)
                    · have h6 : ¬ Z.2.2.2.2.2.2 a (x + k) = (S.2 k).toInt64 := fun q => h6 ((lg_cmp_eq _ _).mpr q)
                      have e3 : fm_ju (Z.2.2.2.2.2.1 a) (Z.2.2.2.2.2.2 a) (nI x) S.2 (d + 1) k = nI k := by
                        show (if nI x < 0 ∨ _ then _ else _) = _
                        rw [if_neg hne, ex, if_neg h6]
                      refine fr_iload_n hB dX9_judge_105 rfl rfl ?_
                      exact fr_ireturn hB dX9_judge_106 (⟨by rw [e3], hmf⟩)
                  · have h5 : ¬ x + k < Z.2.2.2.2.2.1 a := fun q => h4 ((lg_cmp_lt _ _).mpr ((lN_lt' (by omega) (by omega)).mpr q))
                    exact end_ (by
                      show (if nI x < 0 ∨ _ then _ else _) = _
                      rw [if_pos (Or.inr (by rw [ex]; omega))])
        exact l1 S.1 0 (by omega)
      · have hso : ¬ Z.2.2.2.2.1 a ≤ 1 := fun q => h1 ((fm_sort1 _ w1).mpr q)
        refine fr_bipush (v := -12) hB dX9_judge_28 (by decide) ?_
        exact fr_ireturn hB dX9_judge_30 (⟨by rw [sp_judge, if_pos ht, if_neg (by omega), ea, if_pos (by omega)], fm_mf.rf M⟩)
    · refine fr_bipush (v := -3) hB dX9_judge_16 (by decide) ?_
      exact fr_ireturn hB dX9_judge_18 (⟨by rw [sp_judge, if_pos ht, if_pos hg], fm_mf.rf M⟩)
  · refine fr_iconst (v := -1) hB dX9_judge_7 (by decide) ?_
    exact fr_ireturn hB dX9_judge_8 (⟨by rw [sp_judge, ht]; rfl, fm_mf.rf M⟩)
/-- the places that after() writes -/
def fm_DA (i j : Nat) : Prop := (i = 1 ∧ j < 6) ∨ (i = 3 ∧ j < 8) ∨ i = 20
/-- what was is kept beside -/
def fm_T20 (M M1 : fm_M) (c1 c2 : Nat) : Prop := (∀ p, p < c1 → M1.1 20 p = M.1 1 p) ∧ ∀ g, g < c2 → M1.1 20 (6 + g) = M.1 3 g
theorem fm_T20.mg {M M1 M2 : fm_M} {c1 c2 : Nat} (h : fm_T20 M M1 c1 c2) (h2 : M2.1 20 = M1.1 20) : fm_T20 M M2 c1 c2 := by
  unfold fm_T20
  rw [h2]
  exact h
theorem sp_ev_1 (Q : fm_P) {w : Nat} (n : Nat) (h : w < 2) : sp_ev Q w n = fm_u Q 1 n (100 * w) := by
  rcases (show w = 0 ∨ w = 1 by omega) with rfl | rfl <;> rfl
theorem sp_ev_2 (Q : fm_P) {w : Nat} (n : Nat) (h : 2 ≤ w) (h3 : w ≤ 3) : sp_ev Q w n = fm_u Q 4 n (w - 2) := by
  rcases (show w = 2 ∨ w = 3 by omega) with rfl | rfl <;> rfl
theorem mm_after {E : fm_E} {w : Int32} {Z : fm_Z} {M : fm_M} (hm : fm_MR Z M) (hw : fm_WZ Z) : fm_C shM E mX9_after 10 [.ref (E.2.1 0), .int w] M (fun r M' => r = some (.int (sp_after Z.1 w)) ∧ fm_mf M M') := by
  have h8 := hw.1.1.g8
  have h6 := hw.1.1.p6
  have hr8 := hw.1.2.2.1
  have hre := hw.1.2.2.2.2.2.1
  refine fm_C.of (by decide +kernel) (Nat.le_of_ble_eq_true rfl) ?_
  intro X hE hR hB
  subst hE
  have hB : fm_B _ X cX9_after 4 RX9 (some .int) := hB
  refine fr_lv [some (.ref (fm_rh X 0)), some (.int w), none, none] ⟨rfl, rfl, trivial⟩ ?_
  refine fr_iload_n hB dX9_after_0 rfl rfl ?_
  refine fr_iconst (v := nI 0) hB dX9_after_1 (by decide) ?_
  refine fr_iconst (v := nI 3) hB dX9_after_2 (by decide) ?_
  refine fr_callS hB _ _ dX9_after_3 lm_X9_93 (ct_X9_wto (c := 3) (by omega)) rfl rfl (Nat.le_of_ble_eq_true rfl) (fm_room hR (by decide) (by decide)) ?_
  rintro _ M9 ⟨rfl, hM9⟩
  rw [hM9]
  clear hM9 M9
  refine fr_ret1 ?_
  refine fr_if_neB (tgt := 11) hB dX9_after_6 (by decide) (fun h => ?_) (fun h => ?_)
  · have hl : fm_lt w 4 = true := h
    obtain ⟨b, hb, rfl⟩ := fm_lt_of (by omega) hl
    refine fr_aload_n hB dX9_after_11 rfl rfl ?_
    refine fr_getI hB dX9_after_12 lf_X9_97 rfl rfl ?_
    refine fr_eqi _ (hm.1.pl.gates) ?_
    refine fr_if_neN (tgt := 21) hB dX9_after_15 (by decide) (by omega) (fun h3 => ?_) (fun h3 => ?_)
    · have e : sp_after Z.1 (nI b) = sp_aft (fm_evs Z.1 (Z.1 15 0)) (nI b) := by rw [sp_after, if_pos hl, if_neg (by omega)]
      rw [e]
      clear e
      have b2 : ∀ (d i : Nat) (r : Int32) (M1 : fm_M), i + d = 8 → r = sp_aft (fm_evs Z.1 (Z.1 15 0)) (nI b) → fm_mx fm_DA M M1 → fm_T20 M M1 6 8 → (∀ p, p < 6 → M1.1 1 p = M.1 1 p) → (∀ g, g < i → M1.1 3 g = M.1 3 g) → fm_W shM X 4 229 [some (.ref (fm_rh X 0)), some (.int (nI b)), some (.int r), some (.int (nI i))] [] M1 (fm_Q shM X (fun r M' => r = some (.int (sp_aft (fm_evs Z.1 (Z.1 15 0)) (nI b))) ∧ fm_mf M M')) := by
        intro d
        induction d with
        | zero =>
          intro i r M1 hi hr hx ht hp hg
          have hi : i = 8 := by omega
          subst hi
          have hfin := hx.mf (fun a j h1 h2 q => by
            rcases q with ⟨rfl, q⟩ | ⟨rfl, q⟩ | rfl
            · exact hp j q
            · exact hg j q
            · omega)
          refine fr_iload_n hB dX9_after_229 rfl rfl ?_
          refine fr_bipush (v := nI 8) hB dX9_after_230 (by decide) ?_
          refine fr_icmp_geN (tgt := 256) hB dX9_after_232 (by decide) (by omega) (by omega) (fun h4 => ?_) (fun h4 => ?_)
          · refine fr_iload_n hB dX9_after_256 rfl rfl ?_
            exact fr_ireturn hB dX9_after_257 (⟨by rw [hr], hfin⟩)
          · exact absurd h4 (by omega)
        | succ d ih =>
          intro i r M1 hi hr hx ht hp hg
          refine fr_iload_n hB dX9_after_229 rfl rfl ?_
          refine fr_bipush (v := nI 8) hB dX9_after_230 (by decide) ?_
          refine fr_icmp_geN (tgt := 256) hB dX9_after_232 (by decide) (by omega) (by omega) (fun h4 => ?_) (fun h4 => ?_)
          · exact absurd h4 (by omega)
          · refine fr_aload_n hB dX9_after_235 rfl rfl ?_
            refine fr_getR hB dX9_after_236 lf_X9_18 rfl rfl ?_
            refine fr_iload_n hB dX9_after_239 rfl rfl ?_
            refine fr_aload_n hB dX9_after_240 rfl rfl ?_
            refine fr_getR hB dX9_after_241 lf_X9_75 rfl rfl ?_
            refine fr_bipush (v := nI 6) hB dX9_after_244 (by decide) ?_
            refine fr_iload_n hB dX9_after_246 rfl rfl ?_
            refine fr_iaddN hB dX9_after_247 ?_
            refine fr_iald hB (_) dX9_after_248 rfl (rfl) (by omega) (by decide) ?_
            refine fr_iast hB (_) dX9_after_249 rfl (rfl) (by omega) (by decide) ?_
            refine fr_iincN (b := 1) hB dX9_after_250 rfl (by decide) (by decide) rfl ?_
            refine fr_goto (tgt := 229) hB dX9_after_253 (by decide) ?_
            refine ih (i + 1) r _ (by omega) hr (hx.pi (k := 3) (i := i) (M1.1 20 (6 + i)) (by omega) (by omega) (Or.inl (Or.inr (Or.inl ⟨rfl, h4⟩)))) (ht.mg (fm_u_ne _ i (M1.1 20 (6 + i)) (show (20 : Nat) ≠ 3 by omega))) (fun p hpp => ?_) (fun g hgg => ?_)
            · show fm_u M1.1 3 i (M1.1 20 (6 + i)) 1 p = _
              rw [fm_u_ne _ _ _ (by omega)]
              exact hp p hpp
            · show fm_u M1.1 3 i (M1.1 20 (6 + i)) 3 g = _
              rw [fm_u_at]
              by_cases eg : g = i
              · rw [if_pos ⟨rfl, eg⟩, eg]; exact ht.2 i h4
              · rw [if_neg (fun q => eg q.2)]; exact hg g (by omega)
      have b1 : ∀ (d i : Nat) (r : Int32) (M1 : fm_M), i + d = 6 → r = sp_aft (fm_evs Z.1 (Z.1 15 0)) (nI b) → fm_mx fm_DA M M1 → fm_T20 M M1 6 8 → (∀ p, p < i → M1.1 1 p = M.1 1 p) → fm_W shM X 4 203 [some (.ref (fm_rh X 0)), some (.int (nI b)), some (.int r), some (.int (nI i))] [] M1 (fm_Q shM X (fun r M' => r = some (.int (sp_aft (fm_evs Z.1 (Z.1 15 0)) (nI b))) ∧ fm_mf M M')) := by
        intro d
        induction d with
        | zero =>
          intro i r M1 hi hr hx ht hp
          have hi : i = 6 := by omega
          subst hi
          refine fr_iload_n hB dX9_after_203 rfl rfl ?_
          refine fr_bipush (v := nI 6) hB dX9_after_204 (by decide) ?_
          refine fr_icmp_geN (tgt := 227) hB dX9_after_206 (by decide) (by omega) (by omega) (fun h4 => ?_) (fun h4 => ?_)
          · refine fr_iconst (v := nI 0) hB dX9_after_227 (by decide) ?_
            refine fr_istore_n hB dX9_after_228 rfl (by decide) rfl ?_
            exact b2 8 0 r M1 (by omega) hr hx ht hp (fun g hg => absurd hg (by omega))
          · exact absurd h4 (by omega)
        | succ d ih =>
          intro i r M1 hi hr hx ht hp
          refine fr_iload_n hB dX9_after_203 rfl rfl ?_
          refine fr_bipush (v := nI 6) hB dX9_after_204 (by decide) ?_
          refine fr_icmp_geN (tgt := 227) hB dX9_after_206 (by decide) (by omega) (by omega) (fun h4 => ?_) (fun h4 => ?_)
          · exact absurd h4 (by omega)
          · refine fr_aload_n hB dX9_after_209 rfl rfl ?_
            refine fr_getR hB dX9_after_210 lf_X9_9 rfl rfl ?_
            refine fr_iload_n hB dX9_after_213 rfl rfl ?_
            refine fr_aload_n hB dX9_after_214 rfl rfl ?_
            refine fr_getR hB dX9_after_215 lf_X9_75 rfl rfl ?_
            refine fr_iload_n hB dX9_after_218 rfl rfl ?_
            refine fr_iald hB (_) dX9_after_219 rfl (rfl) (by omega) (by decide) ?_
            refine fr_iast hB (_) dX9_after_220 rfl (rfl) (by omega) (by decide) ?_
            refine fr_iincN (b := 1) hB dX9_after_221 rfl (by decide) (by decide) rfl ?_
            refine fr_goto (tgt := 203) hB dX9_after_224 (by decide) ?_
            refine ih (i + 1) r _ (by omega) hr (hx.pi (k := 1) (i := i) (M1.1 20 i) (by omega) (by omega) (Or.inl (Or.inl ⟨rfl, h4⟩))) (ht.mg (fm_u_ne _ i (M1.1 20 i) (show (20 : Nat) ≠ 1 by omega))) (fun p hpp => ?_)
            show fm_u M1.1 1 i (M1.1 20 i) 1 p = _
            rw [fm_u_at]
            by_cases eg : p = i
            · rw [if_pos ⟨rfl, eg⟩, eg]; exact ht.1 i h4
            · rw [if_neg (fun q => eg q.2)]; exact hp p (by omega)
      have fin : ∀ (r : Int32) (M1 : fm_M), r = sp_aft (fm_evs Z.1 (Z.1 15 0)) (nI b) → fm_mx fm_DA M M1 → fm_T20 M M1 6 8 → fm_W shM X 4 200 [some (.ref (fm_rh X 0)), some (.int (nI b)), none, none] [.int r] M1 (fm_Q shM X (fun r M' => r = some (.int (sp_aft (fm_evs Z.1 (Z.1 15 0)) (nI b))) ∧ fm_mf M M')) := by
        intro r M1 hr hx ht
        refine fr_istore_n hB dX9_after_200 rfl (by decide) rfl ?_
        refine fr_iconst (v := nI 0) hB dX9_after_201 (by decide) ?_
        refine fr_istore_n hB dX9_after_202 rfl (by decide) rfl ?_
        exact b1 6 0 r M1 (by omega) hr hx ht (fun p hp => absurd hp (by omega))
      have ev : ∀ (d i : Nat) (M1 : fm_M), i + d = Z.1 15 0 → fm_mx fm_DA M M1 → fm_T20 M M1 6 8 → fm_NP (fm_evs Z.1 i) M1 → fm_W shM X 4 78 [some (.ref (fm_rh X 0)), some (.int (nI b)), some (.int (nI i)), none] [] M1 (fm_Q shM X (fun r M' => r = some (.int (sp_aft (fm_evs Z.1 (Z.1 15 0)) (nI b))) ∧ fm_mf M M')) := by
        intro d
        induction d with
        | zero =>
          intro i M1 hi hx ht hr
          have hi : i = Z.1 15 0 := by omega
          subst hi
          have hwf := hw.1.1.evs (Z.1 15 0)
          have eg : fm_evs Z.1 (Z.1 15 0) 3 0 = Z.1 3 0 := by rw [fm_evs_ne Z.1 3 (by omega) (by omega)]
          have h15 : M1.1 0 15 = nI (Z.1 15 0) := (hx.2.1 15 (by omega) (by omega)).trans hm.1.r15
          generalize fm_evs Z.1 (Z.1 15 0) = Q at hr hwf eg fin ⊢
          refine fr_iload_n hB dX9_after_78 rfl rfl ?_
          refine fr_aload_n hB dX9_after_79 rfl rfl ?_
          refine fr_getI hB dX9_after_80 lf_X9_275 rfl rfl ?_
          refine fr_eqi _ (h15) ?_
          refine fr_icmp_geN (tgt := 151) hB dX9_after_83 (by decide) (by omega) (by omega) (fun h4 => ?_) (fun h4 => ?_)
          · refine fr_lv [some (.ref (fm_rh X 0)), some (.int (nI b)), none, none] ⟨rfl, rfl, trivial⟩ ?_
            rcases (show b = 0 ∨ b = 1 ∨ b = 2 ∨ b = 3 by omega) with rfl | rfl | rfl | rfl
            · refine fr_iload_n hB dX9_after_151 rfl rfl ?_
              refine fr_if_neN (tgt := 163) hB dX9_after_152 (by decide) (by omega) (fun h5 => ?_) (fun h5 => ?_)
              · exact absurd h5 (by omega)
              · refine fr_aload_n hB dX9_after_155 rfl rfl ?_
                refine fr_iconst (v := nI 1) hB dX9_after_156 (by decide) ?_
                refine fr_eqi (fm_ib true) rfl ?_
                refine fr_callV hB _ _ dX9_after_157 lm_X9_259 rfl (ct_X9_manyG (b := true) hr hwf (show 0 < Q 3 0 by omega)) rfl rfl (Nat.le_of_ble_eq_true rfl) (fm_room hR (by decide) (by decide)) ?_
                rintro _ _ ⟨rfl, hmg⟩
                refine fr_ret1 ?_
                refine fr_goto (tgt := 200) hB dX9_after_160 (by decide) ?_
                exact fin _ _ (by rw [sp_aft, if_pos rfl]; rfl) (hx.mg hmg) (ht.mg hmg.2)
            · refine fr_iload_n hB dX9_after_151 rfl rfl ?_
              refine fr_if_neN (tgt := 163) hB dX9_after_152 (by decide) (by omega) (fun h5 => ?_) (fun h5 => ?_)
              · refine fr_iload_n hB dX9_after_163 rfl rfl ?_
                refine fr_iconst (v := nI 1) hB dX9_after_164 (by decide) ?_
                refine fr_icmp_neN (tgt := 175) hB dX9_after_165 (by decide) (by omega) (by omega) (fun h5 => ?_) (fun h5 => ?_)
                · exact absurd rfl h5
                · refine fr_aload_n hB dX9_after_168 rfl rfl ?_
                  refine fr_callV hB _ _ dX9_after_169 lm_X9_256 rfl (ct_X9_drawnG hr hwf (show 0 < Q 3 0 by omega)) rfl rfl (Nat.le_of_ble_eq_true rfl) (fm_room hR (by decide) (by decide)) ?_
                  rintro _ _ ⟨rfl, hmg⟩
                  refine fr_ret1 ?_
                  refine fr_goto (tgt := 200) hB dX9_after_172 (by decide) ?_
                  exact fin _ _ (by rw [sp_aft, if_neg (by decide), if_pos rfl]) (hx.mg hmg) (ht.mg hmg.2)
              · exact absurd h5 (by omega)
            · have e2 : sp_aft Q (nI 2) = fm_ib (fm_down Q (fm_tg Q) 0) := by rw [sp_aft, if_neg (by decide), if_neg (by decide), if_pos rfl, fm_TT_bit Q (by omega)]
              refine fr_iload_n hB dX9_after_151 rfl rfl ?_
              refine fr_if_neN (tgt := 163) hB dX9_after_152 (by decide) (by omega) (fun h5 => ?_) (fun h5 => ?_)
              · refine fr_iload_n hB dX9_after_163 rfl rfl ?_
                refine fr_iconst (v := nI 1) hB dX9_after_164 (by decide) ?_
                refine fr_icmp_neN (tgt := 175) hB dX9_after_165 (by decide) (by omega) (by omega) (fun h5 => ?_) (fun h5 => ?_)
                · refine fr_iload_n hB dX9_after_175 rfl rfl ?_
                  refine fr_iconst (v := nI 2) hB dX9_after_176 (by decide) ?_
                  refine fr_icmp_neN (tgt := 196) hB dX9_after_177 (by decide) (by omega) (by omega) (fun h6 => ?_) (fun h6 => ?_)
                  · exact absurd rfl h6
                  · refine fr_aload_n hB dX9_after_180 rfl rfl ?_
                    refine fr_iconst (v := nI 0) hB dX9_after_181 (by decide) ?_
                    refine fr_callV hB _ _ dX9_after_182 lm_X9_199 rfl (ct_X9_isDown hr hwf (show 0 < Q 3 0 by omega) (by omega)) rfl rfl (Nat.le_of_ble_eq_true rfl) (fm_room hR (by decide) (by decide)) ?_
                    rintro _ _ ⟨rfl, F, rfl⟩
                    refine fr_ret1 ?_
                    have hmg := fm_mg.r14 M1 F
                    refine fr_if_eqB (tgt := 192) hB dX9_after_185 (by decide) (fun h7 => ?_) (fun h7 => ?_)
                    · refine fr_iconst (v := nI 0) hB dX9_after_192 (by decide) ?_
                      refine fr_goto (tgt := 200) hB dX9_after_193 (by decide) ?_
                      exact fin _ _ (by rw [e2, h7]; rfl) (hx.mg hmg) (ht.mg hmg.2)
                    · refine fr_iconst (v := nI 1) hB dX9_after_188 (by decide) ?_
                      refine fr_goto (tgt := 200) hB dX9_after_189 (by decide) ?_
                      exact fin _ _ (by rw [e2, h7]; rfl) (hx.mg hmg) (ht.mg hmg.2)
                · exact absurd h5 (by omega)
              · exact absurd h5 (by omega)
            · refine fr_iload_n hB dX9_after_151 rfl rfl ?_
              refine fr_if_neN (tgt := 163) hB dX9_after_152 (by decide) (by omega) (fun h5 => ?_) (fun h5 => ?_)
              · refine fr_iload_n hB dX9_after_163 rfl rfl ?_
                refine fr_iconst (v := nI 1) hB dX9_after_164 (by decide) ?_
                refine fr_icmp_neN (tgt := 175) hB dX9_after_165 (by decide) (by omega) (by omega) (fun h5 => ?_) (fun h5 => ?_)
                · refine fr_iload_n hB dX9_after_175 rfl rfl ?_
                  refine fr_iconst (v := nI 2) hB dX9_after_176 (by decide) ?_
                  refine fr_icmp_neN (tgt := 196) hB dX9_after_177 (by decide) (by omega) (by omega) (fun h6 => ?_) (fun h6 => ?_)
                  · refine fr_aload_n hB dX9_after_196 rfl rfl ?_
                    refine fr_callV hB _ _ dX9_after_197 lm_X9_262 rfl (ct_X9_most hr hwf (show 0 < Q 3 0 by omega)) rfl rfl (Nat.le_of_ble_eq_true rfl) (fm_room hR (by decide) (by decide)) ?_
                    rintro _ _ ⟨rfl, hmg⟩
                    refine fr_ret1 ?_
                    exact fin _ _ (by rw [sp_aft, if_neg (by decide), if_neg (by decide), if_neg (by decide)]) (hx.mg hmg) (ht.mg hmg.2)
                  · exact absurd h6 (by omega)
                · exact absurd h5 (by omega)
              · exact absurd h5 (by omega)
          · exact absurd h4 (by omega)
        | succ d ih =>
          intro i M1 hi hx ht hr
          obtain ⟨w1, w2, w3⟩ := hre i (by omega)
          have h15 : M1.1 0 15 = nI (Z.1 15 0) := (hx.2.1 15 (by omega) (by omega)).trans hm.1.r15
          have d11 : ∀ j, M1.1 11 j = M.1 11 j := fun j => hx.1 11 j (by omega) (by omega) (fun q => by rcases q with q | q | q <;> omega)
          have hk : M1.1 11 (2 * i) = nI (Z.1 16 i) := (d11 _).trans (hm.1.r16 i (by omega))
          have hn : M1.1 11 (2 * i + 1) = nI (Z.1 17 i) := (d11 _).trans (hm.1.r17 i (by omega))
          have est : fm_evs Z.1 (i + 1) = sp_ev (fm_evs Z.1 i) (Z.1 16 i) (Z.1 17 i) := rfl
          refine fr_iload_n hB dX9_after_78 rfl rfl ?_
          refine fr_aload_n hB dX9_after_79 rfl rfl ?_
          refine fr_getI hB dX9_after_80 lf_X9_275 rfl rfl ?_
          refine fr_eqi _ (h15) ?_
          refine fr_icmp_geN (tgt := 151) hB dX9_after_83 (by decide) (by omega) (by omega) (fun h4 => ?_) (fun h4 => ?_)
          · exact absurd h4 (by omega)
          · refine fr_aload_n hB dX9_after_86 rfl rfl ?_
            refine fr_getR hB dX9_after_87 lf_X9_46 rfl rfl ?_
            refine fr_iconst (v := nI 2) hB dX9_after_90 (by decide) ?_
            refine fr_iload_n hB dX9_after_91 rfl rfl ?_
            refine fr_imulN hB dX9_after_92 ?_
            refine fr_iconst (v := nI 1) hB dX9_after_93 (by decide) ?_
            refine fr_iaddN hB dX9_after_94 ?_
            refine fr_iald hB (_) dX9_after_95 rfl (rfl) (by omega) (by decide) ?_
            refine fr_eqi (nI (Z.1 17 i)) (hn) ?_
            refine fr_istore_n hB dX9_after_96 rfl (by decide) rfl ?_
            refine fr_aload_n hB dX9_after_97 rfl rfl ?_
            refine fr_getR hB dX9_after_98 lf_X9_46 rfl rfl ?_
            refine fr_iconst (v := nI 2) hB dX9_after_101 (by decide) ?_
            refine fr_iload_n hB dX9_after_102 rfl rfl ?_
            refine fr_imulN hB dX9_after_103 ?_
            refine fr_iald hB (_) dX9_after_104 rfl (rfl) (by omega) (by decide) ?_
            refine fr_eqi (nI (Z.1 16 i)) (hk) ?_
            refine fr_iconst (v := nI 2) hB dX9_after_105 (by decide) ?_
            refine fr_icmp_geN (tgt := 129) hB dX9_after_106 (by decide) (by omega) (by omega) (fun h5 => ?_) (fun h5 => ?_)
            · have h3p := w3 h5
              have hr2 := hr.u_kind (i := Z.1 17 i) (v := Z.1 16 i - 2)
              rw [← sp_ev_2 (fm_evs Z.1 i) (Z.1 17 i) h5 (by omega), ← est] at hr2
              refine fr_aload_n hB dX9_after_129 rfl rfl ?_
              refine fr_getR hB dX9_after_130 lf_X9_18 rfl rfl ?_
              refine fr_iload_n hB dX9_after_133 rfl rfl ?_
              refine fr_aload_n hB dX9_after_134 rfl rfl ?_
              refine fr_getR hB dX9_after_135 lf_X9_46 rfl rfl ?_
              refine fr_iconst (v := nI 2) hB dX9_after_138 (by decide) ?_
              refine fr_iload_n hB dX9_after_139 rfl rfl ?_
              refine fr_imulN hB dX9_after_140 ?_
              refine fr_iald hB (_) dX9_after_141 rfl (rfl) (by omega) (by decide) ?_
              refine fr_eqi (nI (Z.1 16 i)) (hk) ?_
              refine fr_iconst (v := nI 2) hB dX9_after_142 (by decide) ?_
              refine fr_isubN hB dX9_after_143 (by omega) ?_
              refine fr_iast hB (_) dX9_after_144 rfl (rfl) (by omega) (by decide) ?_
              refine fr_iincN (b := 1) hB dX9_after_145 rfl (by decide) (by decide) rfl ?_
              refine fr_goto (tgt := 78) hB dX9_after_148 (by decide) ?_
              refine fr_lv [some (.ref (fm_rh X 0)), some (.int (nI b)), some (.int (nI (i + 1))), none] ⟨rfl, rfl, rfl, trivial⟩ ?_
              exact ih (i + 1) _ (by omega) (hx.pi (k := 3) (i := Z.1 17 i) (nI (Z.1 16 i - 2)) (by omega) (by omega) (Or.inl (Or.inr (Or.inl ⟨rfl, by omega⟩)))) (ht.mg (fm_u_ne _ (Z.1 17 i) (nI (Z.1 16 i - 2)) (show (20 : Nat) ≠ 3 by omega))) hr2
            · have h2p := w2 (by omega)
              have hr2 := hr.u_odds (i := Z.1 17 i) (v := 100 * Z.1 16 i)
              rw [← sp_ev_1 (fm_evs Z.1 i) (Z.1 17 i) (by omega), ← est] at hr2
              refine fr_aload_n hB dX9_after_109 rfl rfl ?_
              refine fr_getR hB dX9_after_110 lf_X9_9 rfl rfl ?_
              refine fr_iload_n hB dX9_after_113 rfl rfl ?_
              refine fr_bipush (v := nI 100) hB dX9_after_114 (by decide) ?_
              refine fr_aload_n hB dX9_after_116 rfl rfl ?_
              refine fr_getR hB dX9_after_117 lf_X9_46 rfl rfl ?_
              refine fr_iconst (v := nI 2) hB dX9_after_120 (by decide) ?_
              refine fr_iload_n hB dX9_after_121 rfl rfl ?_
              refine fr_imulN hB dX9_after_122 ?_
              refine fr_iald hB (_) dX9_after_123 rfl (rfl) (by omega) (by decide) ?_
              refine fr_eqi (nI (Z.1 16 i)) (hk) ?_
              refine fr_imulN hB dX9_after_124 ?_
              refine fr_iast hB (_) dX9_after_125 rfl (rfl) (by omega) (by decide) ?_
              refine fr_goto (tgt := 145) hB dX9_after_126 (by decide) ?_
              refine fr_iincN (b := 1) hB dX9_after_145 rfl (by decide) (by decide) rfl ?_
              refine fr_goto (tgt := 78) hB dX9_after_148 (by decide) ?_
              refine fr_lv [some (.ref (fm_rh X 0)), some (.int (nI b)), some (.int (nI (i + 1))), none] ⟨rfl, rfl, rfl, trivial⟩ ?_
              exact ih (i + 1) _ (by omega) (hx.pi (k := 1) (i := Z.1 17 i) (nI (100 * Z.1 16 i)) (by omega) (by omega) (Or.inl (Or.inl ⟨rfl, by omega⟩))) (ht.mg (fm_u_ne _ (Z.1 17 i) (nI (100 * Z.1 16 i)) (show (20 : Nat) ≠ 1 by omega))) hr2
      have a2 : ∀ (d i : Nat) (M1 : fm_M), i + d = 8 → fm_mx fm_DA M M1 → fm_T20 M M1 6 i → (∀ a, a ≠ 20 → M1.1 a = M.1 a) → fm_W shM X 4 49 [some (.ref (fm_rh X 0)), some (.int (nI b)), some (.int (nI i)), none] [] M1 (fm_Q shM X (fun r M' => r = some (.int (sp_aft (fm_evs Z.1 (Z.1 15 0)) (nI b))) ∧ fm_mf M M')) := by
        intro d
        induction d with
        | zero =>
          intro i M1 hi hx ht hq
          have hi : i = 8 := by omega
          subst hi
          refine fr_iload_n hB dX9_after_49 rfl rfl ?_
          refine fr_bipush (v := nI 8) hB dX9_after_50 (by decide) ?_
          refine fr_icmp_geN (tgt := 76) hB dX9_after_52 (by decide) (by omega) (by omega) (fun h4 => ?_) (fun h4 => ?_)
          · refine fr_iconst (v := nI 0) hB dX9_after_76 (by decide) ?_
            refine fr_istore_n hB dX9_after_77 rfl (by decide) rfl ?_
            exact ev (Z.1 15 0) 0 M1 (by omega) hx ht (hm.1.pl.kept (fun a h1 h2 => hq a (by omega)) (fun j hj => by rw [hq 0 (by omega)]))
          · exact absurd h4 (by omega)
        | succ d ih =>
          intro i M1 hi hx ht hq
          refine fr_iload_n hB dX9_after_49 rfl rfl ?_
          refine fr_bipush (v := nI 8) hB dX9_after_50 (by decide) ?_
          refine fr_icmp_geN (tgt := 76) hB dX9_after_52 (by decide) (by omega) (by omega) (fun h4 => ?_) (fun h4 => ?_)
          · exact absurd h4 (by omega)
          · refine fr_aload_n hB dX9_after_55 rfl rfl ?_
            refine fr_getR hB dX9_after_56 lf_X9_75 rfl rfl ?_
            refine fr_bipush (v := nI 6) hB dX9_after_59 (by decide) ?_
            refine fr_iload_n hB dX9_after_61 rfl rfl ?_
            refine fr_iaddN hB dX9_after_62 ?_
            refine fr_aload_n hB dX9_after_63 rfl rfl ?_
            refine fr_getR hB dX9_after_64 lf_X9_18 rfl rfl ?_
            refine fr_iload_n hB dX9_after_67 rfl rfl ?_
            refine fr_iald hB (_) dX9_after_68 rfl (rfl) (by omega) (by decide) ?_
            refine fr_iast hB (_) dX9_after_69 rfl (rfl) (by omega) (by decide) ?_
            refine fr_iincN (b := 1) hB dX9_after_70 rfl (by decide) (by decide) rfl ?_
            refine fr_goto (tgt := 49) hB dX9_after_73 (by decide) ?_
            refine ih (i + 1) _ (by omega) (hx.pi (k := 20) (i := 6 + i) (M1.1 3 i) (by omega) (by omega) (Or.inl (Or.inr (Or.inr rfl)))) ⟨fun p hp => ?_, fun g hg => ?_⟩ (fun a ha => ?_)
            · show fm_u M1.1 20 (6 + i) (M1.1 3 i) 20 p = _
              rw [fm_u_at, if_neg (fun q => by omega)]
              exact ht.1 p hp
            · show fm_u M1.1 20 (6 + i) (M1.1 3 i) 20 (6 + g) = _
              rw [fm_u_at]
              by_cases eg : g = i
              · rw [if_pos ⟨rfl, by omega⟩, eg, hq 3 (by omega)]
              · rw [if_neg (fun q => eg (by omega))]; exact ht.2 g (by omega)
            · show fm_u M1.1 20 (6 + i) (M1.1 3 i) a = _
              rw [fm_u_ne _ _ _ ha]
              exact hq a ha
      have a1 : ∀ (d i : Nat) (M1 : fm_M), i + d = 6 → fm_mx fm_DA M M1 → fm_T20 M M1 i 0 → (∀ a, a ≠ 20 → M1.1 a = M.1 a) → fm_W shM X 4 23 [some (.ref (fm_rh X 0)), some (.int (nI b)), some (.int (nI i)), none] [] M1 (fm_Q shM X (fun r M' => r = some (.int (sp_aft (fm_evs Z.1 (Z.1 15 0)) (nI b))) ∧ fm_mf M M')) := by
        intro d
        induction d with
        | zero =>
          intro i M1 hi hx ht hq
          have hi : i = 6 := by omega
          subst hi
          refine fr_iload_n hB dX9_after_23 rfl rfl ?_
          refine fr_bipush (v := nI 6) hB dX9_after_24 (by decide) ?_
          refine fr_icmp_geN (tgt := 47) hB dX9_after_26 (by decide) (by omega) (by omega) (fun h4 => ?_) (fun h4 => ?_)
          · refine fr_iconst (v := nI 0) hB dX9_after_47 (by decide) ?_
            refine fr_istore_n hB dX9_after_48 rfl (by decide) rfl ?_
            exact a2 8 0 M1 (by omega) hx ht hq
          · exact absurd h4 (by omega)
        | succ d ih =>
          intro i M1 hi hx ht hq
          refine fr_iload_n hB dX9_after_23 rfl rfl ?_
          refine fr_bipush (v := nI 6) hB dX9_after_24 (by decide) ?_
          refine fr_icmp_geN (tgt := 47) hB dX9_after_26 (by decide) (by omega) (by omega) (fun h4 => ?_) (fun h4 => ?_)
          · exact absurd h4 (by omega)
          · refine fr_aload_n hB dX9_after_29 rfl rfl ?_
            refine fr_getR hB dX9_after_30 lf_X9_75 rfl rfl ?_
            refine fr_iload_n hB dX9_after_33 rfl rfl ?_
            refine fr_aload_n hB dX9_after_34 rfl rfl ?_
            refine fr_getR hB dX9_after_35 lf_X9_9 rfl rfl ?_
            refine fr_iload_n hB dX9_after_38 rfl rfl ?_
            refine fr_iald hB (_) dX9_after_39 rfl (rfl) (by omega) (by decide) ?_
            refine fr_iast hB (_) dX9_after_40 rfl (rfl) (by omega) (by decide) ?_
            refine fr_iincN (b := 1) hB dX9_after_41 rfl (by decide) (by decide) rfl ?_
            refine fr_goto (tgt := 23) hB dX9_after_44 (by decide) ?_
            refine ih (i + 1) _ (by omega) (hx.pi (k := 20) (i := i) (M1.1 1 i) (by omega) (by omega) (Or.inl (Or.inr (Or.inr rfl)))) ⟨fun p hp => ?_, fun g hg => absurd hg (by omega)⟩ (fun a ha => ?_)
            · show fm_u M1.1 20 i (M1.1 1 i) 20 p = _
              rw [fm_u_at]
              by_cases eg : p = i
              · rw [if_pos ⟨rfl, eg⟩, eg, hq 1 (by omega)]
              · rw [if_neg (fun q => eg q.2)]; exact ht.1 p (by omega)
            · show fm_u M1.1 20 i (M1.1 1 i) a = _
              rw [fm_u_ne _ _ _ ha]
              exact hq a ha
      refine fr_iconst (v := nI 0) hB dX9_after_21 (by decide) ?_
      refine fr_istore_n hB dX9_after_22 rfl (by decide) rfl ?_
      exact a1 6 0 M (by omega) (fm_mx.rf _ M) ⟨fun p hp => absurd hp (by omega), fun g hg => absurd hg (by omega)⟩ (fun _ _ => rfl)
    · refine fr_bipush (v := -3) hB dX9_after_18 (by decide) ?_
      exact fr_ireturn hB dX9_after_20 (⟨by rw [sp_after, if_pos hl, if_pos h3], fm_mf.rf M⟩)
  · have hl : fm_lt w 4 = false := h
    refine fr_iconst (v := -1) hB dX9_after_9 (by decide) ?_
    exact fr_ireturn hB dX9_after_10 (⟨by rw [sp_after, hl]; rfl, fm_mf.rf M⟩)
