/-! ===== the reference: odds ===== -/
/-- the same but for what is drawn and listed; the row of what was is kept -/
def fm_mg (M M' : fm_M) : Prop := fm_mf M M' ∧ M'.1 20 = M.1 20
theorem fm_mg.rf (M : fm_M) : fm_mg M M := ⟨fm_mf.rf M, rfl⟩
theorem fm_mg.tr {M M1 M2 : fm_M} (h : fm_mg M M1) (h2 : fm_mg M1 M2) : fm_mg M M2 := ⟨h.1.tr h2.1, h2.2.trans h.2⟩
theorem fm_mg.r14 (M : fm_M) (F : Nat → Int32) : fm_mg M (fm_row M.1 14 F, M.2) := ⟨fm_mf.r14 M F, fm_row_ne M.1 F (show 20 ≠ 14 by omega)⟩
theorem fm_mg.km (M : fm_M) (S : fm_SS) : fm_mg M (fm_km M S) := ⟨fm_mf.km M S, by simp [fm_km]⟩
/-- the same but at the places D (rows 1 .. 13, 20) and for what is drawn and listed -/
def fm_mx (D : Nat → Nat → Prop) (M M' : fm_M) : Prop := (∀ a j, 1 ≤ a → (a < 14 ∨ a = 20) → ¬ D a j → M'.1 a j = M.1 a j) ∧ (∀ j, j ≠ 22 → j ≠ 27 → M'.1 0 j = M.1 0 j) ∧ (∀ a, 21 ≤ a → M'.1 a = M.1 a) ∧ M'.2 24 = M.2 24
theorem fm_mx.rf (D : Nat → Nat → Prop) (M : fm_M) : fm_mx D M M := ⟨fun _ _ _ _ _ => rfl, fun _ _ _ => rfl, fun _ _ => rfl, rfl⟩
theorem fm_mx.pi {D : Nat → Nat → Prop} {M M1 : fm_M} (h : fm_mx D M M1) {k i : Nat} (v : Int32) (hk : 1 ≤ k) (hk2 : k < 21) (hD : D k i ∨ ¬ (k < 14 ∨ k = 20)) : fm_mx D M (fm_pi M1 k i v) := by
  refine ⟨fun a j h1 h2 h3 => ?_, fun j h1 h2 => ?_, fun a ha => ?_, h.2.2.2⟩
  · show fm_u M1.1 k i v a j = _
    rw [fm_u_at, if_neg (fun q => by
      obtain ⟨rfl, rfl⟩ := q
      rcases hD with hD | hD
      · exact h3 hD
      · exact hD h2)]
    exact h.1 a j h1 h2 h3
  · show fm_u M1.1 k i v 0 j = _
    rw [fm_u_at, if_neg (fun q => by omega)]
    exact h.2.1 j h1 h2
  · show fm_u M1.1 k i v a = _
    rw [fm_u_ne _ _ _ (by omega)]
    exact h.2.2.1 a ha
theorem fm_mx.mg {D : Nat → Nat → Prop} {M M1 M2 : fm_M} (h : fm_mx D M M1) (h2 : fm_mg M1 M2) : fm_mx D M M2 :=
  ⟨fun a j a1 a2 a3 => by
    rcases a2 with a2 | a2
    · rw [h2.1.1 a a1 a2]; exact h.1 a j a1 (Or.inl a2) a3
    · subst a2; rw [h2.2]; exact h.1 20 j a1 (Or.inr rfl) a3, fun j h3 h4 => (h2.1.2.1 j h3 h4).trans (h.2.1 j h3 h4), fun a ha => (h2.1.2.2.1 a ha).trans (h.2.2.1 a ha), h2.1.2.2.2.trans h.2.2.2⟩
theorem fm_mx.mf {D : Nat → Nat → Prop} {M M1 : fm_M} (h : fm_mx D M M1) (hd : ∀ a j, 1 ≤ a → a < 14 → D a j → M1.1 a j = M.1 a j) : fm_mf M M1 :=
  ⟨fun a h1 h2 => funext fun j => (Classical.em (D a j)).elim (fun q => hd a j h1 h2 q) (fun q => h.1 a j h1 (Or.inl h2) q), h.2.1, h.2.2.1, h.2.2.2⟩
theorem fm_mx.done {D : Nat → Nat → Prop} {M M1 : fm_M} (h : fm_mx D M M1) (hd : ∀ a j, D a j → M1.1 a j = M.1 a j) : fm_mg M M1 :=
  ⟨h.mf (fun a j _ _ q => hd a j q), funext fun j => (Classical.em (D 20 j)).elim (fun q => hd 20 j q) (fun q => h.1 20 j (by omega) (Or.inr rfl) q)⟩
theorem ct_X9_alone {E : fm_E} {s : Nat} {P : fm_P} {M : fm_M} (hm : fm_NP P M) (hw : fm_wf P) (hs : s < 64) : fm_C shM E mX9_alone 0 [.ref (E.2.1 0), .int (nI s)] M (fun r M' => r = some (.long (lN (fm_pr (P 1) (P 0 0) s))) ∧ M' = M) := by
  have h6 := hw.p6
  have h3 := hw.c3
  have o100 : ∀ j, P 1 j ≤ 100 := by
    first
    | exact hw.o100
    | exact hw.co
  refine fm_C.of (by decide +kernel) (Nat.le_of_ble_eq_true rfl) ?_
  intro X hE hR hB
  subst hE
  have hB : fm_B _ X cX9_alone 5 RX9 (some .long) := hB
  refine fr_lv [some (.ref (fm_rh X 0)), some (.int (nI s)), none, none, none] ⟨rfl, rfl, trivial⟩ ?_
  have l1 : ∀ (d p : Nat), p + d = P 0 0 → fm_W shM X 5 5 [some (.ref (fm_rh X 0)), some (.int (nI s)), some (.long (lN (fm_pr (P 1) p s))), none, some (.int (nI p))] [] M (fm_Q shM X (fun r M' => r = some (.long (lN (fm_pr (P 1) (P 0 0) s))) ∧ M' = M)) := by
    intro d
    induction d with
    | zero =>
      intro p hp
      have hp : p = P 0 0 := by omega
      refine fr_iload hB dX9_alone_5 rfl ?_
      refine fr_aload_n hB dX9_alone_7 rfl rfl ?_
      refine fr_getI hB dX9_alone_8 lf_X9_90 rfl rfl ?_
      refine fr_eqi _ (hm.parts) ?_
      refine fr_icmp_geN (tgt := 55) hB dX9_alone_11 (by decide) (by omega) (by omega) (fun h => ?_) (fun h => ?_)
      · refine fr_lload_n hB dX9_alone_55 rfl rfl ?_
        exact fr_lreturn hB dX9_alone_56 (⟨by rw [hp], rfl⟩)
      · exact absurd h (by omega)
    | succ d ih =>
      intro p hp
      have hbl := fm_bn_le (s.testBit p)
      have ho := o100 p
      have hst : fm_pr (P 1) (p + 1) s = fm_pr (P 1) p s * (if s.testBit p then P 1 p else 100 - P 1 p) := rfl
      refine fr_iload hB dX9_alone_5 rfl ?_
      refine fr_aload_n hB dX9_alone_7 rfl rfl ?_
      refine fr_getI hB dX9_alone_8 lf_X9_90 rfl rfl ?_
      refine fr_eqi _ (hm.parts) ?_
      refine fr_icmp_geN (tgt := 55) hB dX9_alone_11 (by decide) (by omega) (by omega) (fun h => ?_) (fun h => ?_)
      · exact absurd h (by omega)
      · refine fr_lload_n hB dX9_alone_14 rfl rfl ?_
        refine fr_iload_n hB dX9_alone_15 rfl rfl ?_
        refine fr_iload hB dX9_alone_16 rfl ?_
        refine fr_ishr hB dX9_alone_18 ?_
        refine fr_iconst (v := nI 1) hB dX9_alone_19 (by decide) ?_
        refine fr_iand hB dX9_alone_20 ?_
        refine fr_eqi (nI (fm_bn (s.testBit p))) (fm_shr1 s (by omega) p (by omega)) ?_
        refine fr_iconst (v := nI 1) hB dX9_alone_21 (by decide) ?_
        refine fr_icmp_neN (tgt := 36) hB dX9_alone_22 (by decide) (by omega) (by omega) (fun h2 => ?_) (fun h2 => ?_)
        · have hb : s.testBit p = false := by
            cases hb : s.testBit p with
            | false => rfl
            | true => exact absurd ((fm_bn1 _).mpr hb) h2
          rw [hb] at hst
          refine fr_bipush (v := nI 100) hB dX9_alone_36 (by decide) ?_
          refine fr_aload_n hB dX9_alone_38 rfl rfl ?_
          refine fr_getR hB dX9_alone_39 lf_X9_9 rfl rfl ?_
          refine fr_iload hB dX9_alone_42 rfl ?_
          refine fr_iald hB (_) dX9_alone_44 rfl (rfl) (by omega) (by decide) ?_
          refine fr_eqi (nI (P 1 p)) (hm.odds _ (by omega)) ?_
          refine fr_isubN hB dX9_alone_45 (by omega) ?_
          refine fr_i2l (v := lN (100 - P 1 p)) hB dX9_alone_46 (nI_l (by omega)) ?_
          refine fr_lmul hB dX9_alone_47 ?_
          refine fr_eql (lN (fm_pr (P 1) (p + 1) s)) (by rw [lN_mul, hst]; rfl) ?_
          refine fr_lstore_n hB dX9_alone_48 rfl (by decide) rfl ?_
          refine fr_iincN (b := 1) hB dX9_alone_49 rfl (by decide) (by decide) rfl ?_
          refine fr_goto (tgt := 5) hB dX9_alone_52 (by decide) ?_
          exact ih (p + 1) (by omega)
        · have hb := (fm_bn1 _).mp h2
          rw [hb] at hst
          refine fr_aload_n hB dX9_alone_25 rfl rfl ?_
          refine fr_getR hB dX9_alone_26 lf_X9_9 rfl rfl ?_
          refine fr_iload hB dX9_alone_29 rfl ?_
          refine fr_iald hB (_) dX9_alone_31 rfl (rfl) (by omega) (by decide) ?_
          refine fr_eqi (nI (P 1 p)) (hm.odds _ (by omega)) ?_
          refine fr_i2l (v := lN (P 1 p)) hB dX9_alone_32 (nI_l (by omega)) ?_
          refine fr_goto (tgt := 47) hB dX9_alone_33 (by decide) ?_
          refine fr_lmul hB dX9_alone_47 ?_
          refine fr_eql (lN (fm_pr (P 1) (p + 1) s)) (by rw [lN_mul, hst]; rfl) ?_
          refine fr_lstore_n hB dX9_alone_48 rfl (by decide) rfl ?_
          refine fr_iincN (b := 1) hB dX9_alone_49 rfl (by decide) (by decide) rfl ?_
          refine fr_goto (tgt := 5) hB dX9_alone_52 (by decide) ?_
          exact ih (p + 1) (by omega)
  refine fr_lconst (v := 1) hB dX9_alone_0 (by decide) ?_
  refine fr_lstore_n hB dX9_alone_1 rfl (by decide) rfl ?_
  refine fr_iconst (v := nI 0) hB dX9_alone_2 (by decide) ?_
  refine fr_istore hB dX9_alone_3 (by decide) rfl ?_
  exact l1 (P 0 0) 0 (by omega)
theorem ct_X9_together {E : fm_E} {s : Nat} {P : fm_P} {M : fm_M} (hm : fm_NP P M) (hw : fm_wf P) (hs : s < 64) : fm_C shM E mX9_together 0 [.ref (E.2.1 0), .int (nI s)] M (fun r M' => r = some (.long (lN (fm_pr (P 10) (P 9 0) s))) ∧ M' = M) := by
  have h6 := hw.p6
  have h3 := hw.c3
  have o100 : ∀ j, P 10 j ≤ 100 := by
    first
    | exact hw.o100
    | exact hw.co
  refine fm_C.of (by decide +kernel) (Nat.le_of_ble_eq_true rfl) ?_
  intro X hE hR hB
  subst hE
  have hB : fm_B _ X cX9_together 5 RX9 (some .long) := hB
  refine fr_lv [some (.ref (fm_rh X 0)), some (.int (nI s)), none, none, none] ⟨rfl, rfl, trivial⟩ ?_
  have l1 : ∀ (d p : Nat), p + d = P 9 0 → fm_W shM X 5 5 [some (.ref (fm_rh X 0)), some (.int (nI s)), some (.long (lN (fm_pr (P 10) p s))), none, some (.int (nI p))] [] M (fm_Q shM X (fun r M' => r = some (.long (lN (fm_pr (P 10) (P 9 0) s))) ∧ M' = M)) := by
    intro d
    induction d with
    | zero =>
      intro p hp
      have hp : p = P 9 0 := by omega
      refine fr_iload hB dX9_together_5 rfl ?_
      refine fr_aload_n hB dX9_together_7 rfl rfl ?_
      refine fr_getI hB dX9_together_8 lf_X9_121 rfl rfl ?_
      refine fr_eqi _ (hm.causes) ?_
      refine fr_icmp_geN (tgt := 55) hB dX9_together_11 (by decide) (by omega) (by omega) (fun h => ?_) (fun h => ?_)
      · refine fr_lload_n hB dX9_together_55 rfl rfl ?_
        exact fr_lreturn hB dX9_together_56 (⟨by rw [hp], rfl⟩)
      · exact absurd h (by omega)
    | succ d ih =>
      intro p hp
      have hbl := fm_bn_le (s.testBit p)
      have ho := o100 p
      have hst : fm_pr (P 10) (p + 1) s = fm_pr (P 10) p s * (if s.testBit p then P 10 p else 100 - P 10 p) := rfl
      refine fr_iload hB dX9_together_5 rfl ?_
      refine fr_aload_n hB dX9_together_7 rfl rfl ?_
      refine fr_getI hB dX9_together_8 lf_X9_121 rfl rfl ?_
      refine fr_eqi _ (hm.causes) ?_
      refine fr_icmp_geN (tgt := 55) hB dX9_together_11 (by decide) (by omega) (by omega) (fun h => ?_) (fun h => ?_)
      · exact absurd h (by omega)
      · refine fr_lload_n hB dX9_together_14 rfl rfl ?_
        refine fr_iload_n hB dX9_together_15 rfl rfl ?_
        refine fr_iload hB dX9_together_16 rfl ?_
        refine fr_ishr hB dX9_together_18 ?_
        refine fr_iconst (v := nI 1) hB dX9_together_19 (by decide) ?_
        refine fr_iand hB dX9_together_20 ?_
        refine fr_eqi (nI (fm_bn (s.testBit p))) (fm_shr1 s (by omega) p (by omega)) ?_
        refine fr_iconst (v := nI 1) hB dX9_together_21 (by decide) ?_
        refine fr_icmp_neN (tgt := 36) hB dX9_together_22 (by decide) (by omega) (by omega) (fun h2 => ?_) (fun h2 => ?_)
        · have hb : s.testBit p = false := by
            cases hb : s.testBit p with
            | false => rfl
            | true => exact absurd ((fm_bn1 _).mpr hb) h2
          rw [hb] at hst
          refine fr_bipush (v := nI 100) hB dX9_together_36 (by decide) ?_
          refine fr_aload_n hB dX9_together_38 rfl rfl ?_
          refine fr_getR hB dX9_together_39 lf_X9_34 rfl rfl ?_
          refine fr_iload hB dX9_together_42 rfl ?_
          refine fr_iald hB (_) dX9_together_44 rfl (rfl) (by omega) (by decide) ?_
          refine fr_eqi (nI (P 10 p)) (hm.codds _ (by omega)) ?_
          refine fr_isubN hB dX9_together_45 (by omega) ?_
          refine fr_i2l (v := lN (100 - P 10 p)) hB dX9_together_46 (nI_l (by omega)) ?_
          refine fr_lmul hB dX9_together_47 ?_
          refine fr_eql (lN (fm_pr (P 10) (p + 1) s)) (by rw [lN_mul, hst]; rfl) ?_
          refine fr_lstore_n hB dX9_together_48 rfl (by decide) rfl ?_
          refine fr_iincN (b := 1) hB dX9_together_49 rfl (by decide) (by decide) rfl ?_
          refine fr_goto (tgt := 5) hB dX9_together_52 (by decide) ?_
          exact ih (p + 1) (by omega)
        · have hb := (fm_bn1 _).mp h2
          rw [hb] at hst
          refine fr_aload_n hB dX9_together_25 rfl rfl ?_
          refine fr_getR hB dX9_together_26 lf_X9_34 rfl rfl ?_
          refine fr_iload hB dX9_together_29 rfl ?_
          refine fr_iald hB (_) dX9_together_31 rfl (rfl) (by omega) (by decide) ?_
          refine fr_eqi (nI (P 10 p)) (hm.codds _ (by omega)) ?_
          refine fr_i2l (v := lN (P 10 p)) hB dX9_together_32 (nI_l (by omega)) ?_
          refine fr_goto (tgt := 47) hB dX9_together_33 (by decide) ?_
          refine fr_lmul hB dX9_together_47 ?_
          refine fr_eql (lN (fm_pr (P 10) (p + 1) s)) (by rw [lN_mul, hst]; rfl) ?_
          refine fr_lstore_n hB dX9_together_48 rfl (by decide) rfl ?_
          refine fr_iincN (b := 1) hB dX9_together_49 rfl (by decide) (by decide) rfl ?_
          refine fr_goto (tgt := 5) hB dX9_together_52 (by decide) ?_
          exact ih (p + 1) (by omega)
  refine fr_lconst (v := 1) hB dX9_together_0 (by decide) ?_
  refine fr_lstore_n hB dX9_together_1 rfl (by decide) rfl ?_
  refine fr_iconst (v := nI 0) hB dX9_together_2 (by decide) ?_
  refine fr_istore hB dX9_together_3 (by decide) rfl ?_
  exact l1 (P 9 0) 0 (by omega)
theorem ct_X9_broken {E : fm_E} {s : Nat} {P : fm_P} {M : fm_M} (hm : fm_NP P M) (hw : fm_wf P) (hs : s < 64) : fm_C shM E mX9_broken 0 [.ref (E.2.1 0), .int (nI s)] M (fun r M' => r = some (.int (nI (fm_br (P 11) (P 9 0) s))) ∧ M' = M) := by
  have h6 := hw.p6
  have h3 := hw.c3
  have h2c := fm_2c h6
  refine fm_C.of (by decide +kernel) (Nat.le_of_ble_eq_true rfl) ?_
  intro X hE hR hB
  subst hE
  have hB : fm_B _ X cX9_broken 4 RX9 (some .int) := hB
  refine fr_lv [some (.ref (fm_rh X 0)), some (.int (nI s)), none, none] ⟨rfl, rfl, trivial⟩ ?_
  have l1 : ∀ (d p : Nat), p + d = P 9 0 → fm_W shM X 4 4 [some (.ref (fm_rh X 0)), some (.int (nI s)), some (.int (nI (fm_br (P 11) p s))), some (.int (nI p))] [] M (fm_Q shM X (fun r M' => r = some (.int (nI (fm_br (P 11) (P 9 0) s))) ∧ M' = M)) := by
    intro d
    induction d with
    | zero =>
      intro p hp
      have hp : p = P 9 0 := by omega
      refine fr_iload_n hB dX9_broken_4 rfl rfl ?_
      refine fr_aload_n hB dX9_broken_5 rfl rfl ?_
      refine fr_getI hB dX9_broken_6 lf_X9_121 rfl rfl ?_
      refine fr_eqi _ (hm.causes) ?_
      refine fr_icmp_geN (tgt := 36) hB dX9_broken_9 (by decide) (by omega) (by omega) (fun h => ?_) (fun h => ?_)
      · refine fr_iload_n hB dX9_broken_36 rfl rfl ?_
        exact fr_ireturn hB dX9_broken_37 (⟨by rw [hp], rfl⟩)
      · exact absurd h (by omega)
    | succ d ih =>
      intro p hp
      have hbl := fm_bn_le (s.testBit p)
      have hst : fm_br (P 11) (p + 1) s = if s.testBit p then fm_br (P 11) p s ||| P 11 p else fm_br (P 11) p s := rfl
      have hb1 := fm_br_lt (b := P 11) (k := P 0 0) p (fun i hi => hw.cb i (by omega)) s
      have hb2 := hw.cb p (by omega)
      refine fr_iload_n hB dX9_broken_4 rfl rfl ?_
      refine fr_aload_n hB dX9_broken_5 rfl rfl ?_
      refine fr_getI hB dX9_broken_6 lf_X9_121 rfl rfl ?_
      refine fr_eqi _ (hm.causes) ?_
      refine fr_icmp_geN (tgt := 36) hB dX9_broken_9 (by decide) (by omega) (by omega) (fun h => ?_) (fun h => ?_)
      · exact absurd h (by omega)
      · refine fr_iload_n hB dX9_broken_12 rfl rfl ?_
        refine fr_iload_n hB dX9_broken_13 rfl rfl ?_
        refine fr_ishr hB dX9_broken_14 ?_
        refine fr_iconst (v := nI 1) hB dX9_broken_15 (by decide) ?_
        refine fr_iand hB dX9_broken_16 ?_
        refine fr_eqi (nI (fm_bn (s.testBit p))) (fm_shr1 s (by omega) p (by omega)) ?_
        refine fr_iconst (v := nI 1) hB dX9_broken_17 (by decide) ?_
        refine fr_icmp_neN (tgt := 30) hB dX9_broken_18 (by decide) (by omega) (by omega) (fun h2 => ?_) (fun h2 => ?_)
        · have hb : s.testBit p = false := by
            cases hb : s.testBit p with
            | false => rfl
            | true => exact absurd ((fm_bn1 _).mpr hb) h2
          rw [hb] at hst
          have hst : fm_br (P 11) (p + 1) s = fm_br (P 11) p s := hst
          refine fr_iincN (b := 1) hB dX9_broken_30 rfl (by decide) (by decide) rfl ?_
          refine fr_goto (tgt := 4) hB dX9_broken_33 (by decide) ?_
          rw [← hst]
          exact ih (p + 1) (by omega)
        · have hb := (fm_bn1 _).mp h2
          rw [hb] at hst
          have hst : fm_br (P 11) (p + 1) s = fm_br (P 11) p s ||| P 11 p := hst
          refine fr_iload_n hB dX9_broken_21 rfl rfl ?_
          refine fr_aload_n hB dX9_broken_22 rfl rfl ?_
          refine fr_getR hB dX9_broken_23 lf_X9_37 rfl rfl ?_
          refine fr_iload_n hB dX9_broken_26 rfl rfl ?_
          refine fr_iald hB (_) dX9_broken_27 rfl (rfl) (by omega) (by decide) ?_
          refine fr_eqi (nI (P 11 p)) (hm.cbits _ (by omega)) ?_
          refine fr_ior hB dX9_broken_28 ?_
          refine fr_eqi (nI (fm_br (P 11) (p + 1) s)) (by rw [hst]; exact fm_ior _ (by omega) _ (by omega)) ?_
          refine fr_istore_n hB dX9_broken_29 rfl (by decide) rfl ?_
          refine fr_iincN (b := 1) hB dX9_broken_30 rfl (by decide) (by decide) rfl ?_
          refine fr_goto (tgt := 4) hB dX9_broken_33 (by decide) ?_
          exact ih (p + 1) (by omega)
  refine fr_iconst (v := nI 0) hB dX9_broken_0 (by decide) ?_
  refine fr_istore_n hB dX9_broken_1 rfl (by decide) rfl ?_
  refine fr_iconst (v := nI 0) hB dX9_broken_2 (by decide) ?_
  refine fr_istore_n hB dX9_broken_3 rfl (by decide) rfl ?_
  exact l1 (P 9 0) 0 (by omega)
theorem ct_X9_chance {E : fm_E} {P : fm_P} {M : fm_M} (hm : fm_NP P M) (hw : fm_wf P) (hg : 0 < P 3 0) : fm_C shM E mX9_chance 3 [.ref (E.2.1 0)] M (fun r M' => r = some (.long (lN (fm_cn P))) ∧ ∃ F, M' = (fm_row M.1 14 F, M.2)) := by
  have h6 := hw.p6
  have h3 := hw.c3
  have h2c := fm_2c h6
  have h2d := fm_2c (show P 9 0 ≤ 6 by omega)
  refine fm_C.of (by decide +kernel) (Nat.le_of_ble_eq_true rfl) ?_
  intro X hE hR hB
  subst hE
  have hB : fm_B _ X cX9_chance 7 RX9 (some .long) := hB
  refine fr_lv [some (.ref (fm_rh X 0)), none, none, none, none, none, none] ⟨rfl, trivial⟩ ?_
  have lo : ∀ (d y : Nat) (F : Nat → Int32), y + d = 2 ^ P 9 0 → fm_W shM X 7 4 [some (.ref (fm_rh X 0)), some (.long (lN (fm_sum (fun y => fm_sum (fun s => fm_pr (P 10) (P 9 0) y * fm_pr (P 1) (P 0 0) s * fm_fi P (s ||| fm_br (P 11) (P 9 0) y)) (2 ^ P 0 0)) y))), none, some (.int (nI y)), none, none, none] [] (fm_row M.1 14 F, M.2) (fm_Q shM X (fun r M' => r = some (.long (lN (fm_cn P))) ∧ ∃ F, M' = (fm_row M.1 14 F, M.2))) := by
    intro d
    induction d with
    | zero =>
      intro y F hy
      have hy : y = 2 ^ P 9 0 := by omega
      have hmF := hm.r14 F
      refine fr_iload_n hB dX9_chance_4 rfl rfl ?_
      refine fr_iconst (v := nI 1) hB dX9_chance_5 (by decide) ?_
      refine fr_aload_n hB dX9_chance_6 rfl rfl ?_
      refine fr_getI hB dX9_chance_7 lf_X9_121 rfl rfl ?_
      refine fr_eqi _ (hmF.causes) ?_
      refine fr_ishl hB dX9_chance_10 ?_
      refine fr_eqi (nI (2 ^ P 9 0)) (fm_shl1 (by omega)) ?_
      refine fr_icmp_geN (tgt := 81) hB dX9_chance_11 (by decide) (by omega) (by omega) (fun h => ?_) (fun h => ?_)
      · refine fr_lload_n hB dX9_chance_81 rfl rfl ?_
        exact fr_lreturn hB dX9_chance_82 (⟨by rw [hy]; rfl, F, rfl⟩)
      · exact absurd h (by omega)
    | succ d ih =>
      intro y F hy
      have hbrl := fm_br_lt (b := P 11) (k := P 0 0) (P 9 0) (fun i hi => hw.cb i hi) y
      have hw1 := fm_pr_le (o := P 10) (P 9 0) (fun i _ => hw.co i) y
      have hw2 : 100 ^ P 9 0 ≤ 100 ^ 3 := Nat.pow_le_pow_right (by omega) h3
      have hw3 : fm_pr (P 10) (P 9 0) y ≤ 1000000 := Nat.le_trans hw1 (Nat.le_trans hw2 (Nat.le_of_ble_eq_true rfl))
      have eo : fm_sum (fun y => fm_sum (fun s => fm_pr (P 10) (P 9 0) y * fm_pr (P 1) (P 0 0) s * fm_fi P (s ||| fm_br (P 11) (P 9 0) y)) (2 ^ P 0 0)) (y + 1) = fm_sum (fun y => fm_sum (fun s => fm_pr (P 10) (P 9 0) y * fm_pr (P 1) (P 0 0) s * fm_fi P (s ||| fm_br (P 11) (P 9 0) y)) (2 ^ P 0 0)) y + fm_sum (fun s => fm_pr (P 10) (P 9 0) y * fm_pr (P 1) (P 0 0) s * fm_fi P (s ||| fm_br (P 11) (P 9 0) y)) (2 ^ P 0 0) := rfl
      generalize fm_sum (fun y => fm_sum (fun s => fm_pr (P 10) (P 9 0) y * fm_pr (P 1) (P 0 0) s * fm_fi P (s ||| fm_br (P 11) (P 9 0) y)) (2 ^ P 0 0)) y = A at eo ⊢
      have out : ∀ (v : Nat) (F : Nat → Int32) (l6 : Option Value), v = A + fm_sum (fun s => fm_pr (P 10) (P 9 0) y * fm_pr (P 1) (P 0 0) s * fm_fi P (s ||| fm_br (P 11) (P 9 0) y)) (2 ^ P 0 0) → fm_W shM X 7 75 [some (.ref (fm_rh X 0)), some (.long (lN v)), none, some (.int (nI y)), none, none, none] [] (fm_row M.1 14 F, M.2) (fm_Q shM X (fun r M' => r = some (.long (lN (fm_cn P))) ∧ ∃ F, M' = (fm_row M.1 14 F, M.2))) := by
        intro v F l6 hv
        rw [hv, ← eo]
        refine fr_iincN (b := 1) hB dX9_chance_75 rfl (by decide) (by decide) rfl ?_
        refine fr_goto (tgt := 4) hB dX9_chance_78 (by decide) ?_
        exact ih (y + 1) F (by omega)
      have li : ∀ (e s : Nat) (F : Nat → Int32), s + e = 2 ^ P 0 0 → fm_W shM X 7 24 [some (.ref (fm_rh X 0)), some (.long (lN (A + fm_sum (fun s => fm_pr (P 10) (P 9 0) y * fm_pr (P 1) (P 0 0) s * fm_fi P (s ||| fm_br (P 11) (P 9 0) y)) s))), none, some (.int (nI y)), some (.long (lN (fm_pr (P 10) (P 9 0) y))), none, some (.int (nI s))] [] (fm_row M.1 14 F, M.2) (fm_Q shM X (fun r M' => r = some (.long (lN (fm_cn P))) ∧ ∃ F, M' = (fm_row M.1 14 F, M.2))) := by
        intro e
        induction e with
        | zero =>
          intro s F hs
          have hs : s = 2 ^ P 0 0 := by omega
          have hmF := hm.r14 F
          refine fr_iload hB dX9_chance_24 rfl ?_
          refine fr_iconst (v := nI 1) hB dX9_chance_26 (by decide) ?_
          refine fr_aload_n hB dX9_chance_27 rfl rfl ?_
          refine fr_getI hB dX9_chance_28 lf_X9_90 rfl rfl ?_
          refine fr_eqi _ (hmF.parts) ?_
          refine fr_ishl hB dX9_chance_31 ?_
          refine fr_eqi (nI (2 ^ P 0 0)) (fm_shl1 h6) ?_
          refine fr_icmp_geN (tgt := 75) hB dX9_chance_32 (by decide) (by omega) (by omega) (fun h => ?_) (fun h => ?_)
          · refine fr_lv [some (.ref (fm_rh X 0)), some (.long (lN (A + fm_sum (fun s => fm_pr (P 10) (P 9 0) y * fm_pr (P 1) (P 0 0) s * fm_fi P (s ||| fm_br (P 11) (P 9 0) y)) s))), none, some (.int (nI y)), none, none, none] ⟨rfl, rfl, rfl, trivial⟩ ?_
            exact out _ F none (by rw [hs])
          · exact absurd h (by omega)
        | succ e ihe =>
          intro s F hs
          have hmF := hm.r14 F
          have hsb : s ||| fm_br (P 11) (P 9 0) y < 2 ^ P 0 0 := Nat.or_lt_two_pow (by omega) hbrl
          have est : fm_sum (fun s => fm_pr (P 10) (P 9 0) y * fm_pr (P 1) (P 0 0) s * fm_fi P (s ||| fm_br (P 11) (P 9 0) y)) (s + 1) = fm_sum (fun s => fm_pr (P 10) (P 9 0) y * fm_pr (P 1) (P 0 0) s * fm_fi P (s ||| fm_br (P 11) (P 9 0) y)) s + fm_pr (P 10) (P 9 0) y * fm_pr (P 1) (P 0 0) s * fm_fi P (s ||| fm_br (P 11) (P 9 0) y) := rfl
          refine fr_iload hB dX9_chance_24 rfl ?_
          refine fr_iconst (v := nI 1) hB dX9_chance_26 (by decide) ?_
          refine fr_aload_n hB dX9_chance_27 rfl rfl ?_
          refine fr_getI hB dX9_chance_28 lf_X9_90 rfl rfl ?_
          refine fr_eqi _ (hmF.parts) ?_
          refine fr_ishl hB dX9_chance_31 ?_
          refine fr_eqi (nI (2 ^ P 0 0)) (fm_shl1 h6) ?_
          refine fr_icmp_geN (tgt := 75) hB dX9_chance_32 (by decide) (by omega) (by omega) (fun h => ?_) (fun h => ?_)
          · exact absurd h (by omega)
          · refine fr_lload hB dX9_chance_35 rfl ?_
            refine fr_lconst (v := 0) hB dX9_chance_37 (by decide) ?_
            refine fr_lcmp hB dX9_chance_38 ?_
            refine fr_if_le (tgt := 75) hB dX9_chance_39 (by decide) (fun h2 => ?_) (fun h2 => ?_)
            · have hz : fm_pr (P 10) (P 9 0) y = 0 := by
                have := (lN_le (b := 0) (by omega) (by omega)).mp ((lg_cmp_le _ _).mp h2)
                omega
              refine fr_lv [some (.ref (fm_rh X 0)), some (.long (lN (A + fm_sum (fun s => fm_pr (P 10) (P 9 0) y * fm_pr (P 1) (P 0 0) s * fm_fi P (s ||| fm_br (P 11) (P 9 0) y)) s))), none, some (.int (nI y)), none, none, none] ⟨rfl, rfl, rfl, trivial⟩ ?_
              exact out _ F none (by rw [hz, fm_sum_0 s (fun i _ => by rw [Nat.zero_mul, Nat.zero_mul]), fm_sum_0 (2 ^ P 0 0) (fun i _ => by rw [Nat.zero_mul, Nat.zero_mul])])
            · refine fr_aload_n hB dX9_chance_42 rfl rfl ?_
              refine fr_iload hB dX9_chance_43 rfl ?_
              refine fr_aload_n hB dX9_chance_45 rfl rfl ?_
              refine fr_iload_n hB dX9_chance_46 rfl rfl ?_
              refine fr_callV hB _ _ dX9_chance_47 lm_X9_229 rfl (ct_X9_broken hmF hw (show y < 64 by omega)) rfl rfl (Nat.le_of_ble_eq_true rfl) (fm_room hR (by decide) (by decide)) ?_
              rintro _ M9 ⟨rfl, hM9⟩
              rw [hM9]
              clear hM9 M9
              refine fr_ret1 ?_
              refine fr_ior hB dX9_chance_50 ?_
              refine fr_eqi (nI (s ||| fm_br (P 11) (P 9 0) y)) (fm_ior s (by omega) _ (by omega)) ?_
              refine fr_callV hB _ _ dX9_chance_51 lm_X9_199 rfl (ct_X9_isDown hmF hw hg (show s ||| fm_br (P 11) (P 9 0) y < 64 by omega)) rfl rfl (Nat.le_of_ble_eq_true rfl) (fm_room hR (by decide) (by decide)) ?_
              rintro _ _ ⟨rfl, F2, rfl⟩
              refine fr_ret1 ?_
              rw [show fm_row (fm_row M.1 14 F) 14 F2 = fm_row M.1 14 F2 from fm_row_row _ _ _ _]
              refine fr_if_eqB (tgt := 69) hB dX9_chance_54 (by decide) (fun h4 => ?_) (fun h4 => ?_)
              · have h5 : fm_fi P (s ||| fm_br (P 11) (P 9 0) y) = 0 := by unfold fm_fi; rw [h4]; rfl
                rw [h5, Nat.mul_zero] at est
                have est := est.trans (Nat.add_zero _)
                refine fr_iincN (b := 1) hB dX9_chance_69 rfl (by decide) (by decide) rfl ?_
                refine fr_goto (tgt := 24) hB dX9_chance_72 (by decide) ?_
                rw [← est]
                exact ihe (s + 1) F2 (by omega)
              · have h5 : fm_fi P (s ||| fm_br (P 11) (P 9 0) y) = 1 := by unfold fm_fi; rw [h4]; rfl
                rw [h5, Nat.mul_one] at est
                refine fr_lload_n hB dX9_chance_57 rfl rfl ?_
                refine fr_lload hB dX9_chance_58 rfl ?_
                refine fr_aload_n hB dX9_chance_60 rfl rfl ?_
                refine fr_iload hB dX9_chance_61 rfl ?_
                refine fr_callV hB _ _ dX9_chance_63 lm_X9_232 rfl (ct_X9_alone (hm.r14 F2) hw (show s < 64 by omega)) rfl rfl (Nat.le_of_ble_eq_true rfl) (fm_room hR (by decide) (by decide)) ?_
                rintro _ M9 ⟨rfl, hM9⟩
                rw [hM9]
                clear hM9 M9
                refine fr_ret1 ?_
                refine fr_lmul hB dX9_chance_66 ?_
                refine fr_ladd hB dX9_chance_67 ?_
                refine fr_eql (lN (A + fm_sum (fun s => fm_pr (P 10) (P 9 0) y * fm_pr (P 1) (P 0 0) s * fm_fi P (s ||| fm_br (P 11) (P 9 0) y)) (s + 1))) (by rw [est, lN_mul, lN_add, Nat.add_assoc]) ?_
                refine fr_lstore_n hB dX9_chance_68 rfl (by decide) rfl ?_
                refine fr_iincN (b := 1) hB dX9_chance_69 rfl (by decide) (by decide) rfl ?_
                refine fr_goto (tgt := 24) hB dX9_chance_72 (by decide) ?_
                exact ihe (s + 1) F2 (by omega)
      have hmF := hm.r14 F
      refine fr_iload_n hB dX9_chance_4 rfl rfl ?_
      refine fr_iconst (v := nI 1) hB dX9_chance_5 (by decide) ?_
      refine fr_aload_n hB dX9_chance_6 rfl rfl ?_
      refine fr_getI hB dX9_chance_7 lf_X9_121 rfl rfl ?_
      refine fr_eqi _ (hmF.causes) ?_
      refine fr_ishl hB dX9_chance_10 ?_
      refine fr_eqi (nI (2 ^ P 9 0)) (fm_shl1 (by omega)) ?_
      refine fr_icmp_geN (tgt := 81) hB dX9_chance_11 (by decide) (by omega) (by omega) (fun h => ?_) (fun h => ?_)
      · exact absurd h (by omega)
      · refine fr_aload_n hB dX9_chance_14 rfl rfl ?_
        refine fr_iload_n hB dX9_chance_15 rfl rfl ?_
        refine fr_callV hB _ _ dX9_chance_16 lm_X9_225 rfl (ct_X9_together hmF hw (show y < 64 by omega)) rfl rfl (Nat.le_of_ble_eq_true rfl) (fm_room hR (by decide) (by decide)) ?_
        rintro _ M9 ⟨rfl, hM9⟩
        rw [hM9]
        clear hM9 M9
        refine fr_ret1 ?_
        refine fr_lstore hB dX9_chance_19 (by decide) rfl ?_
        refine fr_iconst (v := nI 0) hB dX9_chance_21 (by decide) ?_
        refine fr_istore hB dX9_chance_22 (by decide) rfl ?_
        exact li (2 ^ P 0 0) 0 F (by omega)
  refine fr_mem (fm_row M.1 14 (M.1 14), M.2) (by rw [fm_row_self]) ?_
  refine fr_lconst (v := 0) hB dX9_chance_0 (by decide) ?_
  refine fr_lstore_n hB dX9_chance_1 rfl (by decide) rfl ?_
  refine fr_iconst (v := nI 0) hB dX9_chance_2 (by decide) ?_
  refine fr_istore_n hB dX9_chance_3 rfl (by decide) rfl ?_
  exact lo (2 ^ P 9 0) 0 _ (by omega)
theorem ct_X9_whole {E : fm_E} {P : fm_P} {M : fm_M} (hm : fm_NP P M) (hw : fm_wf P) : fm_C shM E mX9_whole 0 [.ref (E.2.1 0)] M (fun r M' => r = some (.long (fm_h (P 0 0 + P 9 0))) ∧ M' = M) := by
  have h6 := hw.p6
  have h3 := hw.c3
  refine fm_C.of (by decide +kernel) (Nat.le_of_ble_eq_true rfl) ?_
  intro X hE hR hB
  subst hE
  have hB : fm_B _ X cX9_whole 4 RX9 (some .long) := hB
  refine fr_lv [some (.ref (fm_rh X 0)), none, none, none] ⟨rfl, trivial⟩ ?_
  have l1 : ∀ (d i : Nat), i + d = P 0 0 + P 9 0 → fm_W shM X 4 4 [some (.ref (fm_rh X 0)), some (.long (fm_h i)), none, some (.int (nI i))] [] M (fm_Q shM X (fun r M' => r = some (.long (fm_h (P 0 0 + P 9 0))) ∧ M' = M)) := by
    intro d
    induction d with
    | zero =>
      intro i hi
      have e : i = P 0 0 + P 9 0 := by omega
      refine fr_iload_n hB dX9_whole_4 rfl rfl ?_
      refine fr_aload_n hB dX9_whole_5 rfl rfl ?_
      refine fr_getI hB dX9_whole_6 lf_X9_90 rfl rfl ?_
      refine fr_eqi _ (hm.parts) ?_
      refine fr_aload_n hB dX9_whole_9 rfl rfl ?_
      refine fr_getI hB dX9_whole_10 lf_X9_121 rfl rfl ?_
      refine fr_eqi _ (hm.causes) ?_
      refine fr_iaddN hB dX9_whole_13 ?_
      refine fr_icmp_geN (tgt := 29) hB dX9_whole_14 (by decide) (by omega) (by omega) (fun h => ?_) (fun h => ?_)
      · refine fr_lload_n hB dX9_whole_29 rfl rfl ?_
        exact fr_lreturn hB dX9_whole_30 (⟨by rw [e], rfl⟩)
      · exact absurd h (by omega)
    | succ d ih =>
      intro i hi
      refine fr_iload_n hB dX9_whole_4 rfl rfl ?_
      refine fr_aload_n hB dX9_whole_5 rfl rfl ?_
      refine fr_getI hB dX9_whole_6 lf_X9_90 rfl rfl ?_
      refine fr_eqi _ (hm.parts) ?_
      refine fr_aload_n hB dX9_whole_9 rfl rfl ?_
      refine fr_getI hB dX9_whole_10 lf_X9_121 rfl rfl ?_
      refine fr_eqi _ (hm.causes) ?_
      refine fr_iaddN hB dX9_whole_13 ?_
      refine fr_icmp_geN (tgt := 29) hB dX9_whole_14 (by decide) (by omega) (by omega) (fun h => ?_) (fun h => ?_)
      · exact absurd h (by omega)
      · refine fr_lload_n hB dX9_whole_17 rfl rfl ?_
        refine fr_ldc2 (v := 100) hB dX9_whole_18 lc_X9_235 ?_
        refine fr_lmul hB dX9_whole_21 ?_
        refine fr_lstore_n hB dX9_whole_22 rfl (by decide) rfl ?_
        refine fr_iincN (b := 1) hB dX9_whole_23 rfl (by decide) (by decide) rfl ?_
        refine fr_goto (tgt := 4) hB dX9_whole_26 (by decide) ?_
        exact ih (i + 1) (by omega)
  refine fr_lconst (v := 1) hB dX9_whole_0 (by decide) ?_
  refine fr_lstore_n hB dX9_whole_1 rfl (by decide) rfl ?_
  refine fr_iconst (v := nI 0) hB dX9_whole_2 (by decide) ?_
  refine fr_istore_n hB dX9_whole_3 rfl (by decide) rfl ?_
  exact l1 (P 0 0 + P 9 0) 0 (by omega)
theorem ct_X9_common {sh : List fm_S} : ∀ (d : Nat) (E : fm_E) (a b : Nat) (M : fm_M), a < 2 ^ 63 → b < 2 ^ 63 → fm_eu d a b → fm_C sh E mX9_common d [.long (lN a), .long (lN b)] M (fun r M' => r = some (.long (lN (Nat.gcd a b))) ∧ M' = M) := by
  intro d
  induction d with
  | zero =>
    intro E a b M ha hb h
    have h : b = 0 := h
    refine fm_C.of (by decide +kernel) (Nat.le_of_ble_eq_true rfl) ?_
    intro X hE hR hB
    subst hE
    have hB : fm_B _ X cX9_common 4 RX9 (some .long) := hB
    refine fr_lv [some (.long (lN a)), none, some (.long (lN b)), none] ⟨rfl, rfl, trivial⟩ ?_
    refine fr_lload_n hB dX9_common_0 rfl rfl ?_
    refine fr_lconst (v := 0) hB dX9_common_1 (by decide) ?_
    refine fr_lcmp hB dX9_common_2 ?_
    refine fr_if_ne (tgt := 10) hB dX9_common_3 (by decide) (fun h2 => ?_) (fun h2 => ?_)
    · exact absurd ((lg_cmp_eq _ _).mpr (by rw [h]; rfl)) h2
    · refine fr_lload_n hB dX9_common_6 rfl rfl ?_
      refine fr_goto (tgt := 17) hB dX9_common_7 (by decide) ?_
      exact fr_lreturn hB dX9_common_17 (⟨by rw [h, Nat.gcd_zero_right], rfl⟩)
  | succ d ih =>
    intro E a b M ha hb h
    refine fm_C.of (by decide +kernel) (Nat.le_of_ble_eq_true rfl) ?_
    intro X hE hR hB
    subst hE
    have hB : fm_B _ X cX9_common 4 RX9 (some .long) := hB
    refine fr_lv [some (.long (lN a)), none, some (.long (lN b)), none] ⟨rfl, rfl, trivial⟩ ?_
    refine fr_lload_n hB dX9_common_0 rfl rfl ?_
    refine fr_lconst (v := 0) hB dX9_common_1 (by decide) ?_
    refine fr_lcmp hB dX9_common_2 ?_
    refine fr_if_ne (tgt := 10) hB dX9_common_3 (by decide) (fun h2 => ?_) (fun h2 => ?_)
    · have h3 : ¬ lN b = 0 := fun q => h2 ((lg_cmp_eq _ _).mpr q)
      have h4 : ¬ b = 0 := fun q => h3 (by rw [q]; rfl)
      have h5 : a % b < b := Nat.mod_lt a (by omega)
      refine fr_lload_n hB dX9_common_10 rfl rfl ?_
      refine fr_lload_n hB dX9_common_11 rfl rfl ?_
      refine fr_lload_n hB dX9_common_12 rfl rfl ?_
      refine fr_lrem hB dX9_common_13 (h3) ?_
      refine fr_eql (lN (a % b)) (lN_mod ha hb) ?_
      refine fr_callS hB _ _ dX9_common_14 lm_X9_237 (ih (fm_EX X) b (a % b) M hb (by omega) (h.resolve_left h4)) rfl rfl (Nat.le_of_ble_eq_true rfl) (fm_room hR (by omega) (by decide)) ?_
      rintro _ M9 ⟨rfl, hM9⟩
      rw [hM9]
      clear hM9 M9
      refine fr_ret1 ?_
      exact fr_lreturn hB dX9_common_17 (⟨by rw [Nat.gcd_comm a b, Nat.gcd_rec b a, Nat.gcd_comm], rfl⟩)
    · have h3 : b = 0 := (lN_inj hb (by decide)).mp ((lg_cmp_eq _ _).mp (Decidable.not_not.mp h2))
      refine fr_lload_n hB dX9_common_6 rfl rfl ?_
      refine fr_goto (tgt := 17) hB dX9_common_7 (by decide) ?_
      exact fr_lreturn hB dX9_common_17 (⟨by rw [h3, Nat.gcd_zero_right], rfl⟩)
theorem ct_X9_line {sh : List fm_S} {E : fm_E} {x y line : Nat} {M : fm_M} (hx : x < 2 ^ 62) (hy : y < 2 ^ 62) (hp : 0 < y) (hl : line ≤ 1) : fm_C sh E mX9_line 125 [.long (lN x), .long (lN y), .int (nI line)] M (fun r M' => r = some (.long (fm_low (lN x) (lN y) line)) ∧ M' = M) := by
  rw [fm_low_n hx hy hp]
  have hgp : 0 < Nat.gcd x y := Nat.gcd_pos_of_pos_right x hp
  have hgl : Nat.gcd x y ≤ y := Nat.gcd_le_right x hp
  have hg0 : ¬ lN (Nat.gcd x y) = 0 := fun q => by
    have := (lN_inj (b := 0) (by omega) (by decide)).mp q
    omega
  refine fm_C.of (by decide +kernel) (Nat.le_of_ble_eq_true rfl) ?_
  intro X hE hR hB
  subst hE
  have hB : fm_B _ X cX9_line 7 RX9 (some .long) := hB
  refine fr_lv [some (.long (lN x)), none, some (.long (lN y)), none, some (.int (nI line)), none, none] ⟨rfl, rfl, rfl, trivial⟩ ?_
  refine fr_lload_n hB dX9_line_0 rfl rfl ?_
  refine fr_lload_n hB dX9_line_1 rfl rfl ?_
  refine fr_callS hB _ _ dX9_line_2 lm_X9_237 (ct_X9_common 124 (fm_EX X) x y M (by omega) (by omega) (fm_eu_2 62 x y hy)) rfl rfl (Nat.le_of_ble_eq_true rfl) (fm_room hR (by decide) (by decide)) ?_
  rintro _ M9 ⟨rfl, hM9⟩
  rw [hM9]
  clear hM9 M9
  refine fr_ret1 ?_
  refine fr_lstore hB dX9_line_5 (by decide) rfl ?_
  refine fr_iload hB dX9_line_7 rfl ?_
  refine fr_if_neN (tgt := 19) hB dX9_line_9 (by decide) (by omega) (fun h => ?_) (fun h => ?_)
  · refine fr_lload_n hB dX9_line_19 rfl rfl ?_
    refine fr_lload hB dX9_line_20 rfl ?_
    refine fr_ldiv hB dX9_line_22 (hg0) ?_
    refine fr_eql (lN (y / Nat.gcd x y)) (lN_div (by omega) (by omega)) ?_
    exact fr_lreturn hB dX9_line_23 (⟨by rw [if_neg (by omega)], rfl⟩)
  · refine fr_lload_n hB dX9_line_12 rfl rfl ?_
    refine fr_lload hB dX9_line_13 rfl ?_
    refine fr_ldiv hB dX9_line_15 (hg0) ?_
    refine fr_eql (lN (x / Nat.gcd x y)) (lN_div (by omega) (by omega)) ?_
    refine fr_goto (tgt := 23) hB dX9_line_16 (by decide) ?_
    exact fr_lreturn hB dX9_line_23 (⟨by rw [if_pos h], rfl⟩)
