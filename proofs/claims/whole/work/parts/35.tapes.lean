/-! ===== FaultGraph: image, undo, tapes ===== -/
theorem fm_CR.im {Z : fm_Z} {M M' : fm_M} (h : fm_CR Z M) {P Q : fm_P} (h1 : fm_SR 1 P M') (hI : M'.1 0 8 = nI 1 ∧ fm_SR 22 Q M') (e : ∀ a, 43 ≤ a → M'.1 a = M.1 a) (e4 : ∀ a, 68 ≤ a → M'.2 a = M.2 a) : fm_CR (P, some Q, Z.2.2) M' := by
  obtain ⟨_, _, h3, h4⟩ := h
  refine ⟨h1, hI, ⟨by rw [e 63 (by omega)]; exact h3.1, h3.2.1, fun j hj => by rw [e 67 (by omega)]; exact h3.2.2 j hj⟩, fun j hj => ?_⟩
  rw [e _ (by omega), e4 _ (by omega)]
  exact h4 j hj
theorem cc_image {E : fm_E} {Z : fm_Z} {M : fm_M} (hc : fm_CR Z M) (hw : fm_WZ Z) : fm_C shC E mX8_image 3 [.ref (E.2.1 0)] M (fun r M' => r = some (.int (nI (Z.1 3 0))) ∧ fm_CR (Z.1, some Z.1, Z.2.2) M') := by
  refine fm_C.of (by decide +kernel) (Nat.le_of_ble_eq_true rfl) ?_
  intro X hE hR hB
  subst hE
  have hB : fm_B _ X cX8_image 1 RX8 (some .int) := hB
  refine fr_lv [some (.ref (fm_rh X 0))] ⟨rfl, trivial⟩ ?_
  refine fr_aload_n hB dX8_image_0 rfl rfl ?_
  refine fr_getR hB dX8_image_1 lf_X8_18 rfl rfl ?_
  refine fr_aload_n hB dX8_image_4 rfl rfl ?_
  refine fr_getR hB dX8_image_5 lf_X8_14 rfl rfl ?_
  refine fr_callV hB _ _ dX8_image_8 lm_X8_319 rfl (ct_X6_copyFrom_22 hc.1 hw.1) rfl rfl (Nat.le_of_ble_eq_true rfl) (fm_room hR (by decide) (by decide)) ?_
  rintro _ _ ⟨rfl, a1, a2, a3⟩
  refine fr_ret0 ?_
  rename_i M1
  have e1 : fm_SR 1 Z.1 (fm_pi M1 0 8 (nI 1)) := hc.1.kept (fun b h1 h2 => by show fm_u M1.1 0 8 (nI 1) b = _; rw [fm_u_ne _ _ _ (by omega), a2 b (by omega)])
  refine fr_aload_n hB dX8_image_11 rfl rfl ?_
  refine fr_iconst (v := nI 1) hB dX8_image_12 (by decide) ?_
  refine fr_put hB dX8_image_13 lp_X8_322 rfl rfl fm_nar1 (by decide) ?_
  refine fr_aload_n hB dX8_image_16 rfl rfl ?_
  refine fr_getR hB dX8_image_17 lf_X8_14 rfl rfl ?_
  refine fr_getR hB dX8_image_20 lf_X8_67 rfl rfl ?_
  refine fr_getI hB dX8_image_23 lf_X8_190 rfl rfl ?_
  refine fr_eqi _ (e1.pl.gates) ?_
  refine fr_ireturn hB dX8_image_26 ⟨rfl, hc.im e1 ⟨by simp [fm_u], a1.kept (fun b h1 h2 => by show fm_u M1.1 0 8 (nI 1) b = _; rw [fm_u_ne _ _ _ (by omega)])⟩ (fun b hb => by show fm_u M1.1 0 8 (nI 1) b = _; rw [fm_u_ne _ _ _ (by omega), a2 b (by omega)]) (fun b hb => by show M1.2 b = _; rw [a3])⟩
def sp_undo (Z : fm_Z) : Int32 × fm_Z := match Z.2.1 with
  | none => (-3, Z)
  | some Q => (nI (Q 3 0), (Q, some Q, Z.2.2))
theorem cc_undo {E : fm_E} {Z : fm_Z} {M : fm_M} (hc : fm_CR Z M) (hw : fm_WZ Z) : fm_C shC E mX8_undo 3 [.ref (E.2.1 0)] M (fun r M' => r = some (.int (sp_undo Z).1) ∧ fm_CR (sp_undo Z).2 M') := by
  have h2 := hc.2.1
  refine fm_C.of (by decide +kernel) (Nat.le_of_ble_eq_true rfl) ?_
  intro X hE hR hB
  subst hE
  have hB : fm_B _ X cX8_undo 1 RX8 (some .int) := hB
  refine fr_lv [some (.ref (fm_rh X 0))] ⟨rfl, trivial⟩ ?_
  cases hI : Z.2.1 with
  | none =>
    rw [hI] at h2
    have h2 : M.1 0 8 = nI 0 := h2
    have e : sp_undo Z = (-3, Z) := by rw [sp_undo, hI]
    refine fr_aload_n hB dX8_undo_0 rfl rfl ?_
    refine fr_getI hB dX8_undo_1 lf_X8_322 rfl rfl ?_
    refine fr_eqi _ (h2) ?_
    refine fr_if_neN (tgt := 10) hB dX8_undo_4 (by decide) (by omega) (fun h => ?_) (fun h => ?_)
    · exact absurd h (by omega)
    · refine fr_bipush (v := -3) hB dX8_undo_7 (by decide) ?_
      exact fr_ireturn hB dX8_undo_9 (⟨by rw [e], by rw [e]; exact hc⟩)
  | some Q =>
    rw [hI] at h2
    have h2 : M.1 0 8 = nI 1 ∧ fm_SR 22 Q M := h2
    have e : sp_undo Z = (nI (Q 3 0), (Q, some Q, Z.2.2)) := by rw [sp_undo, hI]
    refine fr_aload_n hB dX8_undo_0 rfl rfl ?_
    refine fr_getI hB dX8_undo_1 lf_X8_322 rfl rfl ?_
    refine fr_eqi _ (h2.1) ?_
    refine fr_if_neN (tgt := 10) hB dX8_undo_4 (by decide) (by omega) (fun h => ?_) (fun h => ?_)
    · refine fr_aload_n hB dX8_undo_10 rfl rfl ?_
      refine fr_getR hB dX8_undo_11 lf_X8_14 rfl rfl ?_
      refine fr_aload_n hB dX8_undo_14 rfl rfl ?_
      refine fr_getR hB dX8_undo_15 lf_X8_18 rfl rfl ?_
      refine fr_callV hB _ _ dX8_undo_18 lm_X8_319 rfl (ct_X6_copyFrom_1 h2.2 (hw.2.1 Q hI)) rfl rfl (Nat.le_of_ble_eq_true rfl) (fm_room hR (by decide) (by decide)) ?_
      rintro _ _ ⟨rfl, a1, a2, a3⟩
      refine fr_ret0 ?_
      rename_i M1
      refine fr_aload_n hB dX8_undo_21 rfl rfl ?_
      refine fr_getR hB dX8_undo_22 lf_X8_14 rfl rfl ?_
      refine fr_getR hB dX8_undo_25 lf_X8_67 rfl rfl ?_
      refine fr_getI hB dX8_undo_28 lf_X8_190 rfl rfl ?_
      refine fr_eqi _ (a1.pl.gates) ?_
      exact fr_ireturn hB dX8_undo_31 (⟨by rw [e], by rw [e]; exact hc.im a1 ⟨by rw [a2 0 (by omega)]; exact h2.1, h2.2.kept (fun b h1 h3 => a2 b (by omega))⟩ (fun b hb => a2 b (by omega)) (fun b hb => by rw [a3])⟩)
    · exact absurd h (by omega)
section FMT
variable {sh : List fm_S} {X : fm_X} {nL : Nat} {pc : Nat} {lv : List (Option Value)} {st : List Value} {M : fm_M} {Q : State → Prop}
theorem fr_reft {x : Nat} (y : Nat) (h : x = y) (k : fm_W sh X nL pc lv (.ref y :: st) M Q) : fm_W sh X nL pc lv (.ref x :: st) M Q := by rw [h]; exact k
end FMT
theorem ct_tapeOf_in {E : fm_E} {a : Nat} {M : fm_M} (ha : a < 6) : fm_C shC E mX8_tapeOf 0 [.ref (E.2.1 0), .int (nI a)] M (fun r M' => r = some (.ref (E.2.1 (69 + 2 * a))) ∧ M' = M) := by
  refine fm_C.of (by decide +kernel) (Nat.le_of_ble_eq_true rfl) ?_
  intro X hE hR hB
  subst hE
  have hB : fm_B _ X cX8_tapeOf 2 RX8 (some (.object "FaultGraph$Tape")) := hB
  refine fr_lv [some (.ref (fm_rh X 0)), some (.int (nI a))] ⟨rfl, rfl, trivial⟩ ?_
  refine fr_iload_n hB dX8_tapeOf_0 rfl rfl ?_
  refine fr_if_ltN (tgt := 22) hB dX8_tapeOf_1 (by decide) (by omega) ?_
  refine fr_iload_n hB dX8_tapeOf_4 rfl rfl ?_
  refine fr_aload_n hB dX8_tapeOf_5 rfl rfl ?_
  refine fr_getR hB dX8_tapeOf_6 lf_X8_58 rfl rfl ?_
  refine fr_alen hB dX8_tapeOf_9 rfl (by decide) ?_
  refine fr_icmp_geN (tgt := 22) hB dX8_tapeOf_10 (by decide) (by omega) (by omega) (fun h => ?_) (fun h => ?_)
  · exact absurd h (by omega)
  · refine fr_aload_n hB dX8_tapeOf_13 rfl rfl ?_
    refine fr_getR hB dX8_tapeOf_14 lf_X8_58 rfl rfl ?_
    refine fr_iload_n hB dX8_tapeOf_17 rfl rfl ?_
    refine fr_aald hB (_) dX8_tapeOf_18 rfl (rfl) (by omega) (by decide) ?_
    refine fr_goto (tgt := 23) hB dX8_tapeOf_19 (by decide) ?_
    exact fr_areturn hB dX8_tapeOf_23 (Or.inr ⟨_, rfl⟩) (⟨rfl, rfl⟩)
theorem ct_tapeOf_out {E : fm_E} {n : Int32} {M : fm_M} (ha : fm_lt n 6 = false) : fm_C shC E mX8_tapeOf 0 [.ref (E.2.1 0), .int n] M (fun r M' => r = some .null ∧ M' = M) := by
  refine fm_C.of (by decide +kernel) (Nat.le_of_ble_eq_true rfl) ?_
  intro X hE hR hB
  subst hE
  have hB : fm_B _ X cX8_tapeOf 2 RX8 (some (.object "FaultGraph$Tape")) := hB
  refine fr_lv [some (.ref (fm_rh X 0)), some (.int n)] ⟨rfl, rfl, trivial⟩ ?_
  refine fr_iload_n hB dX8_tapeOf_0 rfl rfl ?_
  refine fr_if_lt (tgt := 22) hB dX8_tapeOf_1 (by decide) (fun h => ?_) (fun h => ?_)
  · refine fr_null hB dX8_tapeOf_22 ?_
    exact fr_areturn hB dX8_tapeOf_23 (Or.inl rfl) (⟨rfl, rfl⟩)
  · refine fr_iload_n hB dX8_tapeOf_4 rfl rfl ?_
    refine fr_aload_n hB dX8_tapeOf_5 rfl rfl ?_
    refine fr_getR hB dX8_tapeOf_6 lf_X8_58 rfl rfl ?_
    refine fr_alen hB dX8_tapeOf_9 rfl (by decide) ?_
    refine fr_icmp_ge (tgt := 22) hB dX8_tapeOf_10 (by decide) (fun h2 => ?_) (fun h2 => ?_)
    · refine fr_null hB dX8_tapeOf_22 ?_
      exact fr_areturn hB dX8_tapeOf_23 (Or.inl rfl) (⟨rfl, rfl⟩)
    · rw [fm_lt_in h h2] at ha
      cases ha
theorem fm_CR.tp {Z : fm_Z} {M M' : fm_M} (h : fm_CR Z M) {so le : Nat → Nat} {it : Nat → Nat → Int64} (e : ∀ b, b < 69 → M'.1 b = M.1 b) (hK : fm_KR so le it M') : fm_CR (Z.1, Z.2.1, Z.2.2.1, Z.2.2.2.1, so, le, it) M' := by
  obtain ⟨h1, h2, h3, h4⟩ := h
  refine ⟨h1.kept (fun b _ hb => e b (by omega)), ?_, ⟨by rw [e 63 (by omega)]; exact h3.1, h3.2.1, fun j hj => by rw [e 67 (by omega)]; exact h3.2.2 j hj⟩, hK⟩
  show fm_IR Z.2.1 M'
  cases hI : Z.2.1 with
  | none => rw [hI] at h2; show M'.1 0 8 = nI 0; rw [e 0 (by omega)]; exact h2
  | some Q =>
    rw [hI] at h2
    exact ⟨by rw [e 0 (by omega)]; exact h2.1, h2.2.kept (fun b _ hb => e b (by omega))⟩
theorem fm_KR.become {so le : Nat → Nat} {it : Nat → Nat → Int64} {M : fm_M} (h : fm_KR so le it M) (a s l : Nat) : fm_KR (fm_up so a s) (fm_up le a l) (fm_up it a (fun _ => 0)) (fm_u (fm_u M.1 (69 + 2 * a) 0 (nI s - 1)) (69 + 2 * a) 1 (nI l), fm_row M.2 (69 + 2 * a + 1) (fun j => if j < 60 then 0 else M.2 (69 + 2 * a + 1) j)) := by
  intro j hj
  by_cases e : j = a
  · subst e
    refine ⟨by simp [fm_u, fm_up], by simp [fm_u, fm_up], fun i hi => by simp [fm_row, fm_up, hi]⟩
  · have n1 : ¬ 69 + 2 * j = 69 + 2 * a := by omega
    have n2 : ¬ 69 + 2 * j + 1 = 69 + 2 * a + 1 := by omega
    obtain ⟨q1, q2, q3⟩ := h j hj
    refine ⟨?_, ?_, fun i hi => ?_⟩
    · show fm_u (fm_u M.1 (69 + 2 * a) 0 (nI s - 1)) (69 + 2 * a) 1 (nI l) (69 + 2 * j) 0 = nI (fm_up so a s j) - 1
      rw [fm_u_ne _ _ _ n1, fm_u_ne _ _ _ n1]
      simpa [fm_up, e] using q1
    · show fm_u (fm_u M.1 (69 + 2 * a) 0 (nI s - 1)) (69 + 2 * a) 1 (nI l) (69 + 2 * j) 1 = nI (fm_up le a l j)
      rw [fm_u_ne _ _ _ n1, fm_u_ne _ _ _ n1]
      simpa [fm_up, e] using q2
    · show fm_row M.2 (69 + 2 * a + 1) _ (69 + 2 * j + 1) i = fm_up it a _ j i
      rw [fm_row_ne _ _ n2]
      simpa [fm_up, e] using q3 i hi
def sp_tape (Z : fm_Z) (t s n : Int32) : Int32 × fm_Z := if fm_lt t 6 then
    (if s = -1 then (nI 1, (Z.1, Z.2.1, Z.2.2.1, Z.2.2.2.1, fm_up Z.2.2.2.2.1 t.toNatClampNeg 0, fm_up Z.2.2.2.2.2.1 t.toNatClampNeg 0, fm_up Z.2.2.2.2.2.2 t.toNatClampNeg (fun _ => 0)))
    else if fm_lt s 5 = true ∧ n ≤ nI 60 then
      (if n < 0 then (-14, Z) else (nI 1, (Z.1, Z.2.1, Z.2.2.1, Z.2.2.2.1, fm_up Z.2.2.2.2.1 t.toNatClampNeg (s.toNatClampNeg + 1), fm_up Z.2.2.2.2.2.1 t.toNatClampNeg n.toNatClampNeg, fm_up Z.2.2.2.2.2.2 t.toNatClampNeg (fun _ => 0))))
    else (-2, Z)) else (-1, Z)
theorem cc_tape {E : fm_E} {t s n : Int32} {Z : fm_Z} {M : fm_M} (hc : fm_CR Z M) (hw : fm_WZ Z) : fm_C shC E mX8_tape 1 [.ref (E.2.1 0), .int t, .int s, .int n] M (fun r M' => r = some (.int (sp_tape Z t s n).1) ∧ fm_CR (sp_tape Z t s n).2 M') := by
  refine fm_C.of (by decide +kernel) (Nat.le_of_ble_eq_true rfl) ?_
  intro X hE hR hB
  subst hE
  have hB : fm_B _ X cX8_tape 5 RX8 (some .int) := hB
  refine fr_lv [some (.ref (fm_rh X 0)), some (.int t), some (.int s), some (.int n), none] ⟨rfl, rfl, rfl, rfl, trivial⟩ ?_
  cases ht : fm_lt t 6 with
  | false =>
    have e : sp_tape Z t s n = (-1, Z) := by rw [sp_tape, ht]; rfl
    refine fr_aload_n hB dX8_tape_0 rfl rfl ?_
    refine fr_iload_n hB dX8_tape_1 rfl rfl ?_
    refine fr_callV hB _ _ dX8_tape_2 lm_X8_301 rfl (ct_tapeOf_out ht) rfl rfl (Nat.le_of_ble_eq_true rfl) (fm_room hR (by decide) (by decide)) ?_
    rintro _ M9 ⟨rfl, hM9⟩
    rw [hM9]
    clear hM9 M9
    refine fr_ret1 ?_
    refine fr_astoreN hB dX8_tape_5 (by decide) rfl ?_
    refine fr_aloadN hB dX8_tape_7 rfl ?_
    refine fr_ifnonnullN hB dX8_tape_9 ?_
    refine fr_iconst (v := -1) hB dX8_tape_12 (by decide) ?_
    exact fr_ireturn hB dX8_tape_13 (⟨by rw [e], by rw [e]; exact hc⟩)
  | true =>
    obtain ⟨a, ha, rfl⟩ := fm_lt_of (by omega) ht
    have ea : (nI a).toNatClampNeg = a := nI_clamp (by omega)
    have htp := shC_Tp a ha
    have hfr : ∀ (x : Int32) (y : Int32) b, b < 69 → fm_u (fm_u M.1 (69 + 2 * a) 0 x) (69 + 2 * a) 1 y b = M.1 b := fun x y b hb => by rw [fm_u_ne _ _ _ (by omega), fm_u_ne _ _ _ (by omega)]
    refine fr_aload_n hB dX8_tape_0 rfl rfl ?_
    refine fr_iload_n hB dX8_tape_1 rfl rfl ?_
    refine fr_callV hB _ _ dX8_tape_2 lm_X8_301 rfl (ct_tapeOf_in ha) rfl rfl (Nat.le_of_ble_eq_true rfl) (fm_room hR (by decide) (by decide)) ?_
    rintro _ M9 ⟨rfl, hM9⟩
    rw [hM9]
    clear hM9 M9
    refine fr_ret1 ?_
    refine fr_reft (fm_rh X (69 + 2 * a)) rfl ?_
    refine fr_astore hB dX8_tape_5 (by decide) rfl ?_
    refine fr_aload hB dX8_tape_7 rfl ?_
    refine fr_ifnonnull (tgt := 14) hB dX8_tape_9 (by decide) ?_
    refine fr_iload_n hB dX8_tape_14 rfl rfl ?_
    refine fr_iconst (v := -1) hB dX8_tape_15 (by decide) ?_
    refine fr_icmp_ne (tgt := 28) hB dX8_tape_16 (by decide) (fun hs => ?_) (fun hs => ?_)
    · refine fr_iload_n hB dX8_tape_28 rfl rfl ?_
      refine fr_if_lt (tgt := 43) hB dX8_tape_29 (by decide) (fun h2 => ?_) (fun h2 => ?_)
      · have e : sp_tape Z (nI a) s n = (-2, Z) := by rw [sp_tape, if_pos ht, if_neg hs, if_neg (fun q => by rw [fm_lt_neg _ h2] at q; cases q.1)]
        refine fr_bipush (v := -2) hB dX8_tape_43 (by decide) ?_
        exact fr_ireturn hB dX8_tape_45 (⟨by rw [e], by rw [e]; exact hc⟩)
      · obtain ⟨b, hb, rfl⟩ := nI_of h2
        have eb : (nI b).toNatClampNeg = b := nI_clamp hb
        refine fr_iload_n hB dX8_tape_32 rfl rfl ?_
        refine fr_iconst (v := nI 4) hB dX8_tape_33 (by decide) ?_
        refine fr_icmp_gtN (tgt := 43) hB dX8_tape_34 (by decide) (by omega) (by omega) (fun h3 => ?_) (fun h3 => ?_)
        · have e : sp_tape Z (nI a) (nI b) n = (-2, Z) := by rw [sp_tape, if_pos ht, if_neg hs, if_neg (fun q => by have := q.1; rw [fm_lt_nat hb (by omega)] at this; simp at this; omega)]
          refine fr_bipush (v := -2) hB dX8_tape_43 (by decide) ?_
          exact fr_ireturn hB dX8_tape_45 (⟨by rw [e], by rw [e]; exact hc⟩)
        · have hl : fm_lt (nI b) 5 = true := by rw [fm_lt_nat hb (by omega)]; simp; omega
          refine fr_iload_n hB dX8_tape_37 rfl rfl ?_
          refine fr_bipush (v := nI 60) hB dX8_tape_38 (by decide) ?_
          refine fr_icmp_le (tgt := 46) hB dX8_tape_40 (by decide) (fun h4 => ?_) (fun h4 => ?_)
          · refine fr_iload_n hB dX8_tape_46 rfl rfl ?_
            refine fr_if_ge (tgt := 53) hB dX8_tape_47 (by decide) (fun h5 => ?_) (fun h5 => ?_)
            · obtain ⟨c, hcc, rfl⟩ := nI_of (Int32.not_lt.mpr h5)
              have ec : (nI c).toNatClampNeg = c := nI_clamp hcc
              have hn0 : ¬ nI c < 0 := nI_pos hcc
              have e : sp_tape Z (nI a) (nI b) (nI c) = (nI 1, (Z.1, Z.2.1, Z.2.2.1, Z.2.2.2.1, fm_up Z.2.2.2.2.1 a (b + 1), fm_up Z.2.2.2.2.2.1 a c, fm_up Z.2.2.2.2.2.2 a (fun _ => 0))) := by rw [sp_tape, if_pos ht, if_neg hs, if_pos ⟨hl, h4⟩, if_neg hn0, ea, eb, ec]
              refine fr_aload hB dX8_tape_53 rfl ?_
              refine fr_iload_n hB dX8_tape_55 rfl rfl ?_
              refine fr_iload_n hB dX8_tape_56 rfl rfl ?_
              refine fr_callV hB _ _ dX8_tape_57 lm_X8_326 htp.o (ct_X7_become htp) rfl rfl (Nat.le_of_ble_eq_true rfl) (fm_room hR (by decide) (by decide)) ?_
              rintro _ M9 ⟨rfl, hM9⟩
              rw [hM9]
              clear hM9 M9
              refine fr_ret0 ?_
              refine fr_iconst (v := nI 1) hB dX8_tape_60 (by decide) ?_
              refine fr_ireturn hB dX8_tape_61 ⟨by rw [e], ?_⟩
              rw [e]
              have hk := hc.2.2.2.become a (b + 1) c
              rw [nI_p1] at hk
              exact hc.tp (hfr _ _) hk
            · have h5 : n < 0 := Int32.not_le.mp h5
              have e : sp_tape Z (nI a) (nI b) n = (-14, Z) := by rw [sp_tape, if_pos ht, if_neg hs, if_pos ⟨hl, h4⟩, if_pos h5]
              refine fr_bipush (v := -14) hB dX8_tape_50 (by decide) ?_
              exact fr_ireturn hB dX8_tape_52 (⟨by rw [e], by rw [e]; exact hc⟩)
          · have e : sp_tape Z (nI a) (nI b) n = (-2, Z) := by rw [sp_tape, if_pos ht, if_neg hs, if_neg (fun q => h4 q.2)]
            refine fr_bipush (v := -2) hB dX8_tape_43 (by decide) ?_
            exact fr_ireturn hB dX8_tape_45 (⟨by rw [e], by rw [e]; exact hc⟩)
    · have hs : s = -1 := Decidable.not_not.mp hs
      have e : sp_tape Z (nI a) s n = (nI 1, (Z.1, Z.2.1, Z.2.2.1, Z.2.2.2.1, fm_up Z.2.2.2.2.1 a 0, fm_up Z.2.2.2.2.2.1 a 0, fm_up Z.2.2.2.2.2.2 a (fun _ => 0))) := by rw [sp_tape, if_pos ht, if_pos hs, ea]
      refine fr_aload hB dX8_tape_19 rfl ?_
      refine fr_iconst (v := -1) hB dX8_tape_21 (by decide) ?_
      refine fr_iconst (v := nI 0) hB dX8_tape_22 (by decide) ?_
      refine fr_callV hB _ _ dX8_tape_23 lm_X8_326 htp.o (ct_X7_become htp) rfl rfl (Nat.le_of_ble_eq_true rfl) (fm_room hR (by decide) (by decide)) ?_
      rintro _ M9 ⟨rfl, hM9⟩
      rw [hM9]
      clear hM9 M9
      refine fr_ret0 ?_
      refine fr_iconst (v := nI 1) hB dX8_tape_26 (by decide) ?_
      refine fr_ireturn hB dX8_tape_27 ⟨by rw [e], ?_⟩
      rw [e]
      have hk := hc.2.2.2.become a 0 0
      rw [show nI 0 - 1 = -1 by decide] at hk
      exact hc.tp (hfr _ _) hk
theorem fm_sort : ∀ t : Nat, t ≤ 5 → ((nI t - 1 = -1 ↔ t = 0) ∧ (t ≠ 0 → nI t - 1 = nI (t - 1))) := by decide
theorem fm_sort2 : ∀ t : Nat, t ≤ 5 → ∀ u : Nat, u ≤ 5 → (nI t - 1 = nI u - 1 ↔ t = u) := by decide
def sp_item (Z : fm_Z) (t i : Int32) (v : Int64) : Int32 × fm_Z := if fm_lt t 6 then
    (if Z.2.2.2.2.1 t.toNatClampNeg = 0 then (-11, Z) else if fm_lt i (Z.2.2.2.2.2.1 t.toNatClampNeg) then (nI 1, (Z.1, Z.2.1, Z.2.2.1, Z.2.2.2.1, Z.2.2.2.2.1, Z.2.2.2.2.2.1, fm_u Z.2.2.2.2.2.2 t.toNatClampNeg i.toNatClampNeg (fm_as (Z.2.2.2.2.1 t.toNatClampNeg - 1) v)))
    else (-13, Z)) else (-1, Z)
theorem cc_item {E : fm_E} {t i : Int32} {v : Int64} {Z : fm_Z} {M : fm_M} (hc : fm_CR Z M) (hw : fm_WZ Z) : fm_C shC E mX8_item 1 [.ref (E.2.1 0), .int t, .int i, .long v] M (fun r M' => r = some (.int (sp_item Z t i v).1) ∧ fm_CR (sp_item Z t i v).2 M') := by
  refine fm_C.of (by decide +kernel) (Nat.le_of_ble_eq_true rfl) ?_
  intro X hE hR hB
  subst hE
  have hB : fm_B _ X cX8_item 6 RX8 (some .int) := hB
  refine fr_lv [some (.ref (fm_rh X 0)), some (.int t), some (.int i), some (.long v), none, none] ⟨rfl, rfl, rfl, rfl, trivial⟩ ?_
  cases ht : fm_lt t 6 with
  | false =>
    have e : sp_item Z t i v = (-1, Z) := by rw [sp_item, ht]; rfl
    refine fr_aload_n hB dX8_item_0 rfl rfl ?_
    refine fr_iload_n hB dX8_item_1 rfl rfl ?_
    refine fr_callV hB _ _ dX8_item_2 lm_X8_301 rfl (ct_tapeOf_out ht) rfl rfl (Nat.le_of_ble_eq_true rfl) (fm_room hR (by decide) (by decide)) ?_
    rintro _ M9 ⟨rfl, hM9⟩
    rw [hM9]
    clear hM9 M9
    refine fr_ret1 ?_
    refine fr_astoreN hB dX8_item_5 (by decide) rfl ?_
    refine fr_aloadN hB dX8_item_7 rfl ?_
    refine fr_ifnonnullN hB dX8_item_9 ?_
    refine fr_iconst (v := -1) hB dX8_item_12 (by decide) ?_
    exact fr_ireturn hB dX8_item_13 (⟨by rw [e], by rw [e]; exact hc⟩)
  | true =>
    obtain ⟨a, ha, rfl⟩ := fm_lt_of (by omega) ht
    have ea : (nI a).toNatClampNeg = a := nI_clamp (by omega)
    have htp := shC_Tp a ha
    obtain ⟨k1, k2, k3⟩ := hc.2.2.2 a ha
    obtain ⟨w1, w2, w3⟩ := hw.2.2 a ha
    refine fr_aload_n hB dX8_item_0 rfl rfl ?_
    refine fr_iload_n hB dX8_item_1 rfl rfl ?_
    refine fr_callV hB _ _ dX8_item_2 lm_X8_301 rfl (ct_tapeOf_in ha) rfl rfl (Nat.le_of_ble_eq_true rfl) (fm_room hR (by decide) (by decide)) ?_
    rintro _ M9 ⟨rfl, hM9⟩
    rw [hM9]
    clear hM9 M9
    refine fr_ret1 ?_
    refine fr_reft (fm_rh X (69 + 2 * a)) rfl ?_
    refine fr_astore hB dX8_item_5 (by decide) rfl ?_
    refine fr_aload hB dX8_item_7 rfl ?_
    refine fr_ifnonnull (tgt := 14) hB dX8_item_9 (by decide) ?_
    refine fr_aload hB dX8_item_14 rfl ?_
    refine fr_getI hB dX8_item_16 lf_X8_305 htp.o rfl ?_
    rw [k1]
    refine fr_iconst (v := -1) hB dX8_item_19 (by decide) ?_
    refine fr_icmp_ne (tgt := 26) hB dX8_item_20 (by decide) (fun h => ?_) (fun h => ?_)
    · have hs : ¬ Z.2.2.2.2.1 a = 0 := fun q => h (((fm_sort _ w1).1).mpr q)
      refine fr_aload hB dX8_item_26 rfl ?_
      refine fr_iload_n hB dX8_item_28 rfl rfl ?_
      refine fr_callV hB _ _ dX8_item_29 lm_X8_329 htp.o (ct_X7_hasPlace htp k2) rfl rfl (Nat.le_of_ble_eq_true rfl) (fm_room hR (by decide) (by decide)) ?_
      rintro _ M9 ⟨rfl, hM9⟩
      rw [hM9]
      clear hM9 M9
      refine fr_ret1 ?_
      refine fr_if_neB (tgt := 38) hB dX8_item_32 (by decide) (fun h2 => ?_) (fun h2 => ?_)
      · obtain ⟨b, hb, rfl⟩ := fm_lt_of (by omega) h2
        have e : sp_item Z (nI a) (nI b) v = (nI 1, (Z.1, Z.2.1, Z.2.2.1, Z.2.2.2.1, Z.2.2.2.2.1, Z.2.2.2.2.2.1, fm_u Z.2.2.2.2.2.2 a b (fm_as (Z.2.2.2.2.1 a - 1) v))) := by rw [sp_item, if_pos ht, ea, if_neg hs, if_pos h2, nI_clamp (show b < 2 ^ 31 by omega)]
        refine fr_aload hB dX8_item_38 rfl ?_
        refine fr_getR hB dX8_item_40 lf_X8_312 htp.o rfl ?_
        refine fr_iload_n hB dX8_item_43 rfl rfl ?_
        refine fr_aload hB dX8_item_44 rfl ?_
        refine fr_lload_n hB dX8_item_46 rfl rfl ?_
        refine fr_callV hB _ _ dX8_item_47 lm_X8_330 htp.o (ct_X7_asItem (so := Z.2.2.2.2.1 a - 1) htp (by rw [k1]; exact (fm_sort _ w1).2 hs) (by omega)) rfl rfl (Nat.le_of_ble_eq_true rfl) (fm_room hR (by decide) (by decide)) ?_
        rintro _ M9 ⟨rfl, hM9⟩
        rw [hM9]
        clear hM9 M9
        refine fr_ret1 ?_
        refine fr_last hB (_) dX8_item_50 htp.a1 (rfl) (by omega) (by decide) ?_
        refine fr_iconst (v := nI 1) hB dX8_item_51 (by decide) ?_
        refine fr_ireturn hB dX8_item_52 ⟨by rw [e], ?_⟩
        rw [e]
        refine hc.tp (fun b hb => rfl) (fun j hj => ?_)
        obtain ⟨q1, q2, q3⟩ := hc.2.2.2 j hj
        refine ⟨q1, q2, fun x hx => ?_⟩
        show fm_u M.2 (69 + 2 * a + 1) b _ (69 + 2 * j + 1) x = fm_u Z.2.2.2.2.2.2 a b _ j x
        rw [fm_u_at, fm_u_at, q3 x hx]
        by_cases ej : j = a
        · simp [ej]
        · have : ¬ 69 + 2 * j + 1 = 69 + 2 * a + 1 := by omega
          rw [if_neg (fun z => this z.1), if_neg (fun z => ej z.1)]
      · have e : sp_item Z (nI a) i v = (-13, Z) := by rw [sp_item, if_pos ht, ea, if_neg hs, h2]; rfl
        refine fr_bipush (v := -13) hB dX8_item_35 (by decide) ?_
        exact fr_ireturn hB dX8_item_37 (⟨by rw [e], by rw [e]; exact hc⟩)
    · have hs : Z.2.2.2.2.1 a = 0 := ((fm_sort _ w1).1).mp (Decidable.not_not.mp h)
      have e : sp_item Z (nI a) i v = (-11, Z) := by rw [sp_item, if_pos ht, ea, if_pos hs]
      refine fr_bipush (v := -11) hB dX8_item_23 (by decide) ?_
      exact fr_ireturn hB dX8_item_25 (⟨by rw [e], by rw [e]; exact hc⟩)
def sp_peek (Z : fm_Z) (t i : Int32) : Int64 := if fm_lt t 6 = true ∧ fm_lt i (Z.2.2.2.2.2.1 t.toNatClampNeg) = true then Z.2.2.2.2.2.2 t.toNatClampNeg i.toNatClampNeg else -9223372036854775808
theorem cc_peek {E : fm_E} {t i : Int32} {Z : fm_Z} {M : fm_M} (hc : fm_CR Z M) (hw : fm_WZ Z) : fm_C shC E mX8_peek 1 [.ref (E.2.1 0), .int t, .int i] M (fun r M' => r = some (.long (sp_peek Z t i)) ∧ M' = M) := by
  refine fm_C.of (by decide +kernel) (Nat.le_of_ble_eq_true rfl) ?_
  intro X hE hR hB
  subst hE
  have hB : fm_B _ X cX8_peek 4 RX8 (some .long) := hB
  refine fr_lv [some (.ref (fm_rh X 0)), some (.int t), some (.int i), none] ⟨rfl, rfl, rfl, trivial⟩ ?_
  cases ht : fm_lt t 6 with
  | false =>
    have e : sp_peek Z t i = -9223372036854775808 := by rw [sp_peek, if_neg (fun q => by rw [ht] at q; cases q.1)]
    refine fr_aload_n hB dX8_peek_0 rfl rfl ?_
    refine fr_iload_n hB dX8_peek_1 rfl rfl ?_
    refine fr_callV hB _ _ dX8_peek_2 lm_X8_301 rfl (ct_tapeOf_out ht) rfl rfl (Nat.le_of_ble_eq_true rfl) (fm_room hR (by decide) (by decide)) ?_
    rintro _ M9 ⟨rfl, hM9⟩
    rw [hM9]
    clear hM9 M9
    refine fr_ret1 ?_
    refine fr_astore_nN hB dX8_peek_5 rfl (by decide) rfl ?_
    refine fr_aload_nN hB dX8_peek_6 rfl rfl ?_
    refine fr_ifnullN (tgt := 18) hB dX8_peek_7 (by decide) ?_
    refine fr_ldc2 (v := -9223372036854775808) hB dX8_peek_18 lc_X8_248 ?_
    exact fr_lreturn hB dX8_peek_21 (⟨by rw [e], rfl⟩)
  | true =>
    obtain ⟨a, ha, rfl⟩ := fm_lt_of (by omega) ht
    have ea : (nI a).toNatClampNeg = a := nI_clamp (by omega)
    have htp := shC_Tp a ha
    obtain ⟨k1, k2, k3⟩ := hc.2.2.2 a ha
    obtain ⟨w1, w2, w3⟩ := hw.2.2 a ha
    refine fr_aload_n hB dX8_peek_0 rfl rfl ?_
    refine fr_iload_n hB dX8_peek_1 rfl rfl ?_
    refine fr_callV hB _ _ dX8_peek_2 lm_X8_301 rfl (ct_tapeOf_in ha) rfl rfl (Nat.le_of_ble_eq_true rfl) (fm_room hR (by decide) (by decide)) ?_
    rintro _ M9 ⟨rfl, hM9⟩
    rw [hM9]
    clear hM9 M9
    refine fr_ret1 ?_
    refine fr_reft (fm_rh X (69 + 2 * a)) rfl ?_
    refine fr_astore_n hB dX8_peek_5 rfl (by decide) rfl ?_
    refine fr_aload_n hB dX8_peek_6 rfl rfl ?_
    refine fr_ifnull hB dX8_peek_7 ?_
    refine fr_aload_n hB dX8_peek_10 rfl rfl ?_
    refine fr_iload_n hB dX8_peek_11 rfl rfl ?_
    refine fr_callV hB _ _ dX8_peek_12 lm_X8_329 htp.o (ct_X7_hasPlace htp k2) rfl rfl (Nat.le_of_ble_eq_true rfl) (fm_room hR (by decide) (by decide)) ?_
    rintro _ M9 ⟨rfl, hM9⟩
    rw [hM9]
    clear hM9 M9
    refine fr_ret1 ?_
    refine fr_if_neB (tgt := 22) hB dX8_peek_15 (by decide) (fun h2 => ?_) (fun h2 => ?_)
    · obtain ⟨b, hb, rfl⟩ := fm_lt_of (by omega) h2
      refine fr_aload_n hB dX8_peek_22 rfl rfl ?_
      refine fr_getR hB dX8_peek_23 lf_X8_312 htp.o rfl ?_
      refine fr_iload_n hB dX8_peek_26 rfl rfl ?_
      refine fr_lald hB (_) dX8_peek_27 htp.a1 (rfl) (by omega) (by decide) ?_
      refine fr_eql (Z.2.2.2.2.2.2 a b) (k3 b (by omega)) ?_
      exact fr_lreturn hB dX8_peek_28 (⟨by rw [sp_peek, ea, if_pos ⟨ht, h2⟩, nI_clamp (show b < 2 ^ 31 by omega)], rfl⟩)
    · have e : sp_peek Z (nI a) i = -9223372036854775808 := by rw [sp_peek, ea, if_neg (fun q => by rw [h2] at q; cases q.2)]
      refine fr_ldc2 (v := -9223372036854775808) hB dX8_peek_18 lc_X8_248 ?_
      exact fr_lreturn hB dX8_peek_21 (⟨by rw [e], rfl⟩)
