/-! ===== FaultGraph: shift ===== -/
def sp_shift (Z : fm_Z) (t i u j n : Int32) : Int32 × fm_Z := if fm_lt t 6 = true ∧ fm_lt u 6 = true then
    (if Z.2.2.2.2.1 t.toNatClampNeg = 0 ∨ Z.2.2.2.2.1 u.toNatClampNeg = 0 then (-11, Z)
    else if Z.2.2.2.2.1 t.toNatClampNeg = Z.2.2.2.2.1 u.toNatClampNeg then
      (if fm_run i n (Z.2.2.2.2.2.1 t.toNatClampNeg) = true ∧ fm_run j n (Z.2.2.2.2.2.1 u.toNatClampNeg) = true then (n, (Z.1, Z.2.1, Z.2.2.1, Z.2.2.2.1, Z.2.2.2.2.1, Z.2.2.2.2.2.1, fm_row Z.2.2.2.2.2.2 u.toNatClampNeg (va_cpy (Z.2.2.2.2.2.2 t.toNatClampNeg) (Z.2.2.2.2.2.2 u.toNatClampNeg) i.toNatClampNeg j.toNatClampNeg n.toNatClampNeg)))
      else (-13, Z))
    else (-12, Z)) else (-1, Z)
theorem cc_shift {E : fm_E} {t i u j n : Int32} {Z : fm_Z} {M : fm_M} (hc : fm_CR Z M) (hw : fm_WZ Z) : fm_C shC E mX8_shift 1 [.ref (E.2.1 0), .int t, .int i, .int u, .int j, .int n] M (fun r M' => r = some (.int (sp_shift Z t i u j n).1) ∧ fm_CR (sp_shift Z t i u j n).2 M') := by
  refine fm_C.of (by decide +kernel) (Nat.le_of_ble_eq_true rfl) ?_
  intro X hE hR hB
  subst hE
  have hB : fm_B _ X cX8_shift 8 RX8 (some .int) := hB
  refine fr_lv [some (.ref (fm_rh X 0)), some (.int t), some (.int i), some (.int u), some (.int j), some (.int n), none, none] ⟨rfl, rfl, rfl, rfl, rfl, rfl, trivial⟩ ?_
  cases ht : fm_lt t 6 with
  | false =>
    have e : sp_shift Z t i u j n = (-1, Z) := by rw [sp_shift, if_neg (fun q => by rw [ht] at q; cases q.1)]
    cases hu : fm_lt u 6 with
    | false =>
      refine fr_aload_n hB dX8_shift_0 rfl rfl ?_
      refine fr_iload_n hB dX8_shift_1 rfl rfl ?_
      refine fr_callV hB _ _ dX8_shift_2 lm_X8_301 rfl (ct_tapeOf_out ht) rfl rfl (Nat.le_of_ble_eq_true rfl) (fm_room hR (by decide) (by decide)) ?_
      rintro _ M9 ⟨rfl, hM9⟩
      rw [hM9]
      clear hM9 M9
      refine fr_ret1 ?_
      refine fr_astoreN hB dX8_shift_5 (by decide) rfl ?_
      refine fr_aload_n hB dX8_shift_7 rfl rfl ?_
      refine fr_iload_n hB dX8_shift_8 rfl rfl ?_
      refine fr_callV hB _ _ dX8_shift_9 lm_X8_301 rfl (ct_tapeOf_out hu) rfl rfl (Nat.le_of_ble_eq_true rfl) (fm_room hR (by decide) (by decide)) ?_
      rintro _ M9 ⟨rfl, hM9⟩
      rw [hM9]
      clear hM9 M9
      refine fr_ret1 ?_
      refine fr_astoreN hB dX8_shift_12 (by decide) rfl ?_
      refine fr_aloadN hB dX8_shift_14 rfl ?_
      refine fr_ifnullN (tgt := 24) hB dX8_shift_16 (by decide) ?_
      refine fr_iconst (v := -1) hB dX8_shift_24 (by decide) ?_
      exact fr_ireturn hB dX8_shift_25 (⟨by rw [e], by rw [e]; exact hc⟩)
    | true =>
      obtain ⟨b, hb, rfl⟩ := fm_lt_of (by omega) hu
      refine fr_aload_n hB dX8_shift_0 rfl rfl ?_
      refine fr_iload_n hB dX8_shift_1 rfl rfl ?_
      refine fr_callV hB _ _ dX8_shift_2 lm_X8_301 rfl (ct_tapeOf_out ht) rfl rfl (Nat.le_of_ble_eq_true rfl) (fm_room hR (by decide) (by decide)) ?_
      rintro _ M9 ⟨rfl, hM9⟩
      rw [hM9]
      clear hM9 M9
      refine fr_ret1 ?_
      refine fr_astoreN hB dX8_shift_5 (by decide) rfl ?_
      refine fr_aload_n hB dX8_shift_7 rfl rfl ?_
      refine fr_iload_n hB dX8_shift_8 rfl rfl ?_
      refine fr_callV hB _ _ dX8_shift_9 lm_X8_301 rfl (ct_tapeOf_in hb) rfl rfl (Nat.le_of_ble_eq_true rfl) (fm_room hR (by decide) (by decide)) ?_
      rintro _ M9 ⟨rfl, hM9⟩
      rw [hM9]
      clear hM9 M9
      refine fr_ret1 ?_
      refine fr_reft (fm_rh X (69 + 2 * b)) rfl ?_
      refine fr_astore hB dX8_shift_12 (by decide) rfl ?_
      refine fr_aloadN hB dX8_shift_14 rfl ?_
      refine fr_ifnullN (tgt := 24) hB dX8_shift_16 (by decide) ?_
      refine fr_iconst (v := -1) hB dX8_shift_24 (by decide) ?_
      exact fr_ireturn hB dX8_shift_25 (⟨by rw [e], by rw [e]; exact hc⟩)
  | true =>
    obtain ⟨a, ha, rfl⟩ := fm_lt_of (by omega) ht
    have ea : (nI a).toNatClampNeg = a := nI_clamp (by omega)
    have hta := shC_Tp a ha
    obtain ⟨k1, k2, k3⟩ := hc.2.2.2 a ha
    obtain ⟨w1, w2, w3⟩ := hw.2.2 a ha
    cases hu : fm_lt u 6 with
    | false =>
      have e : sp_shift Z (nI a) i u j n = (-1, Z) := by rw [sp_shift, if_neg (fun q => by rw [hu] at q; cases q.2)]
      refine fr_aload_n hB dX8_shift_0 rfl rfl ?_
      refine fr_iload_n hB dX8_shift_1 rfl rfl ?_
      refine fr_callV hB _ _ dX8_shift_2 lm_X8_301 rfl (ct_tapeOf_in ha) rfl rfl (Nat.le_of_ble_eq_true rfl) (fm_room hR (by decide) (by decide)) ?_
      rintro _ M9 ⟨rfl, hM9⟩
      rw [hM9]
      clear hM9 M9
      refine fr_ret1 ?_
      refine fr_reft (fm_rh X (69 + 2 * a)) rfl ?_
      refine fr_astore hB dX8_shift_5 (by decide) rfl ?_
      refine fr_aload_n hB dX8_shift_7 rfl rfl ?_
      refine fr_iload_n hB dX8_shift_8 rfl rfl ?_
      refine fr_callV hB _ _ dX8_shift_9 lm_X8_301 rfl (ct_tapeOf_out hu) rfl rfl (Nat.le_of_ble_eq_true rfl) (fm_room hR (by decide) (by decide)) ?_
      rintro _ M9 ⟨rfl, hM9⟩
      rw [hM9]
      clear hM9 M9
      refine fr_ret1 ?_
      refine fr_astoreN hB dX8_shift_12 (by decide) rfl ?_
      refine fr_aload hB dX8_shift_14 rfl ?_
      refine fr_ifnull hB dX8_shift_16 ?_
      refine fr_aloadN hB dX8_shift_19 rfl ?_
      refine fr_ifnonnullN hB dX8_shift_21 ?_
      refine fr_iconst (v := -1) hB dX8_shift_24 (by decide) ?_
      exact fr_ireturn hB dX8_shift_25 (⟨by rw [e], by rw [e]; exact hc⟩)
    | true =>
      obtain ⟨b, hb, rfl⟩ := fm_lt_of (by omega) hu
      have eb : (nI b).toNatClampNeg = b := nI_clamp (by omega)
      have htb := shC_Tp b hb
      obtain ⟨m1, m2, m3⟩ := hc.2.2.2 b hb
      obtain ⟨v1, v2, v3⟩ := hw.2.2 b hb
      refine fr_aload_n hB dX8_shift_0 rfl rfl ?_
      refine fr_iload_n hB dX8_shift_1 rfl rfl ?_
      refine fr_callV hB _ _ dX8_shift_2 lm_X8_301 rfl (ct_tapeOf_in ha) rfl rfl (Nat.le_of_ble_eq_true rfl) (fm_room hR (by decide) (by decide)) ?_
      rintro _ M9 ⟨rfl, hM9⟩
      rw [hM9]
      clear hM9 M9
      refine fr_ret1 ?_
      refine fr_reft (fm_rh X (69 + 2 * a)) rfl ?_
      refine fr_astore hB dX8_shift_5 (by decide) rfl ?_
      refine fr_aload_n hB dX8_shift_7 rfl rfl ?_
      refine fr_iload_n hB dX8_shift_8 rfl rfl ?_
      refine fr_callV hB _ _ dX8_shift_9 lm_X8_301 rfl (ct_tapeOf_in hb) rfl rfl (Nat.le_of_ble_eq_true rfl) (fm_room hR (by decide) (by decide)) ?_
      rintro _ M9 ⟨rfl, hM9⟩
      rw [hM9]
      clear hM9 M9
      refine fr_ret1 ?_
      refine fr_reft (fm_rh X (69 + 2 * b)) rfl ?_
      refine fr_astore hB dX8_shift_12 (by decide) rfl ?_
      refine fr_aload hB dX8_shift_14 rfl ?_
      refine fr_ifnull hB dX8_shift_16 ?_
      refine fr_aload hB dX8_shift_19 rfl ?_
      refine fr_ifnonnull (tgt := 26) hB dX8_shift_21 (by decide) ?_
      refine fr_aload hB dX8_shift_26 rfl ?_
      refine fr_getI hB dX8_shift_28 lf_X8_305 hta.o rfl ?_
      rw [k1]
      refine fr_iconst (v := -1) hB dX8_shift_31 (by decide) ?_
      refine fr_icmp_eq (tgt := 44) hB dX8_shift_32 (by decide) (fun h1 => ?_) (fun h1 => ?_)
      · have hs : Z.2.2.2.2.1 a = 0 := ((fm_sort _ w1).1).mp h1
        have e : sp_shift Z (nI a) i (nI b) j n = (-11, Z) := by rw [sp_shift, if_pos ⟨ht, hu⟩, ea, eb, if_pos (Or.inl hs)]
        refine fr_bipush (v := -11) hB dX8_shift_44 (by decide) ?_
        exact fr_ireturn hB dX8_shift_46 (⟨by rw [e], by rw [e]; exact hc⟩)
      · have hs : ¬ Z.2.2.2.2.1 a = 0 := fun q => h1 (((fm_sort _ w1).1).mpr q)
        refine fr_aload hB dX8_shift_35 rfl ?_
        refine fr_getI hB dX8_shift_37 lf_X8_305 htb.o rfl ?_
        rw [m1]
        refine fr_iconst (v := -1) hB dX8_shift_40 (by decide) ?_
        refine fr_icmp_ne (tgt := 47) hB dX8_shift_41 (by decide) (fun h2 => ?_) (fun h2 => ?_)
        · have hs2 : ¬ Z.2.2.2.2.1 b = 0 := fun q => h2 (((fm_sort _ v1).1).mpr q)
          have hor : ¬ (Z.2.2.2.2.1 a = 0 ∨ Z.2.2.2.2.1 b = 0) := fun q => q.elim hs hs2
          refine fr_aload hB dX8_shift_47 rfl ?_
          refine fr_getI hB dX8_shift_49 lf_X8_305 hta.o rfl ?_
          rw [k1]
          refine fr_aload hB dX8_shift_52 rfl ?_
          refine fr_getI hB dX8_shift_54 lf_X8_305 htb.o rfl ?_
          rw [m1]
          refine fr_icmp_eq (tgt := 63) hB dX8_shift_57 (by decide) (fun h3 => ?_) (fun h3 => ?_)
          · have h3 := (fm_sort2 _ w1 _ v1).mp h3
            refine fr_aload hB dX8_shift_63 rfl ?_
            refine fr_iload_n hB dX8_shift_65 rfl rfl ?_
            refine fr_iload hB dX8_shift_66 rfl ?_
            refine fr_callV hB _ _ dX8_shift_68 lm_X8_334 hta.o (ct_X7_hasRun hta k2 w2) rfl rfl (Nat.le_of_ble_eq_true rfl) (fm_room hR (by decide) (by decide)) ?_
            rintro _ M9 ⟨rfl, hM9⟩
            rw [hM9]
            clear hM9 M9
            refine fr_ret1 ?_
            refine fr_if_eqB (tgt := 86) hB dX8_shift_71 (by decide) (fun h4 => ?_) (fun h4 => ?_)
            · have e : sp_shift Z (nI a) i (nI b) j n = (-13, Z) := by rw [sp_shift, if_pos ⟨ht, hu⟩, ea, eb, if_neg hor, if_pos h3, if_neg (fun q => by rw [h4] at q; cases q.1)]
              refine fr_bipush (v := -13) hB dX8_shift_86 (by decide) ?_
              exact fr_ireturn hB dX8_shift_88 (⟨by rw [e], by rw [e]; exact hc⟩)
            · refine fr_aload hB dX8_shift_74 rfl ?_
              refine fr_iload hB dX8_shift_76 rfl ?_
              refine fr_iload hB dX8_shift_78 rfl ?_
              refine fr_callV hB _ _ dX8_shift_80 lm_X8_334 htb.o (ct_X7_hasRun htb m2 v2) rfl rfl (Nat.le_of_ble_eq_true rfl) (fm_room hR (by decide) (by decide)) ?_
              rintro _ M9 ⟨rfl, hM9⟩
              rw [hM9]
              clear hM9 M9
              refine fr_ret1 ?_
              refine fr_if_neB (tgt := 89) hB dX8_shift_83 (by decide) (fun h5 => ?_) (fun h5 => ?_)
              · have e : sp_shift Z (nI a) i (nI b) j n = (n, (Z.1, Z.2.1, Z.2.2.1, Z.2.2.2.1, Z.2.2.2.2.1, Z.2.2.2.2.2.1, fm_row Z.2.2.2.2.2.2 b (va_cpy (Z.2.2.2.2.2.2 a) (Z.2.2.2.2.2.2 b) i.toNatClampNeg j.toNatClampNeg n.toNatClampNeg))) := by rw [sp_shift, if_pos ⟨ht, hu⟩, ea, eb, if_neg hor, if_pos h3, if_pos ⟨h4, h5⟩]
                have g4 : (¬ i < 0 ∧ ¬ n < 0 ∧ i.toNatClampNeg + n.toNatClampNeg ≤ Z.2.2.2.2.2.1 a) := by simpa [fm_run, and_assoc, Int32.not_lt] using h4
                have g5 : (¬ j < 0 ∧ ¬ n < 0 ∧ j.toNatClampNeg + n.toNatClampNeg ≤ Z.2.2.2.2.2.1 b) := by simpa [fm_run, and_assoc, Int32.not_lt] using h5
                obtain ⟨x, hx, rfl⟩ := nI_of g4.1
                obtain ⟨y, hy, rfl⟩ := nI_of g5.1
                obtain ⟨z, hz, rfl⟩ := nI_of g4.2.1
                have b4 := g4.2.2
                have b5 := g5.2.2
                rw [nI_clamp hx, nI_clamp hz] at b4
                rw [nI_clamp hy, nI_clamp hz] at b5
                rw [nI_clamp hx, nI_clamp hy, nI_clamp hz] at e
                refine fr_aload hB dX8_shift_89 rfl ?_
                refine fr_getR hB dX8_shift_91 lf_X8_312 hta.o rfl ?_
                refine fr_iload_n hB dX8_shift_94 rfl rfl ?_
                refine fr_aload hB dX8_shift_95 rfl ?_
                refine fr_getR hB dX8_shift_97 lf_X8_312 htb.o rfl ?_
                refine fr_iload hB dX8_shift_100 rfl ?_
                refine fr_iload hB dX8_shift_102 rfl ?_
                refine fr_copyl hB (x) (y) (z) dX8_shift_104 la_X8_338 hta.a1 htb.a1 rfl rfl rfl (by omega) (by omega) (by decide) (by decide) (Nat.le_of_ble_eq_true rfl) (fm_roomC hR (by decide)) ?_
                refine fr_iload hB dX8_shift_107 rfl ?_
                refine fr_ireturn hB dX8_shift_109 ⟨by rw [e], ?_⟩
                rw [e]
                refine hc.tp (fun b hb => rfl) (fun q hq => ?_)
                obtain ⟨q1, q2, q3⟩ := hc.2.2.2 q hq
                refine ⟨q1, q2, fun p hp => ?_⟩
                show fm_row M.2 (69 + 2 * b + 1) (va_cpy (M.2 (69 + 2 * a + 1)) (M.2 (69 + 2 * b + 1)) x y z) (69 + 2 * q + 1) p = fm_row Z.2.2.2.2.2.2 b (va_cpy (Z.2.2.2.2.2.2 a) (Z.2.2.2.2.2.2 b) x y z) q p
                by_cases eq : q = b
                · subst eq
                  rw [fm_row_same, fm_row_same]
                  unfold va_cpy
                  by_cases ec : y ≤ p ∧ p < y + z
                  · rw [if_pos ec, if_pos ec]; exact k3 _ (by omega)
                  · rw [if_neg ec, if_neg ec]; exact m3 p hp
                · rw [fm_row_ne _ _ (by omega), fm_row_ne _ _ eq]
                  exact q3 p hp
              · have e : sp_shift Z (nI a) i (nI b) j n = (-13, Z) := by rw [sp_shift, if_pos ⟨ht, hu⟩, ea, eb, if_neg hor, if_pos h3, if_neg (fun q => by rw [h5] at q; cases q.2)]
                refine fr_bipush (v := -13) hB dX8_shift_86 (by decide) ?_
                exact fr_ireturn hB dX8_shift_88 (⟨by rw [e], by rw [e]; exact hc⟩)
          · have h3 : ¬ Z.2.2.2.2.1 a = Z.2.2.2.2.1 b := fun q => h3 ((fm_sort2 _ w1 _ v1).mpr q)
            have e : sp_shift Z (nI a) i (nI b) j n = (-12, Z) := by rw [sp_shift, if_pos ⟨ht, hu⟩, ea, eb, if_neg hor, if_neg h3]
            refine fr_bipush (v := -12) hB dX8_shift_60 (by decide) ?_
            exact fr_ireturn hB dX8_shift_62 (⟨by rw [e], by rw [e]; exact hc⟩)
        · have hs2 : Z.2.2.2.2.1 b = 0 := ((fm_sort _ v1).1).mp (Decidable.not_not.mp h2)
          have e : sp_shift Z (nI a) i (nI b) j n = (-11, Z) := by rw [sp_shift, if_pos ⟨ht, hu⟩, ea, eb, if_pos (Or.inr hs2)]
          refine fr_bipush (v := -11) hB dX8_shift_44 (by decide) ?_
          exact fr_ireturn hB dX8_shift_46 (⟨by rw [e], by rw [e]; exact hc⟩)
