/-! ===== FaultGraph: fits, after, sift (questions put to the trial plant) ===== -/
theorem fm_u_u {α : Type} (f : Nat → Nat → α) (k j : Nat) (v w : α) : fm_u (fm_u f k j v) k j w = fm_u f k j w := by
  funext a b
  simp only [fm_u_at]
  split <;> rfl
theorem fm_PR.u_kind {k : Nat} {P : fm_P} {M : fm_M} (h : fm_PR k P M) {i v : Nat} : fm_PR k (fm_u P 4 i v) (fm_pi M (k + 3) i (nI v)) := by
  obtain ⟨hparts, hodds, horder, hgates, hkind, hneed, hcnt, hinp, htop, hcauses, hcodds, hcbits⟩ := h
  refine ⟨?_, ?_, ?_, ?_, ?_, ?_, ?_, ?_, ?_, ?_, ?_, ?_⟩
  · simpa [fm_u_at] using hparts
  · intro j hj; simpa [fm_u_at] using hodds j hj
  · intro j hj; simpa [fm_u_at] using horder j hj
  · simpa [fm_u_at] using hgates
  · intro j hj
    by_cases e : j = i
    · simp [fm_u_at, e]
    · simpa [fm_u_at, e] using hkind j hj
  · intro j hj; simpa [fm_u_at] using hneed j hj
  · intro j hj; simpa [fm_u_at] using hcnt j hj
  · intro j hj; simpa [fm_u_at] using hinp j hj
  · simpa [fm_u_at] using htop
  · simpa [fm_u_at] using hcauses
  · intro j hj; simpa [fm_u_at] using hcodds j hj
  · intro j hj; simpa [fm_u_at] using hcbits j hj
theorem fm_PR.u_need {k : Nat} {P : fm_P} {M : fm_M} (h : fm_PR k P M) {i v : Nat} : fm_PR k (fm_u P 5 i v) (fm_pi M (k + 4) i (nI v)) := by
  obtain ⟨hparts, hodds, horder, hgates, hkind, hneed, hcnt, hinp, htop, hcauses, hcodds, hcbits⟩ := h
  refine ⟨?_, ?_, ?_, ?_, ?_, ?_, ?_, ?_, ?_, ?_, ?_, ?_⟩
  · simpa [fm_u_at] using hparts
  · intro j hj; simpa [fm_u_at] using hodds j hj
  · intro j hj; simpa [fm_u_at] using horder j hj
  · simpa [fm_u_at] using hgates
  · intro j hj; simpa [fm_u_at] using hkind j hj
  · intro j hj
    by_cases e : j = i
    · simp [fm_u_at, e]
    · simpa [fm_u_at, e] using hneed j hj
  · intro j hj; simpa [fm_u_at] using hcnt j hj
  · intro j hj; simpa [fm_u_at] using hinp j hj
  · simpa [fm_u_at] using htop
  · simpa [fm_u_at] using hcauses
  · intro j hj; simpa [fm_u_at] using hcodds j hj
  · intro j hj; simpa [fm_u_at] using hcbits j hj
theorem fm_PR.u_odds {k : Nat} {P : fm_P} {M : fm_M} (h : fm_PR k P M) {i v : Nat} : fm_PR k (fm_u P 1 i v) (fm_pi M (k + 1) i (nI v)) := by
  obtain ⟨hparts, hodds, horder, hgates, hkind, hneed, hcnt, hinp, htop, hcauses, hcodds, hcbits⟩ := h
  refine ⟨?_, ?_, ?_, ?_, ?_, ?_, ?_, ?_, ?_, ?_, ?_, ?_⟩
  · simpa [fm_u_at] using hparts
  · intro j hj
    by_cases e : j = i
    · simp [fm_u_at, e]
    · simpa [fm_u_at, e] using hodds j hj
  · intro j hj; simpa [fm_u_at] using horder j hj
  · simpa [fm_u_at] using hgates
  · intro j hj; simpa [fm_u_at] using hkind j hj
  · intro j hj; simpa [fm_u_at] using hneed j hj
  · intro j hj; simpa [fm_u_at] using hcnt j hj
  · intro j hj; simpa [fm_u_at] using hinp j hj
  · simpa [fm_u_at] using htop
  · simpa [fm_u_at] using hcauses
  · intro j hj; simpa [fm_u_at] using hcodds j hj
  · intro j hj; simpa [fm_u_at] using hcbits j hj
theorem fm_wf.u_kind {P : fm_P} (h : fm_wf P) {i v : Nat} (hv : v ≤ 2) : fm_wf (fm_u P 4 i v) := by
  obtain ⟨a1, a2, a3, a4, a5, a6, a7, a8, a9, b1, b2, b3⟩ := h
  refine ⟨a1, a2, a3, a4, a5, fun g => ?_, a7, a8, a9, b1, b2, b3⟩
  rw [fm_u_at]
  split
  · exact hv
  · exact a6 g
theorem fm_wf.u_need {P : fm_P} (h : fm_wf P) {i v : Nat} (hv : v ≤ 5) : fm_wf (fm_u P 5 i v) := by
  obtain ⟨a1, a2, a3, a4, a5, a6, a7, a8, a9, b1, b2, b3⟩ := h
  refine ⟨a1, a2, a3, a4, a5, a6, fun g => ?_, a8, a9, b1, b2, b3⟩
  rw [fm_u_at]
  split
  · exact hv
  · exact a7 g
theorem fm_wf.u_odds {P : fm_P} (h : fm_wf P) {i v : Nat} (hv : v ≤ 100) : fm_wf (fm_u P 1 i v) := by
  obtain ⟨a1, a2, a3, a4, a5, a6, a7, a8, a9, b1, b2, b3⟩ := h
  refine ⟨a1, a2, a3, a4, fun g => ?_, a6, a7, a8, a9, b1, b2, b3⟩
  rw [fm_u_at]
  split
  · exact hv
  · exact a5 g
/-- where the item at j came from -/
def fm_sg (a b j : Nat) : Nat := if j = b then a else if a ≤ j ∧ j < b then j + 1 else if b < j ∧ j ≤ a then j - 1 else j
theorem fm_mv_sg {α : Type} (f : Nat → α) (a b j : Nat) : fm_mv f a b j = f (fm_sg a b j) := by
  unfold fm_mv fm_sg
  split
  · rfl
  · split
    · rfl
    · split <;> rfl
theorem fm_sg_lt {n a b j : Nat} (ha : a < n) (hb : b < n) (hj : j < n) : fm_sg a b j < n := by
  unfold fm_sg
  split
  · exact ha
  · split
    · omega
    · split <;> omega
theorem fm_sg_inj {a b i j : Nat} (h : fm_sg a b i = fm_sg a b j) : i = j := by
  unfold fm_sg at h
  split at h <;> split at h
  all_goals first
    | omega
    | (split at h <;> first
        | omega
        | (split at h <;> first
            | omega
            | (split at h <;> first
                | omega
                | (split at h <;> omega))))
theorem fm_sg_sg {a b j : Nat} : fm_sg a b (fm_sg b a j) = j := by
  unfold fm_sg
  by_cases e1 : j = a
  · rw [if_pos e1, if_pos rfl, e1]
  · rw [if_neg e1]
    by_cases e2 : b ≤ j ∧ j < a
    · rw [if_pos e2, if_neg (by omega), if_neg (by omega), if_pos (by omega)]; omega
    · rw [if_neg e2]
      by_cases e3 : a < j ∧ j ≤ b
      · rw [if_pos e3, if_neg (by omega), if_pos (by omega)]; omega
      · rw [if_neg e3, if_neg (by omega), if_neg (by omega), if_neg (by omega)]
theorem fm_ord.mv {n : Nat} {f : Nat → Nat} (h : fm_ord n f) {a b : Nat} (ha : a < n) (hb : b < n) : fm_ord n (fm_mv f a b) := by
  refine ⟨fun j hj => ?_, fun i j hi hj e => ?_, fun x hx => ?_⟩
  · rw [fm_mv_sg]; exact h.1 _ (fm_sg_lt ha hb hj)
  · rw [fm_mv_sg, fm_mv_sg] at e
    exact fm_sg_inj (h.2.1 _ _ (fm_sg_lt ha hb hi) (fm_sg_lt ha hb hj) e)
  · obtain ⟨j, hj, e⟩ := h.2.2 x hx
    exact ⟨fm_sg b a j, fm_sg_lt hb ha hj, by rw [fm_mv_sg, fm_sg_sg]; exact e⟩
theorem fm_wf.mv {P : fm_P} (h : fm_wf P) {a b : Nat} (ha : a < P 0 0) (hb : b < P 0 0) : fm_wf (sp_mv P a b) := by
  obtain ⟨a1, a2, a3, a4, a5, a6, a7, a8, a9, b1, b2, b3⟩ := h
  refine ⟨a1, a2, a3, a4, a5, a6, a7, a8, a9, ?_, b2, b3⟩
  show fm_ord (P 0 0) (fm_mv (P 2) (fm_pos (P 2) a) b)
  exact b1.mv (b1.pos a1 ha).1 hb
theorem fm_down_row2 (P : fm_P) (f : Nat → Nat) (g s : Nat) : fm_down (fm_row P 2 f) g s = fm_down P g s := by
  have : ∀ n, fm_dn (fm_row P 2 f) s n = fm_dn P s n := by
    intro n
    induction n with
    | zero => rfl
    | succ n ih =>
      funext q
      show (if q = n then fm_by (fm_row P 2 f) n (fm_cnt (fun i => fm_in1 (fm_dn (fm_row P 2 f) s n) s (fm_row P 2 f 7 (4 * n + i))) (fm_row P 2 f 6 n)) else fm_dn (fm_row P 2 f) s n q) = _
      rw [ih]
      rfl
  unfold fm_down
  rw [this]
theorem fm_TT_row2 (P : fm_P) (f : Nat → Nat) : fm_TT (fm_row P 2 f) = fm_TT P := by
  unfold fm_TT
  have : fm_down (fm_row P 2 f) (fm_tg (fm_row P 2 f)) = fm_down P (fm_tg P) := by
    funext s
    exact fm_down_row2 P f _ s
  rw [this]
/-- numbers by which it goes as seen, from the greatest on: how many, the least -/
def fm_ftl (q : Nat → Bool) : Nat → Nat → Int32 → Nat × Int32
  | 0, m, l => (m, l)
  | d + 1, m, l => if q d then fm_ftl q d (m + 1) (nI d) else fm_ftl q d m l
def sp_fq (P : fm_P) (g k : Nat) : Bool := fm_asn P (fm_TT (fm_u (fm_u P 4 g 2) 5 g k))
def sp_fits (P : fm_P) (g w : Int32) : Int32 := if fm_lt g (P 3 0) = true ∧ fm_lt w 2 = true then (if w = nI 0 then nI (fm_ftl (sp_fq P g.toNatClampNeg) 6 0 (-5)).1 else (fm_ftl (sp_fq P g.toNatClampNeg) 6 0 (-5)).2) else -1
theorem fm_tr_fr {M M' : fm_M} (h1 : ∀ a, a < 43 ∨ 53 < a → M'.1 a = M.1 a) (h2 : M'.2 = M.2) : fm_fr M M' := ⟨fun a ha => h1 a (Or.inl ha), by rw [h1 63 (by omega)], fun a ha => h1 a (by omega), fun a _ => by rw [h2]⟩
theorem fm_fr.pi {M : fm_M} {a j : Nat} {v : Int32} (h1 : 43 ≤ a) (h2 : a < 54) : fm_fr M (fm_pi M a j v) := fm_tr_fr (fun b hb => fm_u_ne _ _ _ (by omega)) rfl
theorem cc_fits {E : fm_E} {g w : Int32} {Z : fm_Z} {M : fm_M} (hc : fm_CR Z M) (hw : fm_WZ Z) : fm_C shC E mX8_fits 5 [.ref (E.2.1 0), .int g, .int w] M (fun r M' => r = some (.int (sp_fits Z.1 g w)) ∧ fm_fr M M') := by
  have h8 := hw.1.1.g8
  refine fm_C.of (by decide +kernel) (Nat.le_of_ble_eq_true rfl) ?_
  intro X hE hR hB
  subst hE
  have hB : fm_B _ X cX8_fits 6 RX8 (some .int) := hB
  refine fr_lv [some (.ref (fm_rh X 0)), some (.int g), some (.int w), none, none, none] ⟨rfl, rfl, rfl, trivial⟩ ?_
  refine fr_aload_n hB dX8_fits_0 rfl rfl ?_
  refine fr_getR hB dX8_fits_1 lf_X8_14 rfl rfl ?_
  refine fr_getR hB dX8_fits_4 lf_X8_67 rfl rfl ?_
  refine fr_iload_n hB dX8_fits_7 rfl rfl ?_
  refine fr_callV hB _ _ dX8_fits_8 lm_X8_84 rfl (ct_X3_hasGate shC_Pl2 hc.1.pl.gates) rfl rfl (Nat.le_of_ble_eq_true rfl) (fm_room hR (by decide) (by decide)) ?_
  rintro _ M9 ⟨rfl, hM9⟩
  rw [hM9]
  clear hM9 M9
  refine fr_ret1 ?_
  refine fr_if_eqB (tgt := 23) hB dX8_fits_11 (by decide) (fun h => ?_) (fun h => ?_)
  · refine fr_iconst (v := -1) hB dX8_fits_23 (by decide) ?_
    exact fr_ireturn hB dX8_fits_24 (⟨by rw [sp_fits, if_neg (fun q => by rw [h] at q; cases q.1)], fm_fr.rf M⟩)
  · obtain ⟨a, ha, rfl⟩ := fm_lt_of (by omega) h
    have ea : (nI a).toNatClampNeg = a := nI_clamp (by omega)
    refine fr_iload_n hB dX8_fits_14 rfl rfl ?_
    refine fr_if_lt (tgt := 23) hB dX8_fits_15 (by decide) (fun h1 => ?_) (fun h1 => ?_)
    · refine fr_iconst (v := -1) hB dX8_fits_23 (by decide) ?_
      exact fr_ireturn hB dX8_fits_24 (⟨by rw [sp_fits, if_neg (fun q => by rw [fm_lt_neg _ h1] at q; cases q.2)], fm_fr.rf M⟩)
    · obtain ⟨b, hb, rfl⟩ := nI_of h1
      refine fr_iload_n hB dX8_fits_18 rfl rfl ?_
      refine fr_iconst (v := nI 1) hB dX8_fits_19 (by decide) ?_
      refine fr_icmp_leN (tgt := 25) hB dX8_fits_20 (by decide) (by omega) (by omega) (fun h2 => ?_) (fun h2 => ?_)
      · have hl : fm_lt (nI b) 2 = true := by rw [fm_lt_nat hb (by omega)]; simp; omega
        have e : sp_fits Z.1 (nI a) (nI b) = (if b = 0 then nI (fm_ftl (sp_fq Z.1 a) 6 0 (-5)).1 else (fm_ftl (sp_fq Z.1 a) 6 0 (-5)).2) := by
          rw [sp_fits, if_pos ⟨h, hl⟩, ea]
          rcases (show b = 0 ∨ b = 1 by omega) with rfl | rfl
          · rfl
          · rfl
        rw [e]
        have l1 : ∀ (d m v : Nat) (l : Int32) (M1 : fm_M), d ≤ 6 → fm_fr M M1 → fm_PR 43 (fm_u (fm_u Z.1 4 a 2) 5 a v) M1 → fm_W shC X 6 58 [some (.ref (fm_rh X 0)), some (.int (nI a)), some (.int (nI b)), some (.int (nI m)), some (.int l), some (.int (nI d - 1))] [] M1 (fm_Q shC X (fun r M' => r = some (.int (if b = 0 then nI (fm_ftl (sp_fq Z.1 a) d m l).1 else (fm_ftl (sp_fq Z.1 a) d m l).2)) ∧ fm_fr M M')) := by
          intro d
          induction d with
          | zero =>
            intro m v l M1 _ hf hr
            refine fr_iload hB dX8_fits_58 rfl ?_
            refine fr_if_lt (tgt := 101) hB dX8_fits_60 (by decide) (fun h5 => ?_) (fun h5 => ?_)
            · refine fr_iload_n hB dX8_fits_101 rfl rfl ?_
              refine fr_if_neN (tgt := 109) hB dX8_fits_102 (by decide) (by omega) (fun h6 => ?_) (fun h6 => ?_)
              · refine fr_iload hB dX8_fits_109 rfl ?_
                exact fr_ireturn hB dX8_fits_111 (⟨by rw [if_neg (by omega)]; rfl, hf⟩)
              · refine fr_iload_n hB dX8_fits_105 rfl rfl ?_
                refine fr_goto (tgt := 111) hB dX8_fits_106 (by decide) ?_
                exact fr_ireturn hB dX8_fits_111 (⟨by rw [if_pos (by omega)]; rfl, hf⟩)
            · exact absurd (by decide) h5
          | succ d ih =>
            intro m v l M1 hd hf hr
            rw [nI_p1]
            refine fr_iload hB dX8_fits_58 rfl ?_
            refine fr_if_ltN (tgt := 101) hB dX8_fits_60 (by decide) (by omega) ?_
            have hr2 := hr.u_need (i := a) (v := d)
            rw [fm_u_u] at hr2
            have hf2 : fm_fr M (fm_pi M1 (43 + 4) a (nI d)) := hf.tr (fm_fr.pi (by omega) (by omega))
            refine fr_aload_n hB dX8_fits_63 rfl rfl ?_
            refine fr_getR hB dX8_fits_64 lf_X8_24 rfl rfl ?_
            refine fr_getR hB dX8_fits_67 lf_X8_91 rfl rfl ?_
            refine fr_iload_n hB dX8_fits_70 rfl rfl ?_
            refine fr_iload hB dX8_fits_71 rfl ?_
            refine fr_iast hB (_) dX8_fits_73 rfl (rfl) (by omega) (by decide) ?_
            refine fr_aload_n hB dX8_fits_74 rfl rfl ?_
            refine fr_aload_n hB dX8_fits_75 rfl rfl ?_
            refine fr_getR hB dX8_fits_76 lf_X8_24 rfl rfl ?_
            refine fr_callV hB _ _ dX8_fits_79 lm_X8_200 rfl (ct_X3_topTable shC_Pl43 hr2 ((hw.1.1.u_kind (by omega)).u_need (by omega)) (show 0 < Z.1 3 0 by omega)) rfl rfl (Nat.le_of_ble_eq_true rfl) (fm_room hR (by decide) (by decide)) ?_
            rintro _ _ ⟨rfl, L, rfl, hL⟩
            refine fr_ret1 ?_
            have hf3 : fm_fr M (fm_u M1.1 (43 + 4) a (nI d), L) := hf2.tr (fm_fr.L (fun q hq => hL q (by omega) (by omega)))
            refine fr_callV hB _ _ dX8_fits_82 lm_X8_278 rfl (cc_isAsSeen (hc.fr hf3).1 hw.1) rfl rfl (Nat.le_of_ble_eq_true rfl) (fm_room hR (by decide) (by decide)) ?_
            rintro _ M9 ⟨rfl, hM9⟩
            rw [hM9]
            clear hM9 M9
            refine fr_ret1 ?_
            refine fr_if_eqB (tgt := 95) hB dX8_fits_85 (by decide) (fun h6 => ?_) (fun h6 => ?_)
            · refine fr_iinc (v := nI d - 1) hB dX8_fits_95 rfl (nI_m1 d) (by decide) rfl ?_
              refine fr_goto (tgt := 58) hB dX8_fits_98 (by decide) ?_
              have e2 : fm_ftl (sp_fq Z.1 a) (d + 1) m l = fm_ftl (sp_fq Z.1 a) d m l := by
                show (if sp_fq Z.1 a d = true then _ else _) = _
                rw [if_neg (fun q => by rw [show sp_fq Z.1 a d = false from h6] at q; cases q)]
              rw [e2]
              exact ih m d l _ (by omega) hf3 hr2
            · refine fr_iincN (b := 1) hB dX8_fits_88 rfl (by decide) (by decide) rfl ?_
              refine fr_iload hB dX8_fits_91 rfl ?_
              refine fr_istore hB dX8_fits_93 (by decide) rfl ?_
              refine fr_iinc (v := nI d - 1) hB dX8_fits_95 rfl (nI_m1 d) (by decide) rfl ?_
              refine fr_goto (tgt := 58) hB dX8_fits_98 (by decide) ?_
              have e2 : fm_ftl (sp_fq Z.1 a) (d + 1) m l = fm_ftl (sp_fq Z.1 a) d (m + 1) (nI d) := by
                show (if sp_fq Z.1 a d = true then _ else _) = _
                rw [if_pos (show sp_fq Z.1 a d = true from h6)]
              rw [e2]
              exact ih (m + 1) d (nI d) _ (by omega) hf3 hr2
        refine fr_iconst (v := nI 0) hB dX8_fits_25 (by decide) ?_
        refine fr_istore_n hB dX8_fits_26 rfl (by decide) rfl ?_
        refine fr_bipush (v := -5) hB dX8_fits_27 (by decide) ?_
        refine fr_istore hB dX8_fits_29 (by decide) rfl ?_
        refine fr_aload_n hB dX8_fits_31 rfl rfl ?_
        refine fr_getR hB dX8_fits_32 lf_X8_24 rfl rfl ?_
        refine fr_aload_n hB dX8_fits_35 rfl rfl ?_
        refine fr_getR hB dX8_fits_36 lf_X8_14 rfl rfl ?_
        refine fr_getR hB dX8_fits_39 lf_X8_67 rfl rfl ?_
        refine fr_callV hB _ _ dX8_fits_42 lm_X8_196 rfl (ct_X3_copyFrom_43_2 hc.1.pl) rfl rfl (Nat.le_of_ble_eq_true rfl) (fm_room hR (by decide) (by decide)) ?_
        rintro _ _ ⟨rfl, hr9, he9, hl9⟩
        refine fr_ret0 ?_
        refine fr_aload_n hB dX8_fits_45 rfl rfl ?_
        refine fr_getR hB dX8_fits_46 lf_X8_24 rfl rfl ?_
        refine fr_getR hB dX8_fits_49 lf_X8_87 rfl rfl ?_
        refine fr_iload_n hB dX8_fits_52 rfl rfl ?_
        refine fr_iconst (v := nI 2) hB dX8_fits_53 (by decide) ?_
        refine fr_iast hB (_) dX8_fits_54 rfl (rfl) (by omega) (by decide) ?_
        have hf1 := fm_tr_fr he9 hl9
        have hr1 := hr9.u_kind (i := a) (v := 2)
        have hr3 := hr1
        rw [show fm_u Z.1 4 a 2 = fm_u (fm_u Z.1 4 a 2) 5 a (Z.1 5 a) from by
          funext q1 q2
          simp only [fm_u_at]
          by_cases e1 : q1 = 5 ∧ q2 = a
          · rw [if_pos e1, e1.1, e1.2]; simp
          · rw [if_neg e1]] at hr3
        refine fr_iconst (v := nI 5) hB dX8_fits_55 (by decide) ?_
        refine fr_istore hB dX8_fits_56 (by decide) rfl ?_
        exact l1 6 0 (Z.1 5 a) (-5) _ (by omega) (hf1.tr (fm_fr.pi (a := 46) (by omega) (by omega))) hr3
      · have hl : fm_lt (nI b) 2 = false := by rw [fm_lt_nat hb (by omega)]; simp; omega
        refine fr_iconst (v := -1) hB dX8_fits_23 (by decide) ?_
        exact fr_ireturn hB dX8_fits_24 (⟨by rw [sp_fits, if_neg (fun q => by rw [hl] at q; cases q.2)], fm_fr.rf M⟩)
/-- a plant after an event -/
def sp_ev (Q : fm_P) (w n : Nat) : fm_P := if w = 0 then fm_u Q 1 n 0 else if w = 1 then fm_u Q 1 n 100 else if w = 2 then fm_u Q 4 n 0 else fm_u Q 4 n 1
/-- after the first i events that P has -/
def fm_evs (P : fm_P) : Nat → fm_P
  | 0 => P
  | i + 1 => sp_ev (fm_evs P i) (P 16 i) (P 17 i)
theorem sp_ev_ne (Q : fm_P) (w n a : Nat) (h1 : a ≠ 1) (h4 : a ≠ 4) : sp_ev Q w n a = Q a := by
  unfold sp_ev
  split
  · exact fm_u_ne _ _ _ h1
  · split
    · exact fm_u_ne _ _ _ h1
    · split
      · exact fm_u_ne _ _ _ h4
      · exact fm_u_ne _ _ _ h4
theorem fm_evs_ne (P : fm_P) (a : Nat) (h1 : a ≠ 1) (h4 : a ≠ 4) : ∀ i, fm_evs P i a = P a := by
  intro i
  induction i with
  | zero => rfl
  | succ i ih =>
    show sp_ev (fm_evs P i) (P 16 i) (P 17 i) a = P a
    rw [sp_ev_ne _ _ _ _ h1 h4, ih]
theorem fm_wf.ev {Q : fm_P} (h : fm_wf Q) (w n : Nat) : fm_wf (sp_ev Q w n) := by
  unfold sp_ev
  split
  · exact h.u_odds (by omega)
  · split
    · exact h.u_odds (by omega)
    · split
      · exact h.u_kind (by omega)
      · exact h.u_kind (by omega)
theorem fm_wf.evs {P : fm_P} (h : fm_wf P) : ∀ i, fm_wf (fm_evs P i) := by
  intro i
  induction i with
  | zero => exact h
  | succ i ih => exact ih.ev _ _
theorem fm_PR.ev {k : Nat} {Q : fm_P} {M : fm_M} (h : fm_PR k Q M) {w n : Nat} : fm_PR k (sp_ev Q w n) (fm_ev M k w n) := by
  unfold sp_ev fm_ev
  split
  · exact h.u_odds
  · split
    · exact h.u_odds
    · split
      · exact h.u_kind
      · exact h.u_kind
theorem fm_fr.ev {M : fm_M} {w n : Nat} : fm_fr M (fm_ev M 43 w n) := by
  unfold fm_ev
  split
  · exact fm_fr.pi (by omega) (by omega)
  · split
    · exact fm_fr.pi (by omega) (by omega)
    · split
      · exact fm_fr.pi (by omega) (by omega)
      · exact fm_fr.pi (by omega) (by omega)
def sp_aft (Q : fm_P) (w : Int32) : Int32 := if w = nI 0 then nI (fm_LS (fm_TT Q) (Q 0 0)).1 else if w = nI 1 then nI (fm_DG Q (fm_TT Q) fm_G0).2.1 else if w = nI 2 then fm_ib (fm_bit (fm_TT Q) 0) else fm_most Q (fm_TT Q)
def sp_after (P : fm_P) (w : Int32) : Int32 := if fm_lt w 4 then (if P 3 0 = 0 then -3 else sp_aft (fm_evs P (P 15 0)) w) else -1
theorem cc_after {E : fm_E} {w : Int32} {Z : fm_Z} {M : fm_M} (hc : fm_CR Z M) (hw : fm_WZ Z) : fm_C shC E mX8_after 10 [.ref (E.2.1 0), .int w] M (fun r M' => r = some (.int (sp_after Z.1 w)) ∧ fm_fr M M') := by
  have h8 := hw.1.1.g8
  have h6 := hw.1.1.p6
  have hr8 := hw.1.2.2.1
  have hre := hw.1.2.2.2.2.2.1
  refine fm_C.of (by decide +kernel) (Nat.le_of_ble_eq_true rfl) ?_
  intro X hE hR hB
  subst hE
  have hB : fm_B _ X cX8_after 4 RX8 (some .int) := hB
  refine fr_lv [some (.ref (fm_rh X 0)), some (.int w), none, none] ⟨rfl, rfl, trivial⟩ ?_
  refine fr_iload_n hB dX8_after_0 rfl rfl ?_
  refine fr_if_lt (tgt := 9) hB dX8_after_1 (by decide) (fun h => ?_) (fun h => ?_)
  · refine fr_iconst (v := -1) hB dX8_after_9 (by decide) ?_
    exact fr_ireturn hB dX8_after_10 (⟨by rw [sp_after, fm_lt_neg _ h]; rfl, fm_fr.rf M⟩)
  · obtain ⟨b, hb, rfl⟩ := nI_of h
    refine fr_iload_n hB dX8_after_4 rfl rfl ?_
    refine fr_iconst (v := nI 3) hB dX8_after_5 (by decide) ?_
    refine fr_icmp_leN (tgt := 11) hB dX8_after_6 (by decide) (by omega) (by omega) (fun h2 => ?_) (fun h2 => ?_)
    · have hl : fm_lt (nI b) 4 = true := by rw [fm_lt_nat hb (by omega)]; simp; omega
      refine fr_aload_n hB dX8_after_11 rfl rfl ?_
      refine fr_getR hB dX8_after_12 lf_X8_14 rfl rfl ?_
      refine fr_getR hB dX8_after_15 lf_X8_67 rfl rfl ?_
      refine fr_getI hB dX8_after_18 lf_X8_190 rfl rfl ?_
      refine fr_eqi _ (hc.1.pl.gates) ?_
      refine fr_if_neN (tgt := 27) hB dX8_after_21 (by decide) (by omega) (fun h3 => ?_) (fun h3 => ?_)
      · have e : sp_after Z.1 (nI b) = sp_aft (fm_evs Z.1 (Z.1 15 0)) (nI b) := by rw [sp_after, if_pos hl, if_neg (by omega)]
        rw [e]
        have l1 : ∀ (d i : Nat) (M1 : fm_M), i + d = Z.1 15 0 → fm_fr M M1 → fm_PR 43 (fm_evs Z.1 i) M1 → fm_W shC X 4 43 [some (.ref (fm_rh X 0)), some (.int (nI b)), some (.int (nI i)), none] [] M1 (fm_Q shC X (fun r M' => r = some (.int (sp_aft (fm_evs Z.1 (Z.1 15 0)) (nI b))) ∧ fm_fr M M')) := by
          intro d
          induction d with
          | zero =>
            intro i M1 hi hf hr
            have hi : i = Z.1 15 0 := by omega
            subst hi
            have hc2 := hc.fr hf
            have hwf := hw.1.1.evs (Z.1 15 0)
            have ep : fm_evs Z.1 (Z.1 15 0) 0 0 = Z.1 0 0 := by rw [fm_evs_ne Z.1 0 (by omega) (by omega)]
            have eg : fm_evs Z.1 (Z.1 15 0) 3 0 = Z.1 3 0 := by rw [fm_evs_ne Z.1 3 (by omega) (by omega)]
            generalize fm_evs Z.1 (Z.1 15 0) = Q at hr hwf ep eg ⊢
            refine fr_iload_n hB dX8_after_43 rfl rfl ?_
            refine fr_aload_n hB dX8_after_44 rfl rfl ?_
            refine fr_getR hB dX8_after_45 lf_X8_14 rfl rfl ?_
            refine fr_getR hB dX8_after_48 lf_X8_288 rfl rfl ?_
            refine fr_getI hB dX8_after_51 lf_X8_282 rfl rfl ?_
            refine fr_eqi _ (hc2.1.2.2.2.2.1) ?_
            refine fr_icmp_geN (tgt := 94) hB dX8_after_54 (by decide) (by omega) (by omega) (fun h4 => ?_) (fun h4 => ?_)
            · refine fr_aload_n hB dX8_after_94 rfl rfl ?_
              refine fr_getR hB dX8_after_95 lf_X8_24 rfl rfl ?_
              refine fr_callV hB _ _ dX8_after_98 lm_X8_200 rfl (ct_X3_topTable shC_Pl43 hr hwf (show 0 < Q 3 0 by omega)) rfl rfl (Nat.le_of_ble_eq_true rfl) (fm_room hR (by decide) (by decide)) ?_
              rintro _ _ ⟨rfl, L, rfl, hL⟩
              refine fr_ret1 ?_
              refine fr_lstore_n hB dX8_after_101 rfl (by decide) rfl ?_
              refine fr_iload_n hB dX8_after_102 rfl rfl ?_
              have hf3 := hf.tr (fm_fr.L (M := M1) (L := L) (fun q hq => hL q (by omega) (by omega)))
              have hrL := hr.l L
              rcases (show b = 0 ∨ b = 1 ∨ b = 2 ∨ b = 3 by omega) with rfl | rfl | rfl | rfl
              · have hsq := fm_lst_sq (fm_TT Q) (Q 0 0) (M1.1 60)
                refine fr_tableIn (tgt := 128) hB dX8_after_103 (by decide) (by decide) (by rfl) (by decide) ?_
                refine fr_aload_n hB dX8_after_128 rfl rfl ?_
                refine fr_getR hB dX8_after_129 lf_X8_38 rfl rfl ?_
                refine fr_lload_n hB dX8_after_132 rfl rfl ?_
                refine fr_aload_n hB dX8_after_133 rfl rfl ?_
                refine fr_getR hB dX8_after_134 lf_X8_24 rfl rfl ?_
                refine fr_getI hB dX8_after_137 lf_X8_204 rfl rfl ?_
                refine fr_eqi _ (hr.parts) ?_
                refine fr_callV hB _ _ dX8_after_140 lm_X8_223 rfl (ct_X2_listCuts (show Q 0 0 ≤ 6 by omega)) rfl rfl (Nat.le_of_ble_eq_true rfl) (fm_room hR (by decide) (by decide)) ?_
                rintro _ M9 ⟨rfl, hM9⟩
                rw [hM9]
                clear hM9 M9
                refine fr_ret1 ?_
                exact fr_ireturn hB dX8_after_143 (⟨by rw [sp_aft, if_pos rfl, ← hsq.1]; rfl, hf3.tr (fm_fr.sm _ _)⟩)
              · refine fr_tableIn (tgt := 144) hB dX8_after_103 (by decide) (by decide) (by rfl) (by decide) ?_
                refine fr_aload_n hB dX8_after_144 rfl rfl ?_
                refine fr_getR hB dX8_after_145 lf_X8_31 rfl rfl ?_
                refine fr_aload_n hB dX8_after_148 rfl rfl ?_
                refine fr_getR hB dX8_after_149 lf_X8_24 rfl rfl ?_
                refine fr_lload_n hB dX8_after_152 rfl rfl ?_
                refine fr_callV hB _ _ dX8_after_153 lm_X8_207 rfl (ct_X1_draw (by omega) shC_Pl43 hrL hwf) rfl rfl (Nat.le_of_ble_eq_true rfl) (fm_room hR (by decide) (by decide)) ?_
                rintro _ M9 ⟨rfl, hM9⟩
                rw [hM9]
                clear hM9 M9
                refine fr_ret1 ?_
                exact fr_ireturn hB dX8_after_156 (⟨by rw [sp_aft, if_neg (by decide), if_pos rfl, ← fm_DG_n Q (fm_TT Q) (L 55, M1.1 56, M1.1 57, M1.1 58)]; rfl, hf3.tr (fm_fr.gm _ _)⟩)
              · have e2 : sp_aft Q (nI 2) = fm_ib (fm_bit (fm_TT Q) 0) := by rw [sp_aft, if_neg (by decide), if_neg (by decide), if_pos rfl]
                refine fr_tableIn (tgt := 157) hB dX8_after_103 (by decide) (by decide) (by rfl) (by decide) ?_
                refine fr_lload_n hB dX8_after_157 rfl rfl ?_
                refine fr_iconst (v := nI 0) hB dX8_after_158 (by decide) ?_
                refine fr_callS hB _ _ dX8_after_159 lm_X8_180 (ct_X8_says (by omega)) rfl rfl (Nat.le_of_ble_eq_true rfl) (fm_room hR (by decide) (by decide)) ?_
                rintro _ M9 ⟨rfl, hM9⟩
                rw [hM9]
                clear hM9 M9
                refine fr_ret1 ?_
                refine fr_if_eqB (tgt := 169) hB dX8_after_162 (by decide) (fun h5 => ?_) (fun h5 => ?_)
                · refine fr_iconst (v := nI 0) hB dX8_after_169 (by decide) ?_
                  exact fr_ireturn hB dX8_after_170 (⟨by rw [e2, show fm_bit (fm_TT Q) 0 = false from h5]; rfl, hf3⟩)
                · refine fr_iconst (v := nI 1) hB dX8_after_165 (by decide) ?_
                  refine fr_goto (tgt := 170) hB dX8_after_166 (by decide) ?_
                  exact fr_ireturn hB dX8_after_170 (⟨by rw [e2, show fm_bit (fm_TT Q) 0 = true from h5]; rfl, hf3⟩)
              · refine fr_tableOut (tgt := 171) hB dX8_after_103 (by rw [nI_toInt (by omega)]; omega) (by decide) ?_
                refine fr_aload_n hB dX8_after_171 rfl rfl ?_
                refine fr_getR hB dX8_after_172 lf_X8_45 rfl rfl ?_
                refine fr_aload_n hB dX8_after_175 rfl rfl ?_
                refine fr_getR hB dX8_after_176 lf_X8_24 rfl rfl ?_
                refine fr_lload_n hB dX8_after_179 rfl rfl ?_
                refine fr_callV hB _ _ dX8_after_180 lm_X8_230 rfl (ct_X0_mostOf shC_Pl43 hrL hwf) rfl rfl (Nat.le_of_ble_eq_true rfl) (fm_room hR (by decide) (by decide)) ?_
                rintro _ _ ⟨rfl, L2, rfl⟩
                refine fr_ret1 ?_
                exact fr_ireturn hB dX8_after_183 (⟨by rw [sp_aft, if_neg (by decide), if_neg (by decide), if_neg (by decide)]; rfl, hf3.tr (fm_fr.ch _ _)⟩)
            · exact absurd h4 (by omega)
          | succ d ih =>
            intro i M1 hi hf hr
            have hc2 := hc.fr hf
            obtain ⟨w1, w2, w3⟩ := hre i (by omega)
            have ep : fm_evs Z.1 i 0 0 = Z.1 0 0 := by rw [fm_evs_ne Z.1 0 (by omega) (by omega)]
            have eg : fm_evs Z.1 i 3 0 = Z.1 3 0 := by rw [fm_evs_ne Z.1 3 (by omega) (by omega)]
            refine fr_iload_n hB dX8_after_43 rfl rfl ?_
            refine fr_aload_n hB dX8_after_44 rfl rfl ?_
            refine fr_getR hB dX8_after_45 lf_X8_14 rfl rfl ?_
            refine fr_getR hB dX8_after_48 lf_X8_288 rfl rfl ?_
            refine fr_getI hB dX8_after_51 lf_X8_282 rfl rfl ?_
            refine fr_eqi _ (hc2.1.2.2.2.2.1) ?_
            refine fr_icmp_geN (tgt := 94) hB dX8_after_54 (by decide) (by omega) (by omega) (fun h4 => ?_) (fun h4 => ?_)
            · exact absurd h4 (by omega)
            · refine fr_aload_n hB dX8_after_57 rfl rfl ?_
              refine fr_getR hB dX8_after_58 lf_X8_24 rfl rfl ?_
              refine fr_aload_n hB dX8_after_61 rfl rfl ?_
              refine fr_getR hB dX8_after_62 lf_X8_14 rfl rfl ?_
              refine fr_getR hB dX8_after_65 lf_X8_288 rfl rfl ?_
              refine fr_getR hB dX8_after_68 lf_X8_283 rfl rfl ?_
              refine fr_iload_n hB dX8_after_71 rfl rfl ?_
              refine fr_iald hB (_) dX8_after_72 rfl (rfl) (by omega) (by decide) ?_
              refine fr_eqi _ (hc2.1.2.2.2.2.2.1 i (by omega)) ?_
              refine fr_aload_n hB dX8_after_73 rfl rfl ?_
              refine fr_getR hB dX8_after_74 lf_X8_14 rfl rfl ?_
              refine fr_getR hB dX8_after_77 lf_X8_288 rfl rfl ?_
              refine fr_getR hB dX8_after_80 lf_X8_284 rfl rfl ?_
              refine fr_iload_n hB dX8_after_83 rfl rfl ?_
              refine fr_iald hB (_) dX8_after_84 rfl (rfl) (by omega) (by decide) ?_
              refine fr_eqi _ (hc2.1.2.2.2.2.2.2.1 i (by omega)) ?_
              refine fr_callV hB _ _ dX8_after_85 lm_X8_291 rfl (ct_X3_undergo shC_Pl43 (show Z.1 16 i < 4 by omega) (hr.parts.trans (congrArg nI ep)) (hr.gates.trans (congrArg nI eg)) h6 h8 ⟨w2, w3⟩) rfl rfl (Nat.le_of_ble_eq_true rfl) (fm_room hR (by decide) (by decide)) ?_
              rintro _ M9 ⟨rfl, hM9⟩
              rw [hM9]
              clear hM9 M9
              refine fr_ret0 ?_
              refine fr_iincN (b := 1) hB dX8_after_88 rfl (by decide) (by decide) rfl ?_
              refine fr_goto (tgt := 43) hB dX8_after_91 (by decide) ?_
              exact ih (i + 1) _ (by omega) (hf.tr fm_fr.ev) hr.ev
        refine fr_aload_n hB dX8_after_27 rfl rfl ?_
        refine fr_getR hB dX8_after_28 lf_X8_24 rfl rfl ?_
        refine fr_aload_n hB dX8_after_31 rfl rfl ?_
        refine fr_getR hB dX8_after_32 lf_X8_14 rfl rfl ?_
        refine fr_getR hB dX8_after_35 lf_X8_67 rfl rfl ?_
        refine fr_callV hB _ _ dX8_after_38 lm_X8_196 rfl (ct_X3_copyFrom_43_2 hc.1.pl) rfl rfl (Nat.le_of_ble_eq_true rfl) (fm_room hR (by decide) (by decide)) ?_
        rintro _ _ ⟨rfl, hr9, he9, hl9⟩
        refine fr_ret0 ?_
        refine fr_iconst (v := nI 0) hB dX8_after_41 (by decide) ?_
        refine fr_istore_n hB dX8_after_42 rfl (by decide) rfl ?_
        exact l1 (Z.1 15 0) 0 _ (by omega) (fm_tr_fr he9 hl9) hr9
      · refine fr_bipush (v := -3) hB dX8_after_24 (by decide) ?_
        exact fr_ireturn hB dX8_after_26 (⟨by rw [sp_after, if_pos hl, if_pos h3], fm_fr.rf M⟩)
    · have hl : fm_lt (nI b) 4 = false := by rw [fm_lt_nat hb (by omega)]; simp; omega
      refine fr_iconst (v := -1) hB dX8_after_9 (by decide) ?_
      exact fr_ireturn hB dX8_after_10 (⟨by rw [sp_after, hl]; rfl, fm_fr.rf M⟩)
