/-! ===== the reference: where a clause ends, the fault, what a clause does, read ===== -/
theorem ct_X9_behind {E : fm_E} {a z : Nat} {f : Nat → Nat} {M : fm_M} (ht : fm_MT f z M) (ha : a ≤ 100) : fm_C shM E mX9_behind 3 [.ref (E.2.1 0), .int (nI a)] M (fun r M' => r = some (.int (fm_bI (fm_c1 f z a))) ∧ M' = M) := by
  have hbd := fm_dg_b f z 3 none (a + 1)
  refine fm_C.of (by decide +kernel) (Nat.le_of_ble_eq_true rfl) ?_
  intro X hE hR hB
  subst hE
  have hB : fm_B _ X cX9_behind 3 RX9 (some .int) := hB
  refine fr_lv [some (.ref (fm_rh X 0)), some (.int (nI a)), none] ⟨rfl, rfl, trivial⟩ ?_
  refine fr_aload_n hB dX9_behind_0 rfl rfl ?_
  refine fr_iload_n hB dX9_behind_1 rfl rfl ?_
  refine fr_iconst (v := nI 1) hB dX9_behind_2 (by decide) ?_
  refine fr_iaddN hB dX9_behind_3 ?_
  refine fr_callV hB _ _ dX9_behind_4 lm_X9_141 rfl (ct_X9_behindOdds ht (by omega)) rfl rfl (Nat.le_of_ble_eq_true rfl) (fm_room hR (by decide) (by decide)) ?_
  rintro _ M9 ⟨rfl, hM9⟩
  rw [hM9]
  clear hM9 M9
  refine fr_ret1 ?_
  refine fr_istore_n hB dX9_behind_7 rfl (by decide) rfl ?_
  refine fr_aload_n hB dX9_behind_8 rfl rfl ?_
  refine fr_iload_n hB dX9_behind_9 rfl rfl ?_
  refine fr_callV hB _ _ dX9_behind_10 lm_X9_135 rfl (ct_X9_signAt ht (by omega)) rfl rfl (Nat.le_of_ble_eq_true rfl) (fm_room hR (by decide) (by decide)) ?_
  rintro _ M9 ⟨rfl, hM9⟩
  rw [hM9]
  clear hM9 M9
  refine fr_ret1 ?_
  have dfl : fm_c1 f z a = (false, (a, 0, fm_R0)) → fm_W shM X 3 228 [some (.ref (fm_rh X 0)), some (.int (nI a)), some (.int (nI (fm_dg f z 3 none (a + 1)).2))] [] M (fm_Q shM X (fun r M' => r = some (.int (fm_bI (fm_c1 f z a))) ∧ M' = M)) := by
    intro e
    rw [e]
    refine fr_iconst (v := -1) hB dX9_behind_228 (by decide) ?_
    refine fr_iload_n hB dX9_behind_229 rfl rfl ?_
    refine fr_isub hB dX9_behind_230 ?_
    exact fr_ireturn hB dX9_behind_231 (⟨rfl, rfl⟩)
  by_cases hz : a < z
  · have hf := (ht.2.2 a hz).2
    refine fr_eqi (nI (f a)) (by rw [fm_sn, if_pos hz]) ?_
    rcases fm_six (f a) with h | h | h | h | h | h | h
    · refine fr_eqi (nI 112) (by rw [h]) ?_
      refine fr_tableIn (tgt := 104) hB dX9_behind_13 (by decide) (by decide) (by rfl) (by decide) ?_
      rw [fm_c1, fm_pc1_p (0, fm_R0) ⟨hz, h⟩]
      refine fr_iload_n hB dX9_behind_104 rfl rfl ?_
      refine fr_iload_n hB dX9_behind_105 rfl rfl ?_
      refine fr_iconst (v := nI 1) hB dX9_behind_106 (by decide) ?_
      refine fr_iaddN hB dX9_behind_107 ?_
      refine fr_icmp_neN (tgt := 117) hB dX9_behind_108 (by decide) (by omega) (by omega) (fun h2 => ?_) (fun h2 => ?_)
      · rcases fm_dg_no f z (a + 1) with ⟨q1, q2⟩ | ⟨v, q1, q2⟩
        · exact absurd q2 h2
        · rw [q1, fm_bI_k2]
          refine fr_iload_n hB dX9_behind_117 rfl rfl ?_
          exact fr_ireturn hB dX9_behind_118 (⟨rfl, rfl⟩)
      · rcases fm_dg_no f z (a + 1) with ⟨q1, q2⟩ | ⟨v, q1, q2⟩
        · rw [q1, fm_bI_k0]
          refine fr_iconst (v := -1) hB dX9_behind_111 (by decide) ?_
          refine fr_iload_n hB dX9_behind_112 rfl rfl ?_
          refine fr_isub hB dX9_behind_113 ?_
          refine fr_goto (tgt := 118) hB dX9_behind_114 (by decide) ?_
          exact fr_ireturn hB dX9_behind_118 (⟨rfl, rfl⟩)
        · exact absurd h2 (by omega)
    · refine fr_eqi (nI 97) (by rw [h]) ?_
      refine fr_tableIn (tgt := 119) hB dX9_behind_13 (by decide) (by decide) (by rfl) (by decide) ?_
      rw [fm_c1, fm_pc1_a (0, fm_R0) ⟨hz, h⟩, fm_bI_k2]
      refine fr_iload_n hB dX9_behind_119 rfl rfl ?_
      refine fr_iconst (v := nI 1) hB dX9_behind_120 (by decide) ?_
      refine fr_iaddN hB dX9_behind_121 ?_
      exact fr_ireturn hB dX9_behind_122 (⟨rfl, rfl⟩)
    · refine fr_eqi (nI 111) (by rw [h]) ?_
      refine fr_tableIn (tgt := 119) hB dX9_behind_13 (by decide) (by decide) (by rfl) (by decide) ?_
      rw [fm_c1, fm_pc1_o (0, fm_R0) ⟨hz, h⟩, fm_bI_k2]
      refine fr_iload_n hB dX9_behind_119 rfl rfl ?_
      refine fr_iconst (v := nI 1) hB dX9_behind_120 (by decide) ?_
      refine fr_iaddN hB dX9_behind_121 ?_
      exact fr_ireturn hB dX9_behind_122 (⟨rfl, rfl⟩)
    · refine fr_eqi (nI 115) (by rw [h]) ?_
      refine fr_tableIn (tgt := 123) hB dX9_behind_13 (by decide) (by decide) (by rfl) (by decide) ?_
      rw [fm_c1, fm_pc1_s (0, fm_R0) ⟨hz, h⟩, fm_dgS]
      refine fr_aload_n hB dX9_behind_123 rfl rfl ?_
      refine fr_iload_n hB dX9_behind_124 rfl rfl ?_
      refine fr_iconst (v := nI 1) hB dX9_behind_125 (by decide) ?_
      refine fr_iaddN hB dX9_behind_126 ?_
      refine fr_callV hB _ _ dX9_behind_127 lm_X9_138 rfl (ct_X9_isDigit ht (by omega)) rfl rfl (Nat.le_of_ble_eq_true rfl) (fm_room hR (by decide) (by decide)) ?_
      rintro _ M9 ⟨rfl, hM9⟩
      rw [hM9]
      clear hM9 M9
      refine fr_ret1 ?_
      refine fr_if_eqB (tgt := 139) hB dX9_behind_130 (by decide) (fun h2 => ?_) (fun h2 => ?_)
      · rw [if_neg (fm_dI_f h2), fm_bI_k1]
        refine fr_bipush (v := -2) hB dX9_behind_139 (by decide) ?_
        refine fr_iload_n hB dX9_behind_141 rfl rfl ?_
        refine fr_isub hB dX9_behind_142 ?_
        exact fr_ireturn hB dX9_behind_143 (⟨congrArg (fun q => some (Value.int q)) (show (-2 : Int32) - nI a = -1 - nI (a + 1) by rw [fm_ng]; rfl), rfl⟩)
      · rw [if_pos (fm_dI_t h2), fm_bI_k2]
        refine fr_iload_n hB dX9_behind_133 rfl rfl ?_
        refine fr_iconst (v := nI 2) hB dX9_behind_134 (by decide) ?_
        refine fr_iaddN hB dX9_behind_135 ?_
        refine fr_goto (tgt := 143) hB dX9_behind_136 (by decide) ?_
        exact fr_ireturn hB dX9_behind_143 (⟨rfl, rfl⟩)
    · refine fr_eqi (nI 106) (by rw [h]) ?_
      refine fr_tableIn (tgt := 144) hB dX9_behind_13 (by decide) (by decide) (by rfl) (by decide) ?_
      rw [fm_c1, fm_pc1_j (0, fm_R0) ⟨hz, h⟩]
      refine fr_aload_n hB dX9_behind_144 rfl rfl ?_
      refine fr_iload_n hB dX9_behind_145 rfl rfl ?_
      refine fr_iconst (v := nI 1) hB dX9_behind_146 (by decide) ?_
      refine fr_iaddN hB dX9_behind_147 ?_
      refine fr_callV hB _ _ dX9_behind_148 lm_X9_138 rfl (ct_X9_isDigit ht (by omega)) rfl rfl (Nat.le_of_ble_eq_true rfl) (fm_room hR (by decide) (by decide)) ?_
      rintro _ M9 ⟨rfl, hM9⟩
      rw [hM9]
      clear hM9 M9
      refine fr_ret1 ?_
      refine fr_if_neB (tgt := 159) hB dX9_behind_151 (by decide) (fun h2 => ?_) (fun h2 => ?_)
      · have h2 := fm_dI_t h2
        have tail : ∀ (so x : Nat), fm_W shM X 3 188 [some (.ref (fm_rh X 0)), some (.int (nI a)), some (.int (nI (fm_dg f z 3 none (a + 1)).2))] [] M (fm_Q shM X (fun r M' => r = some (.int (fm_bI (fm_kc so (some x) (fm_dg f z 1 none (a + 3)).1 ((fm_dg f z 1 none (a + 3)).2, 0, fm_R0)))) ∧ M' = M)) := by
          intro so x
          rw [fm_dgS]
          refine fr_aload_n hB dX9_behind_188 rfl rfl ?_
          refine fr_iload_n hB dX9_behind_189 rfl rfl ?_
          refine fr_iconst (v := nI 3) hB dX9_behind_190 (by decide) ?_
          refine fr_iaddN hB dX9_behind_191 ?_
          refine fr_callV hB _ _ dX9_behind_192 lm_X9_138 rfl (ct_X9_isDigit ht (by omega)) rfl rfl (Nat.le_of_ble_eq_true rfl) (fm_room hR (by decide) (by decide)) ?_
          rintro _ M9 ⟨rfl, hM9⟩
          rw [hM9]
          clear hM9 M9
          refine fr_ret1 ?_
          refine fr_if_eqB (tgt := 204) hB dX9_behind_195 (by decide) (fun h5 => ?_) (fun h5 => ?_)
          · rw [if_neg (fm_dI_f h5), fm_bI_k1]
            refine fr_bipush (v := -4) hB dX9_behind_204 (by decide) ?_
            refine fr_iload_n hB dX9_behind_206 rfl rfl ?_
            refine fr_isub hB dX9_behind_207 ?_
            exact fr_ireturn hB dX9_behind_208 (⟨congrArg (fun q => some (Value.int q)) (show (-4 : Int32) - nI a = -1 - nI (a + 3) by rw [fm_ng]; rfl), rfl⟩)
          · rw [if_pos (fm_dI_t h5), fm_bI_k2]
            refine fr_iload_n hB dX9_behind_198 rfl rfl ?_
            refine fr_iconst (v := nI 4) hB dX9_behind_199 (by decide) ?_
            refine fr_iaddN hB dX9_behind_200 ?_
            refine fr_goto (tgt := 208) hB dX9_behind_201 (by decide) ?_
            exact fr_ireturn hB dX9_behind_208 (⟨rfl, rfl⟩)
        refine fr_aload_n hB dX9_behind_159 rfl rfl ?_
        refine fr_iload_n hB dX9_behind_160 rfl rfl ?_
        refine fr_iconst (v := nI 2) hB dX9_behind_161 (by decide) ?_
        refine fr_iaddN hB dX9_behind_162 ?_
        refine fr_callV hB _ _ dX9_behind_163 lm_X9_135 rfl (ct_X9_signAt ht (by omega)) rfl rfl (Nat.le_of_ble_eq_true rfl) (fm_room hR (by decide) (by decide)) ?_
        rintro _ M9 ⟨rfl, hM9⟩
        rw [hM9]
        clear hM9 M9
        refine fr_ret1 ?_
        refine fr_bipush (v := nI 112) hB dX9_behind_166 (by decide) ?_
        refine fr_icmp_eq (tgt := 188) hB dX9_behind_168 (by decide) (fun h3 => ?_) (fun h3 => ?_)
        · have h3 := (fm_sn_eq (fun q => (ht.2.2 _ q).2) (by omega)).mp h3
          rw [fm_pin_p (0, fm_R0) h2 h3]
          exact tail _ _
        · have h3 : ¬ (a + 1 + 1 < z ∧ f (a + 1 + 1) = 112) := fun q => h3 ((fm_sn_eq (fun q => (ht.2.2 _ q).2) (by omega)).mpr q)
          refine fr_aload_n hB dX9_behind_171 rfl rfl ?_
          refine fr_iload_n hB dX9_behind_172 rfl rfl ?_
          refine fr_iconst (v := nI 2) hB dX9_behind_173 (by decide) ?_
          refine fr_iaddN hB dX9_behind_174 ?_
          refine fr_callV hB _ _ dX9_behind_175 lm_X9_135 rfl (ct_X9_signAt ht (by omega)) rfl rfl (Nat.le_of_ble_eq_true rfl) (fm_room hR (by decide) (by decide)) ?_
          rintro _ M9 ⟨rfl, hM9⟩
          rw [hM9]
          clear hM9 M9
          refine fr_ret1 ?_
          refine fr_bipush (v := nI 103) hB dX9_behind_178 (by decide) ?_
          refine fr_icmp_eq (tgt := 188) hB dX9_behind_180 (by decide) (fun h4 => ?_) (fun h4 => ?_)
          · have h4 := (fm_sn_eq (fun q => (ht.2.2 _ q).2) (by omega)).mp h4
            rw [fm_pin_g (0, fm_R0) h2 h4]
            exact tail _ _
          · have h4 : ¬ (a + 1 + 1 < z ∧ f (a + 1 + 1) = 103) := fun q => h4 ((fm_sn_eq (fun q => (ht.2.2 _ q).2) (by omega)).mpr q)
            rw [fm_pin_1 (0, fm_R0) h2 h3 h4, fm_bI_no]
            refine fr_bipush (v := -3) hB dX9_behind_183 (by decide) ?_
            refine fr_iload_n hB dX9_behind_185 rfl rfl ?_
            refine fr_isub hB dX9_behind_186 ?_
            exact fr_ireturn hB dX9_behind_187 (⟨congrArg (fun q => some (Value.int q)) (show (-3 : Int32) - nI a = -1 - nI (a + 2) by rw [fm_ng]; rfl), rfl⟩)
      · rw [fm_pin_0 (0, fm_R0) (fm_dI_f h2), fm_bI_no]
        refine fr_bipush (v := -2) hB dX9_behind_154 (by decide) ?_
        refine fr_iload_n hB dX9_behind_156 rfl rfl ?_
        refine fr_isub hB dX9_behind_157 ?_
        exact fr_ireturn hB dX9_behind_158 (⟨congrArg (fun q => some (Value.int q)) (show (-2 : Int32) - nI a = -1 - nI (a + 1) by rw [fm_ng]; rfl), rfl⟩)
    · refine fr_eqi (nI 99) (by rw [h]) ?_
      refine fr_tableIn (tgt := 209) hB dX9_behind_13 (by decide) (by decide) (by rfl) (by decide) ?_
      rw [fm_c1, fm_pc1_c (0, fm_R0) ⟨hz, h⟩, fm_bI_ca]
      refine fr_iload_n hB dX9_behind_209 rfl rfl ?_
      refine fr_iload_n hB dX9_behind_210 rfl rfl ?_
      refine fr_iconst (v := nI 1) hB dX9_behind_211 (by decide) ?_
      refine fr_iaddN hB dX9_behind_212 ?_
      refine fr_icmp_neN (tgt := 222) hB dX9_behind_213 (by decide) (by omega) (by omega) (fun h2 => ?_) (fun h2 => ?_)
      · rcases fm_dg_no f z (a + 1) with ⟨q1, q2⟩ | ⟨v, q1, q2⟩
        · exact absurd q2 h2
        · rw [q1]
          refine fr_aload_n hB dX9_behind_222 rfl rfl ?_
          refine fr_iload_n hB dX9_behind_223 rfl rfl ?_
          refine fr_callV hB _ _ dX9_behind_224 lm_X9_144 rfl (ct_X9_behindParts ht (by omega)) rfl rfl (Nat.le_of_ble_eq_true rfl) (fm_room hR (by decide) (by decide)) ?_
          rintro _ M9 ⟨rfl, hM9⟩
          rw [hM9]
          clear hM9 M9
          refine fr_ret1 ?_
          exact fr_ireturn hB dX9_behind_227 (⟨rfl, rfl⟩)
      · rcases fm_dg_no f z (a + 1) with ⟨q1, q2⟩ | ⟨v, q1, q2⟩
        · rw [q1]
          refine fr_iconst (v := -1) hB dX9_behind_216 (by decide) ?_
          refine fr_iload_n hB dX9_behind_217 rfl rfl ?_
          refine fr_isub hB dX9_behind_218 ?_
          refine fr_goto (tgt := 227) hB dX9_behind_219 (by decide) ?_
          exact fr_ireturn hB dX9_behind_227 (⟨rfl, rfl⟩)
        · exact absurd h2 (by omega)
    · have e := fm_pc1_n (0, fm_R0) (f := f) (z := z) (a := a) (Or.inr h)
      by_cases hin : 97 ≤ f a ∧ f a ≤ 115
      · rcases (show f a = 98 ∨ f a = 100 ∨ f a = 101 ∨ f a = 102 ∨ f a = 103 ∨ f a = 104 ∨ f a = 105 ∨ f a = 107 ∨ f a = 108 ∨ f a = 109 ∨ f a = 110 ∨ f a = 113 ∨ f a = 114 by omega) with q | q | q | q | q | q | q | q | q | q | q | q | q
        · refine fr_eqi (nI 98) (by rw [q]) ?_
          refine fr_tableIn (tgt := 228) hB dX9_behind_13 (by decide) (by decide) (by rfl) (by decide) ?_
          exact dfl e
        · refine fr_eqi (nI 100) (by rw [q]) ?_
          refine fr_tableIn (tgt := 228) hB dX9_behind_13 (by decide) (by decide) (by rfl) (by decide) ?_
          exact dfl e
        · refine fr_eqi (nI 101) (by rw [q]) ?_
          refine fr_tableIn (tgt := 228) hB dX9_behind_13 (by decide) (by decide) (by rfl) (by decide) ?_
          exact dfl e
        · refine fr_eqi (nI 102) (by rw [q]) ?_
          refine fr_tableIn (tgt := 228) hB dX9_behind_13 (by decide) (by decide) (by rfl) (by decide) ?_
          exact dfl e
        · refine fr_eqi (nI 103) (by rw [q]) ?_
          refine fr_tableIn (tgt := 228) hB dX9_behind_13 (by decide) (by decide) (by rfl) (by decide) ?_
          exact dfl e
        · refine fr_eqi (nI 104) (by rw [q]) ?_
          refine fr_tableIn (tgt := 228) hB dX9_behind_13 (by decide) (by decide) (by rfl) (by decide) ?_
          exact dfl e
        · refine fr_eqi (nI 105) (by rw [q]) ?_
          refine fr_tableIn (tgt := 228) hB dX9_behind_13 (by decide) (by decide) (by rfl) (by decide) ?_
          exact dfl e
        · refine fr_eqi (nI 107) (by rw [q]) ?_
          refine fr_tableIn (tgt := 228) hB dX9_behind_13 (by decide) (by decide) (by rfl) (by decide) ?_
          exact dfl e
        · refine fr_eqi (nI 108) (by rw [q]) ?_
          refine fr_tableIn (tgt := 228) hB dX9_behind_13 (by decide) (by decide) (by rfl) (by decide) ?_
          exact dfl e
        · refine fr_eqi (nI 109) (by rw [q]) ?_
          refine fr_tableIn (tgt := 228) hB dX9_behind_13 (by decide) (by decide) (by rfl) (by decide) ?_
          exact dfl e
        · refine fr_eqi (nI 110) (by rw [q]) ?_
          refine fr_tableIn (tgt := 228) hB dX9_behind_13 (by decide) (by decide) (by rfl) (by decide) ?_
          exact dfl e
        · refine fr_eqi (nI 113) (by rw [q]) ?_
          refine fr_tableIn (tgt := 228) hB dX9_behind_13 (by decide) (by decide) (by rfl) (by decide) ?_
          exact dfl e
        · refine fr_eqi (nI 114) (by rw [q]) ?_
          refine fr_tableIn (tgt := 228) hB dX9_behind_13 (by decide) (by decide) (by rfl) (by decide) ?_
          exact dfl e
      · refine fr_tableOut (tgt := 228) hB dX9_behind_13 (by rw [nI_toInt (by omega)]; omega) (by decide) ?_
        exact dfl e
  · refine fr_eqi (-1) (by rw [fm_sn, if_neg hz]) ?_
    refine fr_tableOut (tgt := 228) hB dX9_behind_13 (by decide) (by decide) ?_
    exact dfl (fm_pc1_n (0, fm_R0) (Or.inl hz))
def fm_fI (q : Bool × fm_TS) : Int32 := if q.1 = true then -1 else nI q.2.1
theorem fm_neg1 {e : Nat} (h : e ≤ 100) : -1 - nI e < 0 ∧ -1 - (-1 - nI e) = nI e := by
  constructor
  · rw [Int32.lt_iff_toInt_lt]
    have : ∀ e : Nat, e ≤ 100 → (-1 - nI e).toInt < (0 : Int32).toInt := by decide
    exact this e h
  · rw [Int32.sub_eq_add_neg, Int32.neg_sub, Int32.add_comm, Int32.sub_add_cancel]
theorem fm_par_1 {f : Nat → Nat} {z a d : Nat} {T : Nat × (Nat → Int32) × (Nat → Int32) × (Nat → Int32)} (hT : T.1 < 16) : fm_par f z (d + 1) (a, T) = if (fm_c1 f z a).1 = true then
      (if z ≤ (fm_c1 f z a).2.1 then (true, (fm_lift (fm_c1 f z a) T).2)
      else if d = 0 then (false, (fm_lift (fm_c1 f z a) T).2)
      else if f (fm_c1 f z a).2.1 = 59 then fm_par f z d ((fm_c1 f z a).2.1 + 1, (fm_lift (fm_c1 f z a) T).2.2)
      else (false, (fm_lift (fm_c1 f z a) T).2))
    else (false, (fm_lift (fm_c1 f z a) T).2) := by
  rw [fm_par, fm_pc1_lift hT]
  show (if (fm_c1 f z a).1 = true then (if z ≤ (fm_c1 f z a).2.1 then _ else _) else _) = _
  by_cases h1 : (fm_c1 f z a).1 = true
  · rw [if_pos h1, if_pos h1]
    by_cases h2 : z ≤ (fm_c1 f z a).2.1
    · rw [if_pos h2, if_pos h2]
    · rw [if_neg h2, if_neg h2]
      by_cases h3 : d = 0
      · rw [if_pos h3, if_pos h3]
      · rw [if_neg h3, if_neg h3]
        by_cases h4 : f (fm_c1 f z a).2.1 = 59
        · have e4 : fm_ps f z 59 (fm_lift (fm_c1 f z a) T).2 = (true, ((fm_c1 f z a).2.1 + 1, (fm_lift (fm_c1 f z a) T).2.2)) := fm_ps_t (x := 59) (z := z) (f := f) (a := (fm_c1 f z a).2.1) ⟨by omega, h4⟩ _
          rw [if_pos h4, e4, if_pos rfl]
        · have e4 : fm_ps f z 59 (fm_lift (fm_c1 f z a) T).2 = (false, (fm_lift (fm_c1 f z a) T).2) := fm_ps_f (x := 59) (z := z) (f := f) (a := (fm_c1 f z a).2.1) (fun q => h4 q.2) _
          rw [if_neg h4, e4, if_neg fm_ff]
  · rw [if_neg h1, if_neg h1]
theorem fm_lift_n {f : Nat → Nat} {z a : Nat} {T : Nat × (Nat → Int32) × (Nat → Int32) × (Nat → Int32)} (h : (fm_c1 f z a).1 = true) : (fm_lift (fm_c1 f z a) T).2.2 = (T.1 + 1, fm_up T.2.1 T.1 ((fm_c1 f z a).2.2.2.1 0), fm_up T.2.2.1 T.1 ((fm_c1 f z a).2.2.2.2.1 0), fm_up T.2.2.2 T.1 ((fm_c1 f z a).2.2.2.2.2 0)) := if_pos h
theorem ct_X9_fault {E : fm_E} {z : Nat} {f : Nat → Nat} {R : (Nat → Int32) × (Nat → Int32) × (Nat → Int32)} {M : fm_M} (ht : fm_MT f z M) : fm_C shM E mX9_fault 4 [.ref (E.2.1 0)] M (fun r M' => r = some (.int (fm_fI (fm_par f z 16 (0, 0, R)))) ∧ M' = M) := by
  have hz := ht.2.1
  refine fm_C.of (by decide +kernel) (Nat.le_of_ble_eq_true rfl) ?_
  intro X hE hR hB
  subst hE
  have hB : fm_B _ X cX9_fault 3 RX9 (some .int) := hB
  refine fr_lv [some (.ref (fm_rh X 0)), none, none] ⟨rfl, trivial⟩ ?_
  have l1 : ∀ (d a m : Nat) (T : Nat × (Nat → Int32) × (Nat → Int32) × (Nat → Int32)), m + d = 16 → T.1 + d + 1 ≤ 16 → a ≤ 100 → fm_W shM X 3 8 [some (.ref (fm_rh X 0)), some (.int (fm_bI (fm_c1 f z a))), some (.int (nI m))] [] M (fm_Q shM X (fun r M' => r = some (.int (fm_fI (fm_par f z (d + 1) (a, T)))) ∧ M' = M)) := by
    intro d
    induction d using Nat.strongRecOn with
    | _ d ih =>
      intro a m T hm hT ha
      have hle := fm_c1_le (f := f) hz ha
      rw [fm_par_1 (show T.1 < 16 by omega)]
      cases hq : (fm_c1 f z a).1 with
      | true =>
        rw [if_pos rfl, fm_bI_t hq]
        refine fr_iload_n hB dX9_fault_8 rfl rfl ?_
        refine fr_if_ltN (tgt := 53) hB dX9_fault_9 (by decide) (by omega) ?_
        refine fr_iload_n hB dX9_fault_12 rfl rfl ?_
        refine fr_aload_n hB dX9_fault_13 rfl rfl ?_
        refine fr_getI hB dX9_fault_14 lf_X9_132 rfl rfl ?_
        refine fr_eqi _ (ht.1) ?_
        refine fr_icmp_geN (tgt := 53) hB dX9_fault_17 (by decide) (by omega) (by omega) (fun h => ?_) (fun h => ?_)
        · rw [if_pos h]
          refine fr_iload_n hB dX9_fault_53 rfl rfl ?_
          refine fr_if_geN (tgt := 63) hB dX9_fault_54 (by decide) (by omega) ?_
          refine fr_iconst (v := -1) hB dX9_fault_63 (by decide) ?_
          exact fr_ireturn hB dX9_fault_64 (⟨rfl, rfl⟩)
        · rw [if_neg (by omega)]
          refine fr_aload_n hB dX9_fault_20 rfl rfl ?_
          refine fr_getR hB dX9_fault_21 lf_X9_52 rfl rfl ?_
          refine fr_iload_n hB dX9_fault_24 rfl rfl ?_
          refine fr_iald hB (_) dX9_fault_25 rfl (rfl) (by omega) (by decide) ?_
          refine fr_eqi (nI (f (fm_c1 f z a).2.1)) ((ht.2.2 _ h).1) ?_
          refine fr_bipush (v := nI 59) hB dX9_fault_26 (by decide) ?_
          have hf := (ht.2.2 _ h).2
          refine fr_icmp_neN (tgt := 37) hB dX9_fault_28 (by decide) (by omega) (by omega) (fun h2 => ?_) (fun h2 => ?_)
          · have e : (if d = 0 then (false, (fm_lift (fm_c1 f z a) T).2) else if f (fm_c1 f z a).2.1 = 59 then fm_par f z d ((fm_c1 f z a).2.1 + 1, (fm_lift (fm_c1 f z a) T).2.2) else (false, (fm_lift (fm_c1 f z a) T).2)) = (false, (fm_lift (fm_c1 f z a) T).2) := by
              rw [if_neg h2]
              by_cases hd : d = 0
              · rw [if_pos hd]
              · rw [if_neg hd]
            rw [e]
            refine fr_iload_n hB dX9_fault_37 rfl rfl ?_
            exact fr_ireturn hB dX9_fault_38 (⟨rfl, rfl⟩)
          · refine fr_iload_n hB dX9_fault_31 rfl rfl ?_
            refine fr_bipush (v := nI 16) hB dX9_fault_32 (by decide) ?_
            refine fr_icmp_neN (tgt := 39) hB dX9_fault_34 (by decide) (by omega) (by omega) (fun h3 => ?_) (fun h3 => ?_)
            · rw [if_neg (by omega), if_pos h2, fm_lift_n hq]
              obtain ⟨d2, rfl⟩ : ∃ d2, d = d2 + 1 := ⟨d - 1, by omega⟩
              refine fr_iincN (b := 1) hB dX9_fault_39 rfl (by decide) (by decide) rfl ?_
              refine fr_aload_n hB dX9_fault_42 rfl rfl ?_
              refine fr_iload_n hB dX9_fault_43 rfl rfl ?_
              refine fr_iconst (v := nI 1) hB dX9_fault_44 (by decide) ?_
              refine fr_iaddN hB dX9_fault_45 ?_
              refine fr_callV hB _ _ dX9_fault_46 lm_X9_147 rfl (ct_X9_behind ht (by omega)) rfl rfl (Nat.le_of_ble_eq_true rfl) (fm_room hR (by decide) (by decide)) ?_
              rintro _ M9 ⟨rfl, hM9⟩
              rw [hM9]
              clear hM9 M9
              refine fr_ret1 ?_
              refine fr_istore_n hB dX9_fault_49 rfl (by decide) rfl ?_
              refine fr_goto (tgt := 8) hB dX9_fault_50 (by decide) ?_
              exact ih d2 (by omega) _ _ _ (by omega) (by show T.1 + 1 + d2 + 1 ≤ 16; omega) (by omega)
            · rw [if_pos (by omega)]
              refine fr_iload_n hB dX9_fault_37 rfl rfl ?_
              exact fr_ireturn hB dX9_fault_38 (⟨rfl, rfl⟩)
      | false =>
        rw [if_neg (by decide), fm_bI_f hq]
        have hn := fm_neg1 hle
        refine fr_iload_n hB dX9_fault_8 rfl rfl ?_
        refine fr_if_lt (tgt := 53) hB dX9_fault_9 (by decide) (fun h => ?_) (fun h => ?_)
        · refine fr_iload_n hB dX9_fault_53 rfl rfl ?_
          refine fr_if_ge (tgt := 63) hB dX9_fault_54 (by decide) (fun h2 => ?_) (fun h2 => ?_)
          · exact absurd hn.1 (Int32.not_lt.mpr h2)
          · refine fr_iconst (v := -1) hB dX9_fault_57 (by decide) ?_
            refine fr_iload_n hB dX9_fault_58 rfl rfl ?_
            refine fr_isub hB dX9_fault_59 ?_
            refine fr_goto (tgt := 64) hB dX9_fault_60 (by decide) ?_
            exact fr_ireturn hB dX9_fault_64 (⟨congrArg (fun q => some (Value.int q)) hn.2, rfl⟩)
        · exact absurd hn.1 h
  refine fr_aload_n hB dX9_fault_0 rfl rfl ?_
  refine fr_iconst (v := nI 0) hB dX9_fault_1 (by decide) ?_
  refine fr_callV hB _ _ dX9_fault_2 lm_X9_147 rfl (ct_X9_behind ht (by omega)) rfl rfl (Nat.le_of_ble_eq_true rfl) (fm_room hR (by decide) (by decide)) ?_
  rintro _ M9 ⟨rfl, hM9⟩
  rw [hM9]
  clear hM9 M9
  refine fr_ret1 ?_
  refine fr_istore_n hB dX9_fault_5 rfl (by decide) rfl ?_
  refine fr_iconst (v := nI 1) hB dX9_fault_6 (by decide) ?_
  refine fr_istore_n hB dX9_fault_7 rfl (by decide) rfl ?_
  exact l1 15 0 1 (0, R) (by omega) (by show 0 + 15 + 1 ≤ 16; omega) (by omega)
theorem ct_X9_number {E : fm_E} {a z d : Nat} {f : Nat → Nat} {M : fm_M} (ht : fm_MT f z M) (ha : a ≤ 150) (hd : d ≤ 3) : fm_C shM E mX9_number 0 [.ref (E.2.1 0), .int (nI a), .int (nI (fm_dg f z d none a).2)] M (fun r M' => r = some (.int (nI (fm_oN (fm_dg f z d none a).1))) ∧ M' = M) := by
  have hz := ht.2.1
  generalize hA : (fm_dg f z d none a).2 = A
  generalize hV : fm_oN (fm_dg f z d none a).1 = V
  have hA2 := fm_dg_b f z d none a
  refine fm_C.of (by decide +kernel) (Nat.le_of_ble_eq_true rfl) ?_
  intro X hE hR hB
  subst hE
  have hB : fm_B _ X cX9_number 5 RX9 (some .int) := hB
  refine fr_lv [some (.ref (fm_rh X 0)), some (.int (nI a)), some (.int (nI A)), none, none] ⟨rfl, rfl, rfl, trivial⟩ ?_
  have l1 : ∀ (d i : Nat) (o : Option Nat), (fm_dg f z d o i).2 = A → fm_oN (fm_dg f z d o i).1 = V → fm_W shM X 5 5 [some (.ref (fm_rh X 0)), some (.int (nI a)), some (.int (nI A)), some (.int (nI (fm_oN o))), some (.int (nI i))] [] M (fm_Q shM X (fun r M' => r = some (.int (nI V)) ∧ M' = M)) := by
    intro d
    induction d with
    | zero =>
      intro i o h1 h2
      have h1 : i = A := h1
      have h2 : fm_oN o = V := h2
      subst h1 h2
      refine fr_iload hB dX9_number_5 rfl ?_
      refine fr_iload_n hB dX9_number_7 rfl rfl ?_
      refine fr_icmp_geN (tgt := 33) hB dX9_number_8 (by decide) (by omega) (by omega) (fun h => ?_) (fun h => ?_)
      · refine fr_iload_n hB dX9_number_33 rfl rfl ?_
        exact fr_ireturn hB dX9_number_34 (⟨rfl, rfl⟩)
      · exact absurd h (by omega)
    | succ d ih =>
      intro i o h1 h2
      by_cases hc : i < z ∧ fm_isd (f i) = true
      · have e : fm_dg f z (d + 1) o i = fm_dg f z d (some (fm_oN o * 10 + (f i - 48))) (i + 1) := by rw [fm_dg, if_pos hc]
        rw [e] at h1 h2
        have hb := fm_isd_b hc.2
        have hg := (fm_dg_b f z d (some (fm_oN o * 10 + (f i - 48))) (i + 1)).1
        refine fr_iload hB dX9_number_5 rfl ?_
        refine fr_iload_n hB dX9_number_7 rfl rfl ?_
        refine fr_icmp_geN (tgt := 33) hB dX9_number_8 (by decide) (by omega) (by omega) (fun h => ?_) (fun h => ?_)
        · exact absurd h (by omega)
        · refine fr_bipush (v := nI 10) hB dX9_number_11 (by decide) ?_
          refine fr_iload_n hB dX9_number_13 rfl rfl ?_
          refine fr_imulN hB dX9_number_14 ?_
          refine fr_aload_n hB dX9_number_15 rfl rfl ?_
          refine fr_getR hB dX9_number_16 lf_X9_52 rfl rfl ?_
          refine fr_iload hB dX9_number_19 rfl ?_
          refine fr_iald hB (_) dX9_number_21 rfl (rfl) (by omega) (by decide) ?_
          refine fr_eqi (nI (f i)) ((ht.2.2 i hc.1).1) ?_
          refine fr_iaddN hB dX9_number_22 ?_
          refine fr_bipush (v := nI 48) hB dX9_number_23 (by decide) ?_
          refine fr_isubN hB dX9_number_25 (by omega) ?_
          refine fr_istore_n hB dX9_number_26 rfl (by decide) rfl ?_
          refine fr_iincN (b := 1) hB dX9_number_27 rfl (by decide) (by decide) rfl ?_
          refine fr_goto (tgt := 5) hB dX9_number_30 (by decide) ?_
          rw [show 10 * fm_oN o + f i - 48 = fm_oN (some (fm_oN o * 10 + (f i - 48))) by show _ = fm_oN o * 10 + (f i - 48); omega]
          exact ih (i + 1) _ h1 h2
      · have e : fm_dg f z (d + 1) o i = (o, i) := by rw [fm_dg, if_neg hc]
        rw [e] at h1 h2
        have h1 : i = A := h1
        have h2 : fm_oN o = V := h2
        subst h1 h2
        refine fr_iload hB dX9_number_5 rfl ?_
        refine fr_iload_n hB dX9_number_7 rfl rfl ?_
        refine fr_icmp_geN (tgt := 33) hB dX9_number_8 (by decide) (by omega) (by omega) (fun h => ?_) (fun h => ?_)
        · refine fr_iload_n hB dX9_number_33 rfl rfl ?_
          exact fr_ireturn hB dX9_number_34 (⟨rfl, rfl⟩)
        · exact absurd h (by omega)
  refine fr_iconst (v := nI 0) hB dX9_number_0 (by decide) ?_
  refine fr_istore_n hB dX9_number_1 rfl (by decide) rfl ?_
  refine fr_iload_n hB dX9_number_2 rfl rfl ?_
  refine fr_istore hB dX9_number_3 (by decide) rfl ?_
  exact l1 d a none hA hV
def fm_obr (P : fm_P) (q : Bool × fm_TS) : Int32 × fm_P := sp_ob P (q.2.2.2.1 0) (q.2.2.2.2.1 0) (q.2.2.2.2.2 0)
theorem fm_ok_six {f : Nat → Nat} {z a : Nat} (h : (fm_c1 f z a).1 = true) : a < z ∧ (f a = 112 ∨ f a = 97 ∨ f a = 111 ∨ f a = 115 ∨ f a = 106 ∨ f a = 99) := by
  by_cases hz : a < z
  · rcases fm_six (f a) with q | q | q | q | q | q | q
    · exact ⟨hz, by omega⟩
    · exact ⟨hz, by omega⟩
    · exact ⟨hz, by omega⟩
    · exact ⟨hz, by omega⟩
    · exact ⟨hz, by omega⟩
    · exact ⟨hz, by omega⟩
    · rw [fm_c1, fm_pc1_n (0, fm_R0) (Or.inr q)] at h; cases h
  · rw [fm_c1, fm_pc1_n (0, fm_R0) (Or.inl hz)] at h; cases h
