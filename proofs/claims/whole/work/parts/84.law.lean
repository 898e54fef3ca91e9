/-! ===== the law: the class's world and the reference's side by side ===== -/
def il (X : fm_X) (rC rM : Nat → Nat) (MC MM : fm_M) : Heap → List Loc → Prop := fun H locs => va_P (fm_Dg X) vwCl (fm_w shC rC (fm_kA X) MC) H ∧ va_P (fm_Dg X) vwCl (fm_w shM rM (fm_kA X) MM) H ∧ va_S (fm_A X) (fm_s X).heap H locs
def fl (X : fm_X) (rC rM : Nat → Nat) (b L : Nat) (xs : Nat → Int32) : Prop := fm_Dd shC rC (fm_A X) ∧ fm_Dd shM rM (fm_A X) ∧ (∀ (i j : Nat) (x y : fm_S), shC[i]? = some x → shM[j]? = some y → rC i ≠ rM j) ∧ fm_G (fm_A X) (fm_s X) (fm_s X).heap ∧ va_X b L xs (fm_s X) (fm_s X).heap ∧ b < (fm_s X).heap.size ∧ ¬ fm_A X b ∧ L ≤ 3072 ∧ fm_R X = room_1
section LAW
variable {X : fm_X} {cc : ByteArray} {nL ce sl : Nat} {I : Heap → List Loc → Prop} {own : String} {ret : Option FieldType} {pc : Nat} {lv : List (Option Value)} {st : List Value} {Q : State → Prop} {rC rM : Nat → Nat} {b L : Nat} {xs : Nat → Int32} {MC MM : fm_M}
theorem g_r1 {v : Value} (k : gw X nL ce sl I pc lv (v :: st) Q) : gw X nL ce sl I pc lv ((some v).toList ++ st) Q := k
theorem l_core {sh sh2 : List fm_S} {rh rh2 : Nat → Nat} {M M2 : fm_M} (hB : gb X cc nL own ret) (hD : fm_Dd sh rh (fm_A X)) (hap : ∀ (i j : Nat) (x y : fm_S), sh[i]? = some x → sh2[j]? = some y → rh i ≠ rh2 j) (hG : fm_G (fm_A X) (fm_s X) (fm_s X).heap) {idx ci nA h : Nat} {fs : List (Option Nat)} {mt : MethodName × ByteArray × Nat × Option FieldType} {post : Option Value → fm_M → Prop} (As rest : List Value) (hd : decode cc pc = .ok (.invokevirtual idx, 3)) (hf : fm_lkV own idx ci mt nA) (hk : sh[0]? = some (.inl (ci, fs))) (hC : fm_C sh (fm_l X, rh, fm_kA X, fm_Dg X) mt h (.ref (rh 0) :: As) M post) (hA : As.length = nA) (hcat : (rest.map fun v => v.category).sum ≤ 8) (hR : h + 1 ≤ (fm_R X).frames ∧ 8 + (mt.2.2.1 + 11) + 64 * h ≤ (fm_R X).locals) (hc : ce ≤ (fm_R X).cells ∧ sl ≤ (fm_R X).slots)
    (kk : ∀ (r : Option Value) (M' : fm_M), post r M' → ∀ (H1 : Heap) (locs1 : List Loc), va_P (fm_Dg X) vwCl (fm_w sh rh (fm_kA X) M') H1 → va_P (fm_Dg X) vwCl (fm_w sh2 rh2 (fm_kA X) M2) H1 → va_S (fm_A X) (fm_s X).heap H1 locs1 → ∀ ls : Array Slot, fm_lv ls nL lv → W (fm_p X) (fm_l X) (fm_en X) (fm_R X) (fm_s X) (fm_m X) (fm_ar X) (fm_bl X) (fm_me X) (fm_c X) H1 locs1 ce sl Q (F0 (fm_m X) (pc + 3) ls (r.toList ++ rest))) :
    ∀ (H : Heap) (locs : List Loc), va_P (fm_Dg X) vwCl (fm_w sh rh (fm_kA X) M) H → va_P (fm_Dg X) vwCl (fm_w sh2 rh2 (fm_kA X) M2) H → va_S (fm_A X) (fm_s X).heap H locs → ∀ ls : Array Slot, fm_lv ls nL lv → W (fm_p X) (fm_l X) (fm_en X) (fm_R X) (fm_s X) (fm_m X) (fm_ar X) (fm_bl X) (fm_me X) (fm_c X) H locs ce sl Q (F0 (fm_m X) pc ls (As.reverse ++ .ref (rh 0) :: rest)) := by
  intro H locs hP hP2 hS ls hl T hT Xs
  obtain ⟨⟨h1, h2, h3, h4⟩, h5, h6, Tt, N, h7⟩ := hf
  have hsub : ∀ q, fm_Ad sh rh H.size q → fm_A X q := fun q hq => by
    rcases hq with ⟨i, x, hx, rfl⟩ | hq
    · exact hD.2 i x hx
    · exact hB.A q (Nat.le_trans hS.1 hq)
  have hpre : ∀ U : State, U.heap = H → (fm_s X).WarmedH U.vm → fm_Pc sh (fm_l X, rh, fm_kA X, fm_Dg X) (.ref (rh 0) :: As) M H.size (Value.ref (rh 0) :: As).toArray U := by
    intro U hU hW
    refine ⟨rfl, by rw [hU], by rw [hU]; exact hP, va_K.moved hW.alike hB.K, ⟨hD.1, fun _ _ _ => trivial⟩, ?_⟩
    rw [hU]
    exact ((hG.kept (fun a h1 h2 => hS.2.1 a h1 h2)).narrow hsub).warm hW
  have hr := va_runV (e := fm_en X) (below := fm_bl X) (meth := fm_me X) (locs := locs) (cells := ce) (slots := sl) (g := F0 (fm_m X) pc ls (As.reverse ++ .ref (rh 0) :: rest)) (cc := cc) (nL := nL) (own := own) (Ts := fm_tb) (As := As) (rest := rest) (b := rh 0) (C := mt.1.cls) (n := nA) ⟨hB.x, hB.b, hB.ml, hB.ow, hB.tb⟩ (hC H.size) (cwV nA hB.tb (by
    intro w hw
    rcases List.mem_append.mp hw with h8 | h8
    · have h9 : w ∈ fm_tb := by
        rcases List.mem_cons.mp h8 with rfl | h8
        · exact h1
        rcases List.mem_cons.mp h8 with rfl | h8
        · exact h5
        rcases List.mem_cons.mp h8 with rfl | h8
        · exact h6
        rcases List.mem_cons.mp h8 with rfl | h8
        · exact h2
        cases h8
      exact ⟨h9, good_of_word (List.mem_filter.mp h9).2⟩
    · exact fm_good h3 w h8) rfl rfl rfl ⟨rfl, h4⟩ hR) ⟨fm_blind, va_recv hB.K hP h7 (fm_w_get hk), hpre⟩ rfl hA hl.2.1 rfl (lv_room hcat) hd hc
  obtain ⟨v, st₀, t, T', Lo, h0, X', hL, e1, e2, ⟨⟨r, M', hv, hp, hPb⟩, hz, hkk⟩, stp⟩ := hr T hT Xs
  cases hv
  rw [h0] at hz hkk
  have hP3 : va_P (fm_Dg X) vwCl (fm_w sh2 rh2 (fm_kA X) M2) T'.heap := hP2.kept (fun k q hq => by
    obtain ⟨x, hx, ex⟩ := fm_w_inv hq
    have hlt := (hP2 k q hq).lt
    rw [e1]
    refine hkk q.1 hlt (fun hz2 => ?_)
    rcases hz2 with ⟨i, y, hy, e9⟩ | hz2
    · exact hap i k y x hy hx (e9.symm.trans ex)
    · omega)
  obtain ⟨t2, a1, b1⟩ := kk v M' hp T'.heap (locs ++ Lo) (by rw [e1]; exact hPb) hP3 ⟨Nat.le_trans hS.1 (by rw [e1]; exact hz), fun q g1 g2 => by
      rw [e1, hkk q (Nat.lt_of_lt_of_le g1 hS.1) (fun z => g2 (hsub q z))]
      exact hS.2.1 q g1 g2, fun q hq => by
      rcases List.mem_append.mp hq with h | h
      · exact hS.2.2 q h
      · exact hsub _ (hL q h)⟩ ls hl T' rfl X'
  exact ⟨t2, stp t2 a1, b1⟩
theorem l_rm (hF : fl X rC rM b L xs) {h n : Nat} (h1 : h + 1 ≤ 2048) (h2 : 8 + (n + 11) + 64 * h ≤ 84000) : h + 1 ≤ (fm_R X).frames ∧ 8 + (n + 11) + 64 * h ≤ (fm_R X).locals := by
  rw [hF.2.2.2.2.2.2.2.2]
  exact ⟨h1, h2⟩
theorem l_rc (hF : fl X rC rM b L xs) {x y : Nat} (h1 : x ≤ 600000) (h2 : y ≤ 7302250) : x ≤ (fm_R X).cells ∧ y ≤ (fm_R X).slots := by
  rw [hF.2.2.2.2.2.2.2.2]
  exact ⟨h1, h2⟩
theorem l_callC (hB : gb X cc nL own ret) (hF : fl X rC rM b L xs) {idx nA h : Nat} {mt : MethodName × ByteArray × Nat × Option FieldType} {post : Option Value → fm_M → Prop} (As rest : List Value) (hd : decode cc pc = .ok (.invokevirtual idx, 3)) (hf : fm_lkV own idx 8 mt nA) (hC : fm_C shC (fm_l X, rC, fm_kA X, fm_Dg X) mt h (.ref (rC 0) :: As) MC post) (hA : As.length = nA) (hst : st = As.reverse ++ .ref (rC 0) :: rest) (hcat : (rest.map fun v => v.category).sum ≤ 8) (hR : h + 1 ≤ (fm_R X).frames ∧ 8 + (mt.2.2.1 + 11) + 64 * h ≤ (fm_R X).locals) (hc : ce ≤ (fm_R X).cells ∧ sl ≤ (fm_R X).slots)
    (kk : ∀ (r : Option Value) (M' : fm_M), post r M' → gw X nL ce sl (il X rC rM M' MM) (pc + 3) lv (r.toList ++ rest) Q) : gw X nL ce sl (il X rC rM MC MM) pc lv st Q := fun H locs hI ls hl => by
  subst hst
  exact l_core hB hF.1 hF.2.2.1 hF.2.2.2.1 As rest hd hf rfl hC hA hcat hR hc (fun r M' hp H1 locs1 g1 g2 g3 ls hl => kk r M' hp H1 locs1 ⟨g1, g2, g3⟩ ls hl) H locs hI.1 hI.2.1 hI.2.2 ls hl
theorem l_callM (hB : gb X cc nL own ret) (hF : fl X rC rM b L xs) {idx nA h : Nat} {mt : MethodName × ByteArray × Nat × Option FieldType} {post : Option Value → fm_M → Prop} (As rest : List Value) (hd : decode cc pc = .ok (.invokevirtual idx, 3)) (hf : fm_lkV own idx 9 mt nA) (hC : fm_C shM (fm_l X, rM, fm_kA X, fm_Dg X) mt h (.ref (rM 0) :: As) MM post) (hA : As.length = nA) (hst : st = As.reverse ++ .ref (rM 0) :: rest) (hcat : (rest.map fun v => v.category).sum ≤ 8) (hR : h + 1 ≤ (fm_R X).frames ∧ 8 + (mt.2.2.1 + 11) + 64 * h ≤ (fm_R X).locals) (hc : ce ≤ (fm_R X).cells ∧ sl ≤ (fm_R X).slots)
    (kk : ∀ (r : Option Value) (M' : fm_M), post r M' → gw X nL ce sl (il X rC rM MC M') (pc + 3) lv (r.toList ++ rest) Q) : gw X nL ce sl (il X rC rM MC MM) pc lv st Q := fun H locs hI ls hl => by
  subst hst
  exact l_core hB hF.2.1 (fun i j x y hx hy e => hF.2.2.1 j i y x hy hx e.symm) hF.2.2.2.1 As rest hd hf rfl hC hA hcat hR hc (fun r M' hp H1 locs1 g1 g2 g3 ls hl => kk r M' hp H1 locs1 ⟨g2, g1, g3⟩ ls hl) H locs hI.2.1 hI.1 hI.2.2 ls hl
theorem l_len (hB : gb X cc nL own ret) (hF : fl X rC rM b L xs) (hd : decode cc pc = .ok (.arraylength, 1)) (k : gw X nL ce sl (il X rC rM MC MM) (pc + 1) lv (.int (nI L) :: st) Q) : gw X nL ce sl (il X rC rM MC MM) pc lv (.ref b :: st) Q := fun H locs hI ls hl =>
  va_slen hB.x hB.b hF.2.2.2.2.1 hF.2.2.2.2.2.1 hF.2.2.2.2.2.2.1 hI.2.2 hd (k H locs hI ls hl)
theorem l_sc (hB : gb X cc nL own ret) (hF : fl X rC rM b L xs) {i : Int32} (a : Nat) (hd : decode cc pc = .ok (.iaload, 1)) (hi : i = nI a) (ha : a < L) (k : gw X nL ce sl (il X rC rM MC MM) (pc + 1) lv (.int (xs a) :: st) Q) : gw X nL ce sl (il X rC rM MC MM) pc lv (.int i :: .ref b :: st) Q := fun H locs hI ls hl => by
  subst hi
  have h31 : a < 2 ^ 31 := by have := hF.2.2.2.2.2.2.2.1; omega
  have h1 := va_sld (p := fm_p X) (l := fm_l X) (e := fm_en X) (R := fm_R X) (m := fm_m X) (args := fm_ar X) (below := fm_bl X) (meth := fm_me X) (cells := ce) (slots := sl) (Q := Q) (ls := ls) (rest := st) hB.x hB.b hF.2.2.2.2.1 hF.2.2.2.2.2.1 hF.2.2.2.2.2.2.1 hI.2.2 (vp_in_nI ha (by have := hF.2.2.2.2.2.2.2.1; omega)) hd
  rw [nI_clamp h31] at h1
  exact h1 (k H locs hI ls hl)
/-- x != 0, as javac lays it -/
theorem l_bool (hB : gb X cc nL own ret) {x : Int32} (h1 : decode cc pc = .ok (.ifCond .eq 7, 3)) (h2 : decode cc (pc + 3) = .ok (.iconst 1, 1)) (h3 : decode cc (pc + 4) = .ok (.goto 4, 3)) (h4 : decode cc (pc + 7) = .ok (.iconst 0, 1)) (k : gw X nL ce sl I (pc + 8) lv (.int (fm_ib (!decide (x = 0))) :: st) Q) : gw X nL ce sl I pc lv (.int x :: st) Q := by
  refine g_if_eq (tgt := pc + 7) hB h1 (by omega) (fun h => ?_) (fun h => ?_)
  · refine g_iconst (v := nI 0) hB h4 (by decide) ?_
    rw [decide_eq_true h] at k
    exact k
  · refine g_iconst (v := nI 1) hB h2 (by decide) ?_
    refine g_goto (tgt := pc + 8) hB h3 (by omega) ?_
    rw [decide_eq_false h] at k
    exact k
theorem l_le6 {L i : Nat} (hL : L ≤ 3072) (hi : i ≤ 4000) (h : ¬ nI L - nI 6 < nI i) : i + 6 ≤ L := by
  by_cases h6 : 6 ≤ L
  · rw [nI_sub h6, nI_ltI (by omega) (by omega)] at h
    omega
  · exfalso
    apply h
    rw [Int32.lt_iff_toInt_lt, nI_toInt (by omega)]
    have : (nI L - nI 6).toInt < 0 := by
      rcases (show L = 0 ∨ L = 1 ∨ L = 2 ∨ L = 3 ∨ L = 4 ∨ L = 5 by omega) with rfl | rfl | rfl | rfl | rfl | rfl <;> decide
    omega
end LAW
/-! ===== what always holds is kept ===== -/
theorem kz_feed {Z : fm_Z} (h : fm_WZ Z) (n : Int32) : fm_WZ (sp_feed Z n).2 := by
  unfold sp_feed
  split
  · split
    · exact ⟨h.1, h.2.1, h.2.2⟩
    · exact h
  · exact h
theorem kz_undo {Z : fm_Z} (h : fm_WZ Z) : fm_WZ (sp_undo Z).2 := by
  unfold sp_undo
  cases hI : Z.2.1 with
  | none => exact h
  | some P => exact ⟨h.2.1 P hI, fun R hR => by cases hR; exact h.2.1 P hI, h.2.2⟩
theorem kz_image {Z : fm_Z} (h : fm_WZ Z) : fm_WZ (Z.1, some Z.1, Z.2.2) := ⟨h.1, fun R hR => by cases hR; exact h.1, h.2.2⟩
theorem kz_item {Z : fm_Z} (h : fm_WZ Z) (t i : Int32) (v : Int64) : fm_WZ (sp_item Z t i v).2 := by
  unfold sp_item
  split
  · split
    · exact h
    · split
      · exact ⟨h.1, h.2.1, h.2.2⟩
      · exact h
  · exact h
theorem kz_shift {Z : fm_Z} (h : fm_WZ Z) (t i u j n : Int32) : fm_WZ (sp_shift Z t i u j n).2 := by
  unfold sp_shift
  split
  · split
    · exact h
    · split
      · split
        · exact ⟨h.1, h.2.1, h.2.2⟩
        · exact h
      · exact h
  · exact h
theorem kz_up {so le : Nat → Nat} (h : ∀ j, j < 6 → so j ≤ 5 ∧ le j ≤ 60 ∧ (so j = 0 → le j = 0)) {t a c : Nat} (ha : a ≤ 5) (hc : c ≤ 60) (hz : a = 0 → c = 0) : ∀ j, j < 6 → fm_up so t a j ≤ 5 ∧ fm_up le t c j ≤ 60 ∧ (fm_up so t a j = 0 → fm_up le t c j = 0) := by
  intro j hj
  by_cases e : j = t
  · simp only [fm_up, e, if_true]
    exact ⟨ha, hc, hz⟩
  · simp only [fm_up, e, if_false]
    exact h j hj
theorem kz_tape {Z : fm_Z} (h : fm_WZ Z) (t s n : Int32) : fm_WZ (sp_tape Z t s n).2 := by
  unfold sp_tape
  split
  · split
    · exact ⟨h.1, h.2.1, kz_up h.2.2 (by omega) (by omega) (fun _ => rfl)⟩
    · split
      · rename_i hs
        split
        · exact h
        · rename_i hn
          obtain ⟨a, ha, rfl⟩ := fm_lt_of (by omega) hs.1
          obtain ⟨c, hc, rfl⟩ := nI_of hn
          have hc60 : c ≤ 60 := (nI_leI hc (by omega)).mp hs.2
          refine ⟨h.1, h.2.1, kz_up h.2.2 ?_ ?_ ?_⟩
          · rw [nI_clamp (by omega)]; omega
          · rw [nI_clamp hc]; exact hc60
          · intro e; omega
      · exact h
  · exact h
theorem kz_read {Z : fm_Z} (h : fm_WZ Z) (R : (Nat → Int32) × (Nat → Int32) × (Nat → Int32)) : fm_WZ (sp_read Z R).2 := by
  unfold sp_read sp_rd
  split
  · exact ⟨kp_rdl _ _ _ _ _ h.1, h.2.1, h.2.2⟩
  · exact ⟨h.1, h.2.1, h.2.2⟩
