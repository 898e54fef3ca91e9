/-! ===== FaultGraph$Chances; fractions ===== -/
theorem nI_m1 (n : Nat) : nI n + Int32.ofInt (-1) = nI n - 1 := by
  have h : Int32.ofInt (-1) = -1 := by decide
  rw [h, ← Int32.sub_eq_add_neg]
theorem nI_p1 (n : Nat) : nI (n + 1) - 1 = nI n := nI_pred n
/-- the sets' odds: one set moves on, by odds o, to itself with b -/
def fm_sp1 (b : Nat) (o : Int64) (N : Nat) (L : Nat → Int64) (s : Nat) : Nat → Int64 :=
  if s ||| b < N then fm_up (fm_up L s (L s * 100 - L s * o)) (s ||| b) (fm_up L s (L s * 100 - L s * o) (s ||| b) + L s * o) else fm_up L s (L s * 100 - L s * o)
def fm_spr (b : Nat) (o : Int64) (N : Nat) : Nat → (Nat → Int64) → Nat → Int64
  | 0, L => L
  | n + 1, L => fm_spr b o N n (fm_sp1 b o N L n)
theorem fm_ior : ∀ a : Nat, a < 64 → ∀ b : Nat, b < 64 → nI a ||| nI b = nI (a ||| b) := by decide +kernel
theorem fm_ior_lt : ∀ a : Nat, a < 64 → ∀ b : Nat, b < 64 → a ||| b < 64 := by decide +kernel
theorem ct_X0_spread {E : fm_E} {b o N : Nat} {M : fm_M} (hb : b < 64) (ho : o ≤ 100) (hN : N ≤ 64) : fm_C shC E mX0_spread 0 [.ref (E.2.1 61), .int (nI b), .int (nI o), .int (nI N)] M (fun r M' => r = none ∧ M' = (M.1, fm_row M.2 62 (fm_spr b (lN o) N N (M.2 62)))) := by
  refine fm_C.of (by decide +kernel) (Nat.le_of_ble_eq_true rfl) ?_
  intro X hE hR hB
  subst hE
  have hB : fm_B _ X cX0_spread 8 RX0 none := hB
  refine fr_lv [some (.ref (fm_rh X 61)), some (.int (nI b)), some (.int (nI o)), some (.int (nI N)), none, none, none, none] ⟨rfl, rfl, rfl, rfl, trivial⟩ ?_
  generalize hZ0 : fm_spr b (lN o) N N (M.2 62) = Z
  have l1 : ∀ (n : Nat) (L : Nat → Int64), n ≤ N → fm_spr b (lN o) N n L = Z → fm_W shC X 8 5 [some (.ref (fm_rh X 61)), some (.int (nI b)), some (.int (nI o)), some (.int (nI N)), some (.int (nI n - 1)), none, none, none] [] (M.1, fm_row M.2 62 L) (fm_Q shC X (fun r M' => r = none ∧ M' = (M.1, fm_row M.2 62 Z))) := by
    intro n
    induction n with
    | zero =>
      intro L hn hZ
      have hZ : L = Z := hZ
      refine fr_iload hB dX0_spread_5 rfl ?_
      refine fr_if_lt (tgt := 73) hB dX0_spread_7 (by decide) (fun h => ?_) (fun h => ?_)
      · exact fr_return hB dX0_spread_73 (⟨rfl, by rw [hZ]⟩)
      · exact absurd (by decide) h
    | succ n ih =>
      intro L hn hZ
      have hZ : fm_spr b (lN o) N n (fm_sp1 b (lN o) N L n) = Z := hZ
      have hor := fm_ior_lt n (by omega) b hb
      rw [nI_p1]
      refine fr_iload hB dX0_spread_5 rfl ?_
      refine fr_if_ltN (tgt := 73) hB dX0_spread_7 (by decide) (by omega) ?_
      refine fr_aload_n hB dX0_spread_10 rfl rfl ?_
      refine fr_getR hB dX0_spread_11 lf_X0_9 rfl rfl ?_
      refine fr_iload hB dX0_spread_14 rfl ?_
      refine fr_lald hB (_) dX0_spread_16 rfl (rfl) (by omega) (by decide) ?_
      refine fr_eql (L n) (by simp [fm_row]) ?_
      refine fr_iload_n hB dX0_spread_17 rfl rfl ?_
      refine fr_i2l (v := lN o) hB dX0_spread_18 (nI_l (by omega)) ?_
      refine fr_lmul hB dX0_spread_19 ?_
      refine fr_lstore hB dX0_spread_20 (by decide) rfl ?_
      refine fr_aload_n hB dX0_spread_22 rfl rfl ?_
      refine fr_getR hB dX0_spread_23 lf_X0_9 rfl rfl ?_
      refine fr_iload hB dX0_spread_26 rfl ?_
      refine fr_aload_n hB dX0_spread_28 rfl rfl ?_
      refine fr_getR hB dX0_spread_29 lf_X0_9 rfl rfl ?_
      refine fr_iload hB dX0_spread_32 rfl ?_
      refine fr_lald hB (_) dX0_spread_34 rfl (rfl) (by omega) (by decide) ?_
      refine fr_eql (L n) (by simp [fm_row]) ?_
      refine fr_ldc2 (v := 100) hB dX0_spread_35 lc_X0_24 ?_
      refine fr_lmul hB dX0_spread_38 ?_
      refine fr_lload hB dX0_spread_39 rfl ?_
      refine fr_lsub hB dX0_spread_41 ?_
      refine fr_last hB (_) dX0_spread_42 rfl (rfl) (by omega) (by decide) ?_
      refine fr_mem (M.1, fm_row M.2 62 (fm_up L n (L n * 100 - L n * lN o))) (fm_pl_row (fun j => rfl)) ?_
      refine fr_iload hB dX0_spread_43 rfl ?_
      refine fr_iload_n hB dX0_spread_45 rfl rfl ?_
      refine fr_ior hB dX0_spread_46 ?_
      refine fr_eqi (nI (n ||| b)) (fm_ior n (by omega) b hb) ?_
      refine fr_istore hB dX0_spread_47 (by decide) rfl ?_
      refine fr_iload hB dX0_spread_49 rfl ?_
      refine fr_iload_n hB dX0_spread_51 rfl rfl ?_
      refine fr_icmp_geN (tgt := 67) hB dX0_spread_52 (by decide) (by omega) (by omega) (fun h2 => ?_) (fun h2 => ?_)
      · refine fr_iinc (v := nI n - 1) hB dX0_spread_67 rfl (nI_m1 n) (by decide) rfl ?_
        refine fr_goto (tgt := 5) hB dX0_spread_70 (by decide) ?_
        refine fr_lv [some (.ref (fm_rh X 61)), some (.int (nI b)), some (.int (nI o)), some (.int (nI N)), some (.int (nI n - 1)), none, none, none] ⟨rfl, rfl, rfl, rfl, rfl, trivial⟩ ?_
        refine ih _ (by omega) ?_
        rw [← hZ, fm_sp1, if_neg (by omega)]
      · refine fr_aload_n hB dX0_spread_55 rfl rfl ?_
        refine fr_getR hB dX0_spread_56 lf_X0_9 rfl rfl ?_
        refine fr_iload hB dX0_spread_59 rfl ?_
        refine fr_dup2_11 hB dX0_spread_61 rfl rfl ?_
        refine fr_lald hB (_) dX0_spread_62 rfl (rfl) (by omega) (by decide) ?_
        refine fr_eql (fm_up L n (L n * 100 - L n * lN o) (n ||| b)) (by simp [fm_row]) ?_
        refine fr_lload hB dX0_spread_63 rfl ?_
        refine fr_ladd hB dX0_spread_65 ?_
        refine fr_last hB (_) dX0_spread_66 rfl (rfl) (by omega) (by decide) ?_
        refine fr_mem (M.1, fm_row M.2 62 (fm_up (fm_up L n (L n * 100 - L n * lN o)) (n ||| b) (fm_up L n (L n * 100 - L n * lN o) (n ||| b) + L n * lN o))) (fm_pl_row (fun j => rfl)) ?_
        refine fr_iinc (v := nI n - 1) hB dX0_spread_67 rfl (nI_m1 n) (by decide) rfl ?_
        refine fr_goto (tgt := 5) hB dX0_spread_70 (by decide) ?_
        refine fr_lv [some (.ref (fm_rh X 61)), some (.int (nI b)), some (.int (nI o)), some (.int (nI N)), some (.int (nI n - 1)), none, none, none] ⟨rfl, rfl, rfl, rfl, rfl, trivial⟩ ?_
        refine ih _ (by omega) ?_
        rw [← hZ, fm_sp1, if_pos h2]
  refine fr_iload_n hB dX0_spread_0 rfl rfl ?_
  refine fr_iconst (v := nI 1) hB dX0_spread_1 (by decide) ?_
  refine fr_isub hB dX0_spread_2 ?_
  refine fr_istore hB dX0_spread_3 (by decide) rfl ?_
  rw [show nI N - nI 1 = nI N - 1 from rfl]
  refine fr_mem (M.1, fm_row M.2 62 (M.2 62)) (by rw [fm_row_self]) ?_
  exact l1 N (M.2 62) (Nat.le_refl N) hZ0
/-- the odds of the sets that a table tells, together -/
def fm_so (T : Int64) (L : Nat → Int64) : Nat → Int64
  | 0 => 0
  | n + 1 => if fm_bit T n then fm_so T L n + L n else fm_so T L n
theorem ct_X0_sumOver {E : fm_E} {N : Nat} {T : Int64} {M : fm_M} (hN : N ≤ 64) : fm_C shC E mX0_sumOver 1 [.ref (E.2.1 61), .long T, .int (nI N)] M (fun r M' => r = some (.long (fm_so T (M.2 62) N)) ∧ M' = M) := by
  refine fm_C.of (by decide +kernel) (Nat.le_of_ble_eq_true rfl) ?_
  intro X hE hR hB
  subst hE
  have hB : fm_B _ X cX0_sumOver 7 RX0 (some .long) := hB
  refine fr_lv [some (.ref (fm_rh X 61)), some (.long T), none, some (.int (nI N)), none, none, none] ⟨rfl, rfl, rfl, trivial⟩ ?_
  have l1 : ∀ (d i : Nat), i + d = N → fm_W shC X 7 6 [some (.ref (fm_rh X 61)), some (.long T), none, some (.int (nI N)), some (.long (fm_so T (M.2 62) i)), none, some (.int (nI i))] [] M (fm_Q shC X (fun r M' => r = some (.long (fm_so T (M.2 62) N)) ∧ M' = M)) := by
    intro d
    induction d with
    | zero =>
      intro i hi
      have e : i = N := by omega
      refine fr_iload hB dX0_sumOver_6 rfl ?_
      refine fr_iload_n hB dX0_sumOver_8 rfl rfl ?_
      refine fr_icmp_geN (tgt := 39) hB dX0_sumOver_9 (by decide) (by omega) (by omega) (fun h => ?_) (fun h => ?_)
      · refine fr_lload hB dX0_sumOver_39 rfl ?_
        exact fr_lreturn hB dX0_sumOver_41 (⟨by rw [e], rfl⟩)
      · exact absurd h (by omega)
    | succ d ih =>
      intro i hi
      refine fr_iload hB dX0_sumOver_6 rfl ?_
      refine fr_iload_n hB dX0_sumOver_8 rfl rfl ?_
      refine fr_icmp_geN (tgt := 39) hB dX0_sumOver_9 (by decide) (by omega) (by omega) (fun h => ?_) (fun h => ?_)
      · exact absurd h (by omega)
      · refine fr_lload_n hB dX0_sumOver_12 rfl rfl ?_
        refine fr_iload hB dX0_sumOver_13 rfl ?_
        refine fr_callN hB _ _ dX0_sumOver_15 hB.G.2.1 ln_says (ct_X8_says (by omega)) rfl rfl (Nat.le_of_ble_eq_true rfl) (fm_room hR (by decide) (by decide)) ?_
        rintro _ M9 ⟨rfl, hM9⟩
        rw [hM9]
        clear hM9 M9
        refine fr_ret1 ?_
        refine fr_if_eqB (tgt := 33) hB dX0_sumOver_18 (by decide) (fun h2 => ?_) (fun h2 => ?_)
        · refine fr_iincN (b := 1) hB dX0_sumOver_33 rfl (by decide) (by decide) rfl ?_
          refine fr_goto (tgt := 6) hB dX0_sumOver_36 (by decide) ?_
          have e : fm_so T (M.2 62) (i + 1) = fm_so T (M.2 62) i := by
            show (if fm_bit T i then _ else _) = _
            rw [h2]; rfl
          rw [← e]
          exact ih (i + 1) (by omega)
        · refine fr_lload hB dX0_sumOver_21 rfl ?_
          refine fr_aload_n hB dX0_sumOver_23 rfl rfl ?_
          refine fr_getR hB dX0_sumOver_24 lf_X0_9 rfl rfl ?_
          refine fr_iload hB dX0_sumOver_27 rfl ?_
          refine fr_lald hB (_) dX0_sumOver_29 rfl (rfl) (by omega) (by decide) ?_
          refine fr_ladd hB dX0_sumOver_30 ?_
          refine fr_lstore hB dX0_sumOver_31 (by decide) rfl ?_
          refine fr_iincN (b := 1) hB dX0_sumOver_33 rfl (by decide) (by decide) rfl ?_
          refine fr_goto (tgt := 6) hB dX0_sumOver_36 (by decide) ?_
          have e : fm_so T (M.2 62) (i + 1) = fm_so T (M.2 62) i + M.2 62 i := by
            show (if fm_bit T i then _ else _) = _
            rw [h2]; rfl
          rw [← e]
          exact ih (i + 1) (by omega)
  refine fr_lconst (v := 0) hB dX0_sumOver_0 (by decide) ?_
  refine fr_lstore hB dX0_sumOver_1 (by decide) rfl ?_
  refine fr_iconst (v := nI 0) hB dX0_sumOver_3 (by decide) ?_
  refine fr_istore hB dX0_sumOver_4 (by decide) rfl ?_
  exact l1 N 0 (by omega)
/-- the odds of a part, of a cause, where one source has others -/
def fm_o1 (P : fm_P) (so : Int32) (oo p : Nat) : Nat := if nI p = so then oo else P 1 p
def fm_o2 (P : fm_P) (so : Int32) (oo c : Nat) : Nat := if nI (6 + c) = so then oo else P 10 c
def fm_ini (N : Nat) (L : Nat → Int64) : Nat → Int64 := fun j => if j = 0 then 1 else if j < N then 0 else L j
def fm_pp (o : Nat → Nat) (N : Nat) : Nat → (Nat → Int64) → Nat → Int64
  | 0, L => L
  | n + 1, L => fm_spr (2 ^ n) (lN (o n)) N N (fm_pp o N n L)
def fm_qq (b o : Nat → Nat) (N : Nat) : Nat → (Nat → Int64) → Nat → Int64
  | 0, L => L
  | n + 1, L => fm_spr (b n) (lN (o n)) N N (fm_qq b o N n L)
/-- how likely each set fails, the parts' and causes' odds being so -/
def fm_lk (P : fm_P) (so : Int32) (oo : Nat) (L : Nat → Int64) : Nat → Int64 := fm_qq (P 11) (fm_o2 P so oo) (2 ^ P 0 0) (P 9 0) (fm_pp (fm_o1 P so oo) (2 ^ P 0 0) (P 0 0) (fm_ini (2 ^ P 0 0) L))
def fm_abv (P : fm_P) (T : Int64) (so : Int32) (oo : Nat) (L : Nat → Int64) : Int64 := fm_so T (fm_lk P so oo L) (2 ^ P 0 0)
theorem ct_X0_above {sh : List fm_S} {E : fm_E} {k oo : Nat} {so : Int32} {T : Int64} {P : fm_P} {M : fm_M} (hs : fm_Pl shC k) (hr : fm_PR k P M) (hw : fm_wf P) (hoo : oo ≤ 100) (hsh : sh = shC) : fm_C sh E mX0_above 2 [.ref (E.2.1 61), .ref (E.2.1 k), .long T, .int so, .int (nI oo)] M (fun r M' => r = some (.long (fm_abv P T so oo (M.2 62))) ∧ M' = (M.1, fm_row M.2 62 (fm_lk P so oo (M.2 62)))) := by
  subst hsh
  have h6 := hw.p6
  have h3 := hw.c3
  have h2c := fm_2c h6
  have ho := hw.o100
  have hco := hw.co
  have hp64 : ∀ p, p < 6 → 2 ^ p < 64 := by decide
  refine fm_C.of (by decide +kernel) (Nat.le_of_ble_eq_true rfl) ?_
  intro X hE hR hB
  subst hE
  have hB : fm_B _ X cX0_above 9 RX0 (some .long) := hB
  refine fr_lv [some (.ref (fm_rh X 61)), some (.ref (fm_rh X k)), some (.long T), none, some (.int so), some (.int (nI oo)), none, none, none] ⟨rfl, rfl, rfl, rfl, rfl, trivial⟩ ?_
  generalize hpo : (fun (r : Option Value) (M' : fm_M) => r = some (.long (fm_abv P T so oo (M.2 62))) ∧ M' = (M.1, fm_row M.2 62 (fm_lk P so oo (M.2 62)))) = po
  have l3 : ∀ (d c : Nat), c + d = P 9 0 → fm_W shC X 9 89 [some (.ref (fm_rh X 61)), some (.ref (fm_rh X k)), some (.long T), none, some (.int so), some (.int (nI oo)), some (.int (nI (2 ^ P 0 0))), some (.int (nI c)), none] [] (M.1, fm_row M.2 62 (fm_qq (P 11) (fm_o2 P so oo) (2 ^ P 0 0) c (fm_pp (fm_o1 P so oo) (2 ^ P 0 0) (P 0 0) (fm_ini (2 ^ P 0 0) (M.2 62))))) (fm_Q shC X po) := by
    intro d
    induction d with
    | zero =>
      intro c hc
      have e : c = P 9 0 := by omega
      refine fr_iload hB dX0_above_89 rfl ?_
      refine fr_aload_n hB dX0_above_91 rfl rfl ?_
      refine fr_getI hB dX0_above_92 lf_X0_21 hs.o rfl ?_
      refine fr_eqi _ (hr.causes) ?_
      refine fr_icmp_geN (tgt := 151) hB dX0_above_95 (by decide) (by omega) (by omega) (fun h => ?_) (fun h => ?_)
      · refine fr_aload_n hB dX0_above_151 rfl rfl ?_
        refine fr_lload_n hB dX0_above_152 rfl rfl ?_
        refine fr_iload hB dX0_above_153 rfl ?_
        refine fr_callV hB _ _ dX0_above_155 lm_X0_40 rfl (ct_X0_sumOver h2c.1) rfl rfl (Nat.le_of_ble_eq_true rfl) (fm_room hR (by decide) (by decide)) ?_
        rintro _ M9 ⟨rfl, hM9⟩
        rw [hM9]
        clear hM9 M9
        refine fr_ret1 ?_
        subst e
        exact fr_lreturn hB dX0_above_158 (by subst hpo; exact ⟨rfl, rfl⟩)
      · exact absurd h (by omega)
    | succ d ih =>
      intro c hc
      have hb := hw.cb c (by omega)
      have hoc := hco c
      have cut : fm_o2 P so oo c ≤ 100 → fm_W shC X 9 140 [some (.ref (fm_rh X 61)), some (.ref (fm_rh X k)), some (.long T), none, some (.int so), some (.int (nI oo)), some (.int (nI (2 ^ P 0 0))), some (.int (nI c)), none] [.int (nI (fm_o2 P so oo c)), .int (nI (P 11 c)), .ref (fm_rh X 61)] (M.1, fm_row M.2 62 (fm_qq (P 11) (fm_o2 P so oo) (2 ^ P 0 0) c (fm_pp (fm_o1 P so oo) (2 ^ P 0 0) (P 0 0) (fm_ini (2 ^ P 0 0) (M.2 62))))) (fm_Q shC X po) := by
        intro ho2
        refine fr_iload hB dX0_above_140 rfl ?_
        refine fr_callV hB _ _ dX0_above_142 lm_X0_30 rfl (ct_X0_spread (by omega) ho2 h2c.1) rfl rfl (Nat.le_of_ble_eq_true rfl) (fm_room hR (by decide) (by decide)) ?_
        rintro _ M9 ⟨rfl, hM9⟩
        rw [hM9]
        clear hM9 M9
        refine fr_ret0 ?_
        refine fr_iincN (b := 1) hB dX0_above_145 rfl (by decide) (by decide) rfl ?_
        refine fr_goto (tgt := 89) hB dX0_above_148 (by decide) ?_
        refine fr_mem (M.1, fm_row M.2 62 (fm_qq (P 11) (fm_o2 P so oo) (2 ^ P 0 0) (c + 1) (fm_pp (fm_o1 P so oo) (2 ^ P 0 0) (P 0 0) (fm_ini (2 ^ P 0 0) (M.2 62))))) ?_ (ih (c + 1) (by omega))
        show (M.1, fm_row (fm_row M.2 62 _) 62 _) = _
        rw [fm_row_row]
        rfl
      refine fr_iload hB dX0_above_89 rfl ?_
      refine fr_aload_n hB dX0_above_91 rfl rfl ?_
      refine fr_getI hB dX0_above_92 lf_X0_21 hs.o rfl ?_
      refine fr_eqi _ (hr.causes) ?_
      refine fr_icmp_geN (tgt := 151) hB dX0_above_95 (by decide) (by omega) (by omega) (fun h => ?_) (fun h => ?_)
      · exact absurd h (by omega)
      · refine fr_bipush (v := nI 6) hB dX0_above_98 (by decide) ?_
        refine fr_iload hB dX0_above_100 rfl ?_
        refine fr_iaddN hB dX0_above_102 ?_
        refine fr_iload hB dX0_above_103 rfl ?_
        refine fr_icmp_ne (tgt := 112) hB dX0_above_105 (by decide) (fun h2 => ?_) (fun h2 => ?_)
        · have e : fm_o2 P so oo c = P 10 c := by rw [fm_o2, if_neg h2]
          refine fr_iconst (v := nI 0) hB dX0_above_112 (by decide) ?_
          refine fr_istore hB dX0_above_113 (by decide) rfl ?_
          refine fr_aload_n hB dX0_above_115 rfl rfl ?_
          refine fr_aload_n hB dX0_above_116 rfl rfl ?_
          refine fr_getR hB dX0_above_117 lf_X0_34 hs.o rfl ?_
          refine fr_iload hB dX0_above_120 rfl ?_
          refine fr_iald hB (_) dX0_above_122 hs.a8 (rfl) (by omega) (by decide) ?_
          refine fr_eqi _ (hr.cbits _ (by omega)) ?_
          refine fr_iload hB dX0_above_123 rfl ?_
          refine fr_if_eqN (tgt := 133) hB dX0_above_125 (by decide) (by omega) (fun h4 => ?_) (fun h4 => ?_)
          · refine fr_aload_n hB dX0_above_133 rfl rfl ?_
            refine fr_getR hB dX0_above_134 lf_X0_37 hs.o rfl ?_
            refine fr_iload hB dX0_above_137 rfl ?_
            refine fr_iald hB (_) dX0_above_139 hs.a7 (rfl) (by omega) (by decide) ?_
            refine fr_eqi _ (hr.codds _ (by omega)) ?_
            refine fr_lv [some (.ref (fm_rh X 61)), some (.ref (fm_rh X k)), some (.long T), none, some (.int so), some (.int (nI oo)), some (.int (nI (2 ^ P 0 0))), some (.int (nI c)), none] ⟨rfl, rfl, rfl, rfl, rfl, rfl, rfl, trivial⟩ ?_
            rw [← e]
            exact cut (by rw [e]; exact hoc)
          · exact absurd h4 (by omega)
        · have h2 : nI (6 + c) = so := Decidable.not_not.mp h2
          have e : fm_o2 P so oo c = oo := by rw [fm_o2, if_pos h2]
          refine fr_iconst (v := nI 1) hB dX0_above_108 (by decide) ?_
          refine fr_goto (tgt := 113) hB dX0_above_109 (by decide) ?_
          refine fr_istore hB dX0_above_113 (by decide) rfl ?_
          refine fr_aload_n hB dX0_above_115 rfl rfl ?_
          refine fr_aload_n hB dX0_above_116 rfl rfl ?_
          refine fr_getR hB dX0_above_117 lf_X0_34 hs.o rfl ?_
          refine fr_iload hB dX0_above_120 rfl ?_
          refine fr_iald hB (_) dX0_above_122 hs.a8 (rfl) (by omega) (by decide) ?_
          refine fr_eqi _ (hr.cbits _ (by omega)) ?_
          refine fr_iload hB dX0_above_123 rfl ?_
          refine fr_if_eqN (tgt := 133) hB dX0_above_125 (by decide) (by omega) (fun h4 => ?_) (fun h4 => ?_)
          · exact absurd h4 (by decide)
          · refine fr_iload hB dX0_above_128 rfl ?_
            refine fr_goto (tgt := 140) hB dX0_above_130 (by decide) ?_
            refine fr_lv [some (.ref (fm_rh X 61)), some (.ref (fm_rh X k)), some (.long T), none, some (.int so), some (.int (nI oo)), some (.int (nI (2 ^ P 0 0))), some (.int (nI c)), none] ⟨rfl, rfl, rfl, rfl, rfl, rfl, rfl, trivial⟩ ?_
            have hc9 := cut (by rw [e]; exact hoo)
            rw [e] at hc9
            exact hc9
  have l2 : ∀ (d p : Nat), p + d = P 0 0 → fm_W shC X 9 42 [some (.ref (fm_rh X 61)), some (.ref (fm_rh X k)), some (.long T), none, some (.int so), some (.int (nI oo)), some (.int (nI (2 ^ P 0 0))), some (.int (nI p)), none] [] (M.1, fm_row M.2 62 (fm_pp (fm_o1 P so oo) (2 ^ P 0 0) p (fm_ini (2 ^ P 0 0) (M.2 62)))) (fm_Q shC X po) := by
    intro d
    induction d with
    | zero =>
      intro p hp
      have e : p = P 0 0 := by omega
      refine fr_iload hB dX0_above_42 rfl ?_
      refine fr_aload_n hB dX0_above_44 rfl rfl ?_
      refine fr_getI hB dX0_above_45 lf_X0_15 hs.o rfl ?_
      refine fr_eqi _ (hr.parts) ?_
      refine fr_icmp_geN (tgt := 86) hB dX0_above_48 (by decide) (by omega) (by omega) (fun h => ?_) (fun h => ?_)
      · refine fr_iconst (v := nI 0) hB dX0_above_86 (by decide) ?_
        refine fr_istore hB dX0_above_87 (by decide) rfl ?_
        subst e
        exact l3 (P 9 0) 0 (by omega)
      · exact absurd h (by omega)
    | succ d ih =>
      intro p hp
      have hop := ho p
      have cut : fm_o1 P so oo p ≤ 100 → fm_W shC X 9 75 [some (.ref (fm_rh X 61)), some (.ref (fm_rh X k)), some (.long T), none, some (.int so), some (.int (nI oo)), some (.int (nI (2 ^ P 0 0))), some (.int (nI p)), none] [.int (nI (fm_o1 P so oo p)), .int (nI (2 ^ p)), .ref (fm_rh X 61)] (M.1, fm_row M.2 62 (fm_pp (fm_o1 P so oo) (2 ^ P 0 0) p (fm_ini (2 ^ P 0 0) (M.2 62)))) (fm_Q shC X po) := by
        intro ho2
        refine fr_iload hB dX0_above_75 rfl ?_
        refine fr_callV hB _ _ dX0_above_77 lm_X0_30 rfl (ct_X0_spread (hp64 p (by omega)) ho2 h2c.1) rfl rfl (Nat.le_of_ble_eq_true rfl) (fm_room hR (by decide) (by decide)) ?_
        rintro _ M9 ⟨rfl, hM9⟩
        rw [hM9]
        clear hM9 M9
        refine fr_ret0 ?_
        refine fr_iincN (b := 1) hB dX0_above_80 rfl (by decide) (by decide) rfl ?_
        refine fr_goto (tgt := 42) hB dX0_above_83 (by decide) ?_
        refine fr_mem (M.1, fm_row M.2 62 (fm_pp (fm_o1 P so oo) (2 ^ P 0 0) (p + 1) (fm_ini (2 ^ P 0 0) (M.2 62)))) ?_ (ih (p + 1) (by omega))
        show (M.1, fm_row (fm_row M.2 62 _) 62 _) = _
        rw [fm_row_row]
        rfl
      refine fr_iload hB dX0_above_42 rfl ?_
      refine fr_aload_n hB dX0_above_44 rfl rfl ?_
      refine fr_getI hB dX0_above_45 lf_X0_15 hs.o rfl ?_
      refine fr_eqi _ (hr.parts) ?_
      refine fr_icmp_geN (tgt := 86) hB dX0_above_48 (by decide) (by omega) (by omega) (fun h => ?_) (fun h => ?_)
      · exact absurd h (by omega)
      · refine fr_aload_n hB dX0_above_51 rfl rfl ?_
        refine fr_iconst (v := nI 1) hB dX0_above_52 (by decide) ?_
        refine fr_iload hB dX0_above_53 rfl ?_
        refine fr_ishl hB dX0_above_55 ?_
        refine fr_eqi (nI (2 ^ p)) (fm_shl1 (by omega)) ?_
        refine fr_iload hB dX0_above_56 rfl ?_
        refine fr_iload hB dX0_above_58 rfl ?_
        refine fr_icmp_ne (tgt := 68) hB dX0_above_60 (by decide) (fun h2 => ?_) (fun h2 => ?_)
        · have e : fm_o1 P so oo p = P 1 p := by rw [fm_o1, if_neg h2]
          refine fr_aload_n hB dX0_above_68 rfl rfl ?_
          refine fr_getR hB dX0_above_69 lf_X0_26 hs.o rfl ?_
          refine fr_iload hB dX0_above_72 rfl ?_
          refine fr_iald hB (_) dX0_above_74 hs.a1 (rfl) (by omega) (by decide) ?_
          refine fr_eqi _ (hr.odds _ (by omega)) ?_
          rw [← e]
          exact cut (by rw [e]; exact hop)
        · have h2 : nI p = so := Decidable.not_not.mp h2
          have e : fm_o1 P so oo p = oo := by rw [fm_o1, if_pos h2]
          refine fr_iload hB dX0_above_63 rfl ?_
          refine fr_goto (tgt := 75) hB dX0_above_65 (by decide) ?_
          have hc9 := cut (by rw [e]; exact hoo)
          rw [e] at hc9
          exact hc9
  have l1 : ∀ (d i : Nat), i + d = 2 ^ P 0 0 → fm_W shC X 9 11 [some (.ref (fm_rh X 61)), some (.ref (fm_rh X k)), some (.long T), none, some (.int so), some (.int (nI oo)), some (.int (nI (2 ^ P 0 0))), some (.int (nI i)), none] [] (M.1, fm_row M.2 62 (fun j => if j < i then 0 else M.2 62 j)) (fm_Q shC X po) := by
    intro d
    induction d with
    | zero =>
      intro i hi
      refine fr_iload hB dX0_above_11 rfl ?_
      refine fr_iload hB dX0_above_13 rfl ?_
      refine fr_icmp_geN (tgt := 32) hB dX0_above_15 (by decide) (by omega) (by omega) (fun h => ?_) (fun h => ?_)
      · refine fr_aload_n hB dX0_above_32 rfl rfl ?_
        refine fr_getR hB dX0_above_33 lf_X0_9 rfl rfl ?_
        refine fr_iconst (v := nI 0) hB dX0_above_36 (by decide) ?_
        refine fr_lconst (v := 1) hB dX0_above_37 (by decide) ?_
        refine fr_last hB (_) dX0_above_38 rfl (rfl) (by omega) (by decide) ?_
        refine fr_iconst (v := nI 0) hB dX0_above_39 (by decide) ?_
        refine fr_istore hB dX0_above_40 (by decide) rfl ?_
        refine fr_mem _ (fm_pl_row (g' := fm_ini (2 ^ P 0 0) (M.2 62)) (fun j => ?_)) (l2 (P 0 0) 0 (by omega))
        unfold fm_ini
        by_cases e : j = 0
        · rw [if_pos e, if_pos e]
        · rw [if_neg e, if_neg e, show i = 2 ^ P 0 0 by omega]
      · exact absurd h (by omega)
    | succ d ih =>
      intro i hi
      refine fr_iload hB dX0_above_11 rfl ?_
      refine fr_iload hB dX0_above_13 rfl ?_
      refine fr_icmp_geN (tgt := 32) hB dX0_above_15 (by decide) (by omega) (by omega) (fun h => ?_) (fun h => ?_)
      · exact absurd h (by omega)
      · refine fr_aload_n hB dX0_above_18 rfl rfl ?_
        refine fr_getR hB dX0_above_19 lf_X0_9 rfl rfl ?_
        refine fr_iload hB dX0_above_22 rfl ?_
        refine fr_lconst (v := 0) hB dX0_above_24 (by decide) ?_
        refine fr_last hB (_) dX0_above_25 rfl (rfl) (by omega) (by decide) ?_
        refine fr_iincN (b := 1) hB dX0_above_26 rfl (by decide) (by decide) rfl ?_
        refine fr_goto (tgt := 11) hB dX0_above_29 (by decide) ?_
        refine fr_mem _ (fm_pl_row (g' := fun j => if j < i + 1 then 0 else M.2 62 j) (fun j => ?_)) (ih (i + 1) (by omega))
        by_cases e : j = i
        · rw [if_pos e, if_pos (by omega)]
        · rw [if_neg e]
          by_cases e2 : j < i
          · rw [if_pos e2, if_pos (by omega)]
          · rw [if_neg e2, if_neg (by omega)]
  refine fr_iconst (v := nI 1) hB dX0_above_0 (by decide) ?_
  refine fr_aload_n hB dX0_above_1 rfl rfl ?_
  refine fr_getI hB dX0_above_2 lf_X0_15 hs.o rfl ?_
  refine fr_eqi _ (hr.parts) ?_
  refine fr_ishl hB dX0_above_5 ?_
  refine fr_eqi (nI (2 ^ P 0 0)) (fm_shl1 h6) ?_
  refine fr_istore hB dX0_above_6 (by decide) rfl ?_
  refine fr_iconst (v := nI 0) hB dX0_above_8 (by decide) ?_
  refine fr_istore hB dX0_above_9 (by decide) rfl ?_
  refine fr_mem (M.1, fm_row M.2 62 (fun j => if j < 0 then 0 else M.2 62 j)) ?_ (l1 (2 ^ P 0 0) 0 (by omega))
  have e : (fun j => if j < 0 then (0 : Int64) else M.2 62 j) = M.2 62 := by
    funext j
    rw [if_neg (by omega)]
  rw [e, fm_row_self]
