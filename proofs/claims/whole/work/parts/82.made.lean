/-! ===== the constructors ===== -/
abbrev mm0 : fm_M := (fun _ _ => 0, fun _ _ => 0)
/-- cell k's int j is v, all else 0 -/
abbrev mm1 (k j : Nat) (v : Int32) : fm_M := (fun a => if a = k then (fun b => if b = j then v else 0) else fun _ => 0, fun _ _ => 0)
abbrev sh3 : List fm_S := [.inl (3, [some 1, some 2, none, some 3, some 4, some 5, some 6, none, none, some 7, some 8, none, some 9, some 10]), .inr (0, 6), .inr (0, 6), .inr (0, 8), .inr (0, 8), .inr (0, 32), .inr (0, 8), .inr (0, 3), .inr (0, 3), .inr (1, 8), .inr (1, 5)]
def mk3 : fm_M := mm1 0 8 (-1)
theorem gi_3 {l : Launch} {kA : Nat → ClassId} {D : va_G} : gk l kA D mX3_init 1 10 87 3 [.null, .null, .int 0, .null, .null, .null, .null, .int 0, .int 0, .null, .null, .int 0, .null, .null] [] sh3 mk3 := by
  refine gk.of (by decide +kernel) rfl (Nat.le_of_ble_eq_true rfl) ?_
  intro X h0 e1 e2 e3 hR hin hB
  subst e1 e2 e3
  have hB : gb X cX3_init 1 RX3 none := hB
  refine g_lv [some (.ref h0)] ⟨rfl, trivial⟩ ?_
  refine g_aload_n hB dX3_init_0 rfl rfl ?_
  refine g_obj hB dX3_init_1 co_X3_3 (g_rf hR (Nat.le_of_ble_eq_true rfl) (Nat.le_of_ble_eq_true rfl)) ?_
  refine g_aload_n hB dX3_init_4 rfl rfl ?_
  refine g_bipush (v := nI 6) hB dX3_init_5 (by decide) ?_
  refine g_newI hB 6 dX3_init_7 rfl (by decide) (g_rm hR (Nat.le_of_ble_eq_true rfl) (Nat.le_of_ble_eq_true rfl)) (fun q1 => ?_)
  refine g_putF (h0 := h0) (ci := 3) (fs := [.null, .null, .int 0, .null, .null, .null, .null, .int 0, .int 0, .null, .null, .int 0, .null, .null]) hB hin (v := .ref q1) dX3_init_9 cp_X3_9 rfl rfl (Nat.le_of_ble_eq_true rfl) ?_
  refine g_ws ([(h0, .inr (3, [.ref q1, .null, .int 0, .null, .null, .null, .null, .int 0, .int 0, .null, .null, .int 0, .null, .null])), (q1, .inl (fm_kA X 0, 6, .inl (fun _ => 0)))]) rfl ?_
  refine g_aload_n hB dX3_init_12 rfl rfl ?_
  refine g_bipush (v := nI 6) hB dX3_init_13 (by decide) ?_
  refine g_newI hB 6 dX3_init_15 rfl (by decide) (g_rm hR (Nat.le_of_ble_eq_true rfl) (Nat.le_of_ble_eq_true rfl)) (fun q2 => ?_)
  refine g_putF (h0 := h0) (ci := 3) (fs := [.ref q1, .null, .int 0, .null, .null, .null, .null, .int 0, .int 0, .null, .null, .int 0, .null, .null]) hB hin (v := .ref q2) dX3_init_17 cp_X3_15 rfl rfl (Nat.le_of_ble_eq_true rfl) ?_
  refine g_ws ([(h0, .inr (3, [.ref q1, .ref q2, .int 0, .null, .null, .null, .null, .int 0, .int 0, .null, .null, .int 0, .null, .null])), (q1, .inl (fm_kA X 0, 6, .inl (fun _ => 0))), (q2, .inl (fm_kA X 0, 6, .inl (fun _ => 0)))]) rfl ?_
  refine g_aload_n hB dX3_init_20 rfl rfl ?_
  refine g_bipush (v := nI 8) hB dX3_init_21 (by decide) ?_
  refine g_newI hB 8 dX3_init_23 rfl (by decide) (g_rm hR (Nat.le_of_ble_eq_true rfl) (Nat.le_of_ble_eq_true rfl)) (fun q3 => ?_)
  refine g_putF (h0 := h0) (ci := 3) (fs := [.ref q1, .ref q2, .int 0, .null, .null, .null, .null, .int 0, .int 0, .null, .null, .int 0, .null, .null]) hB hin (v := .ref q3) dX3_init_25 cp_X3_18 rfl rfl (Nat.le_of_ble_eq_true rfl) ?_
  refine g_ws ([(h0, .inr (3, [.ref q1, .ref q2, .int 0, .ref q3, .null, .null, .null, .int 0, .int 0, .null, .null, .int 0, .null, .null])), (q1, .inl (fm_kA X 0, 6, .inl (fun _ => 0))), (q2, .inl (fm_kA X 0, 6, .inl (fun _ => 0))), (q3, .inl (fm_kA X 0, 8, .inl (fun _ => 0)))]) rfl ?_
  refine g_aload_n hB dX3_init_28 rfl rfl ?_
  refine g_bipush (v := nI 8) hB dX3_init_29 (by decide) ?_
  refine g_newI hB 8 dX3_init_31 rfl (by decide) (g_rm hR (Nat.le_of_ble_eq_true rfl) (Nat.le_of_ble_eq_true rfl)) (fun q4 => ?_)
  refine g_putF (h0 := h0) (ci := 3) (fs := [.ref q1, .ref q2, .int 0, .ref q3, .null, .null, .null, .int 0, .int 0, .null, .null, .int 0, .null, .null]) hB hin (v := .ref q4) dX3_init_33 cp_X3_21 rfl rfl (Nat.le_of_ble_eq_true rfl) ?_
  refine g_ws ([(h0, .inr (3, [.ref q1, .ref q2, .int 0, .ref q3, .ref q4, .null, .null, .int 0, .int 0, .null, .null, .int 0, .null, .null])), (q1, .inl (fm_kA X 0, 6, .inl (fun _ => 0))), (q2, .inl (fm_kA X 0, 6, .inl (fun _ => 0))), (q3, .inl (fm_kA X 0, 8, .inl (fun _ => 0))), (q4, .inl (fm_kA X 0, 8, .inl (fun _ => 0)))]) rfl ?_
  refine g_aload_n hB dX3_init_36 rfl rfl ?_
  refine g_bipush (v := nI 32) hB dX3_init_37 (by decide) ?_
  refine g_newI hB 32 dX3_init_39 rfl (by decide) (g_rm hR (Nat.le_of_ble_eq_true rfl) (Nat.le_of_ble_eq_true rfl)) (fun q5 => ?_)
  refine g_putF (h0 := h0) (ci := 3) (fs := [.ref q1, .ref q2, .int 0, .ref q3, .ref q4, .null, .null, .int 0, .int 0, .null, .null, .int 0, .null, .null]) hB hin (v := .ref q5) dX3_init_41 cp_X3_24 rfl rfl (Nat.le_of_ble_eq_true rfl) ?_
  refine g_ws ([(h0, .inr (3, [.ref q1, .ref q2, .int 0, .ref q3, .ref q4, .ref q5, .null, .int 0, .int 0, .null, .null, .int 0, .null, .null])), (q1, .inl (fm_kA X 0, 6, .inl (fun _ => 0))), (q2, .inl (fm_kA X 0, 6, .inl (fun _ => 0))), (q3, .inl (fm_kA X 0, 8, .inl (fun _ => 0))), (q4, .inl (fm_kA X 0, 8, .inl (fun _ => 0))), (q5, .inl (fm_kA X 0, 32, .inl (fun _ => 0)))]) rfl ?_
  refine g_aload_n hB dX3_init_44 rfl rfl ?_
  refine g_bipush (v := nI 8) hB dX3_init_45 (by decide) ?_
  refine g_newI hB 8 dX3_init_47 rfl (by decide) (g_rm hR (Nat.le_of_ble_eq_true rfl) (Nat.le_of_ble_eq_true rfl)) (fun q6 => ?_)
  refine g_putF (h0 := h0) (ci := 3) (fs := [.ref q1, .ref q2, .int 0, .ref q3, .ref q4, .ref q5, .null, .int 0, .int 0, .null, .null, .int 0, .null, .null]) hB hin (v := .ref q6) dX3_init_49 cp_X3_27 rfl rfl (Nat.le_of_ble_eq_true rfl) ?_
  refine g_ws ([(h0, .inr (3, [.ref q1, .ref q2, .int 0, .ref q3, .ref q4, .ref q5, .ref q6, .int 0, .int 0, .null, .null, .int 0, .null, .null])), (q1, .inl (fm_kA X 0, 6, .inl (fun _ => 0))), (q2, .inl (fm_kA X 0, 6, .inl (fun _ => 0))), (q3, .inl (fm_kA X 0, 8, .inl (fun _ => 0))), (q4, .inl (fm_kA X 0, 8, .inl (fun _ => 0))), (q5, .inl (fm_kA X 0, 32, .inl (fun _ => 0))), (q6, .inl (fm_kA X 0, 8, .inl (fun _ => 0)))]) rfl ?_
  refine g_aload_n hB dX3_init_52 rfl rfl ?_
  refine g_iconst (v := -1) hB dX3_init_53 (by decide) ?_
  refine g_putN (h0 := h0) (ci := 3) (fs := [.ref q1, .ref q2, .int 0, .ref q3, .ref q4, .ref q5, .ref q6, .int 0, .int 0, .null, .null, .int 0, .null, .null]) hB (v := .int (-1)) dX3_init_54 cp_X3_30 rfl rfl (Nat.le_of_ble_eq_true rfl) ?_
  refine g_ws ([(h0, .inr (3, [.ref q1, .ref q2, .int 0, .ref q3, .ref q4, .ref q5, .ref q6, .int 0, .int (-1), .null, .null, .int 0, .null, .null])), (q1, .inl (fm_kA X 0, 6, .inl (fun _ => 0))), (q2, .inl (fm_kA X 0, 6, .inl (fun _ => 0))), (q3, .inl (fm_kA X 0, 8, .inl (fun _ => 0))), (q4, .inl (fm_kA X 0, 8, .inl (fun _ => 0))), (q5, .inl (fm_kA X 0, 32, .inl (fun _ => 0))), (q6, .inl (fm_kA X 0, 8, .inl (fun _ => 0)))]) rfl ?_
  refine g_aload_n hB dX3_init_57 rfl rfl ?_
  refine g_iconst (v := nI 3) hB dX3_init_58 (by decide) ?_
  refine g_newI hB 3 dX3_init_59 rfl (by decide) (g_rm hR (Nat.le_of_ble_eq_true rfl) (Nat.le_of_ble_eq_true rfl)) (fun q7 => ?_)
  refine g_putF (h0 := h0) (ci := 3) (fs := [.ref q1, .ref q2, .int 0, .ref q3, .ref q4, .ref q5, .ref q6, .int 0, .int (-1), .null, .null, .int 0, .null, .null]) hB hin (v := .ref q7) dX3_init_61 cp_X3_34 rfl rfl (Nat.le_of_ble_eq_true rfl) ?_
  refine g_ws ([(h0, .inr (3, [.ref q1, .ref q2, .int 0, .ref q3, .ref q4, .ref q5, .ref q6, .int 0, .int (-1), .ref q7, .null, .int 0, .null, .null])), (q1, .inl (fm_kA X 0, 6, .inl (fun _ => 0))), (q2, .inl (fm_kA X 0, 6, .inl (fun _ => 0))), (q3, .inl (fm_kA X 0, 8, .inl (fun _ => 0))), (q4, .inl (fm_kA X 0, 8, .inl (fun _ => 0))), (q5, .inl (fm_kA X 0, 32, .inl (fun _ => 0))), (q6, .inl (fm_kA X 0, 8, .inl (fun _ => 0))), (q7, .inl (fm_kA X 0, 3, .inl (fun _ => 0)))]) rfl ?_
  refine g_aload_n hB dX3_init_64 rfl rfl ?_
  refine g_iconst (v := nI 3) hB dX3_init_65 (by decide) ?_
  refine g_newI hB 3 dX3_init_66 rfl (by decide) (g_rm hR (Nat.le_of_ble_eq_true rfl) (Nat.le_of_ble_eq_true rfl)) (fun q8 => ?_)
  refine g_putF (h0 := h0) (ci := 3) (fs := [.ref q1, .ref q2, .int 0, .ref q3, .ref q4, .ref q5, .ref q6, .int 0, .int (-1), .ref q7, .null, .int 0, .null, .null]) hB hin (v := .ref q8) dX3_init_68 cp_X3_37 rfl rfl (Nat.le_of_ble_eq_true rfl) ?_
  refine g_ws ([(h0, .inr (3, [.ref q1, .ref q2, .int 0, .ref q3, .ref q4, .ref q5, .ref q6, .int 0, .int (-1), .ref q7, .ref q8, .int 0, .null, .null])), (q1, .inl (fm_kA X 0, 6, .inl (fun _ => 0))), (q2, .inl (fm_kA X 0, 6, .inl (fun _ => 0))), (q3, .inl (fm_kA X 0, 8, .inl (fun _ => 0))), (q4, .inl (fm_kA X 0, 8, .inl (fun _ => 0))), (q5, .inl (fm_kA X 0, 32, .inl (fun _ => 0))), (q6, .inl (fm_kA X 0, 8, .inl (fun _ => 0))), (q7, .inl (fm_kA X 0, 3, .inl (fun _ => 0))), (q8, .inl (fm_kA X 0, 3, .inl (fun _ => 0)))]) rfl ?_
  refine g_aload_n hB dX3_init_71 rfl rfl ?_
  refine g_bipush (v := nI 8) hB dX3_init_72 (by decide) ?_
  refine g_newL hB 8 dX3_init_74 rfl (by decide) (g_rm hR (Nat.le_of_ble_eq_true rfl) (Nat.le_of_ble_eq_true rfl)) (fun q9 => ?_)
  refine g_putF (h0 := h0) (ci := 3) (fs := [.ref q1, .ref q2, .int 0, .ref q3, .ref q4, .ref q5, .ref q6, .int 0, .int (-1), .ref q7, .ref q8, .int 0, .null, .null]) hB hin (v := .ref q9) dX3_init_76 cp_X3_40 rfl rfl (Nat.le_of_ble_eq_true rfl) ?_
  refine g_ws ([(h0, .inr (3, [.ref q1, .ref q2, .int 0, .ref q3, .ref q4, .ref q5, .ref q6, .int 0, .int (-1), .ref q7, .ref q8, .int 0, .ref q9, .null])), (q1, .inl (fm_kA X 0, 6, .inl (fun _ => 0))), (q2, .inl (fm_kA X 0, 6, .inl (fun _ => 0))), (q3, .inl (fm_kA X 0, 8, .inl (fun _ => 0))), (q4, .inl (fm_kA X 0, 8, .inl (fun _ => 0))), (q5, .inl (fm_kA X 0, 32, .inl (fun _ => 0))), (q6, .inl (fm_kA X 0, 8, .inl (fun _ => 0))), (q7, .inl (fm_kA X 0, 3, .inl (fun _ => 0))), (q8, .inl (fm_kA X 0, 3, .inl (fun _ => 0))), (q9, .inl (fm_kA X 1, 8, .inr (.inl (fun _ => 0))))]) rfl ?_
  refine g_aload_n hB dX3_init_79 rfl rfl ?_
  refine g_iconst (v := nI 5) hB dX3_init_80 (by decide) ?_
  refine g_newL hB 5 dX3_init_81 rfl (by decide) (g_rm hR (Nat.le_of_ble_eq_true rfl) (Nat.le_of_ble_eq_true rfl)) (fun q10 => ?_)
  refine g_putF (h0 := h0) (ci := 3) (fs := [.ref q1, .ref q2, .int 0, .ref q3, .ref q4, .ref q5, .ref q6, .int 0, .int (-1), .ref q7, .ref q8, .int 0, .ref q9, .null]) hB hin (v := .ref q10) dX3_init_83 cp_X3_44 rfl rfl (Nat.le_of_ble_eq_true rfl) ?_
  refine g_ws ([(h0, .inr (3, [.ref q1, .ref q2, .int 0, .ref q3, .ref q4, .ref q5, .ref q6, .int 0, .int (-1), .ref q7, .ref q8, .int 0, .ref q9, .ref q10])), (q1, .inl (fm_kA X 0, 6, .inl (fun _ => 0))), (q2, .inl (fm_kA X 0, 6, .inl (fun _ => 0))), (q3, .inl (fm_kA X 0, 8, .inl (fun _ => 0))), (q4, .inl (fm_kA X 0, 8, .inl (fun _ => 0))), (q5, .inl (fm_kA X 0, 32, .inl (fun _ => 0))), (q6, .inl (fm_kA X 0, 8, .inl (fun _ => 0))), (q7, .inl (fm_kA X 0, 3, .inl (fun _ => 0))), (q8, .inl (fm_kA X 0, 3, .inl (fun _ => 0))), (q9, .inl (fm_kA X 1, 8, .inr (.inl (fun _ => 0)))), (q10, .inl (fm_kA X 1, 5, .inr (.inl (fun _ => 0))))]) rfl ?_
  exact g_ret hB (fun k => if k = 0 then h0 else if k = 1 then q1 else if k = 2 then q2 else if k = 3 then q3 else if k = 4 then q4 else if k = 5 then q5 else if k = 6 then q6 else if k = 7 then q7 else if k = 8 then q8 else if k = 9 then q9 else if k = 10 then q10 else 0) dX3_init_86 rfl rfl
abbrev sh1 : List fm_S := [.inl (1, [none, some 1, some 2, some 3, some 4]), .inr (1, 64), .inr (0, 64), .inr (0, 64), .inr (0, 64)]
def mk1 : fm_M := mm0
theorem gi_1 {l : Launch} {kA : Nat → ClassId} {D : va_G} : gk l kA D mX1_init 1 4 256 1 [.int 0, .null, .null, .null, .null] [] sh1 mk1 := by
  refine gk.of (by decide +kernel) rfl (Nat.le_of_ble_eq_true rfl) ?_
  intro X h0 e1 e2 e3 hR hin hB
  subst e1 e2 e3
  have hB : gb X cX1_init 1 RX1 none := hB
  refine g_lv [some (.ref h0)] ⟨rfl, trivial⟩ ?_
  refine g_aload_n hB dX1_init_0 rfl rfl ?_
  refine g_obj hB dX1_init_1 co_X1_3 (g_rf hR (Nat.le_of_ble_eq_true rfl) (Nat.le_of_ble_eq_true rfl)) ?_
  refine g_aload_n hB dX1_init_4 rfl rfl ?_
  refine g_bipush (v := nI 64) hB dX1_init_5 (by decide) ?_
  refine g_newL hB 64 dX1_init_7 rfl (by decide) (g_rm hR (Nat.le_of_ble_eq_true rfl) (Nat.le_of_ble_eq_true rfl)) (fun q1 => ?_)
  refine g_putF (h0 := h0) (ci := 1) (fs := [.int 0, .null, .null, .null, .null]) hB hin (v := .ref q1) dX1_init_9 cp_X1_11 rfl rfl (Nat.le_of_ble_eq_true rfl) ?_
  refine g_ws ([(h0, .inr (1, [.int 0, .ref q1, .null, .null, .null])), (q1, .inl (fm_kA X 1, 64, .inr (.inl (fun _ => 0))))]) rfl ?_
  refine g_aload_n hB dX1_init_12 rfl rfl ?_
  refine g_bipush (v := nI 64) hB dX1_init_13 (by decide) ?_
  refine g_newI hB 64 dX1_init_15 rfl (by decide) (g_rm hR (Nat.le_of_ble_eq_true rfl) (Nat.le_of_ble_eq_true rfl)) (fun q2 => ?_)
  refine g_putF (h0 := h0) (ci := 1) (fs := [.int 0, .ref q1, .null, .null, .null]) hB hin (v := .ref q2) dX1_init_17 cp_X1_15 rfl rfl (Nat.le_of_ble_eq_true rfl) ?_
  refine g_ws ([(h0, .inr (1, [.int 0, .ref q1, .ref q2, .null, .null])), (q1, .inl (fm_kA X 1, 64, .inr (.inl (fun _ => 0)))), (q2, .inl (fm_kA X 0, 64, .inl (fun _ => 0)))]) rfl ?_
  refine g_aload_n hB dX1_init_20 rfl rfl ?_
  refine g_bipush (v := nI 64) hB dX1_init_21 (by decide) ?_
  refine g_newI hB 64 dX1_init_23 rfl (by decide) (g_rm hR (Nat.le_of_ble_eq_true rfl) (Nat.le_of_ble_eq_true rfl)) (fun q3 => ?_)
  refine g_putF (h0 := h0) (ci := 1) (fs := [.int 0, .ref q1, .ref q2, .null, .null]) hB hin (v := .ref q3) dX1_init_25 cp_X1_19 rfl rfl (Nat.le_of_ble_eq_true rfl) ?_
  refine g_ws ([(h0, .inr (1, [.int 0, .ref q1, .ref q2, .ref q3, .null])), (q1, .inl (fm_kA X 1, 64, .inr (.inl (fun _ => 0)))), (q2, .inl (fm_kA X 0, 64, .inl (fun _ => 0))), (q3, .inl (fm_kA X 0, 64, .inl (fun _ => 0)))]) rfl ?_
  refine g_aload_n hB dX1_init_28 rfl rfl ?_
  refine g_bipush (v := nI 64) hB dX1_init_29 (by decide) ?_
  refine g_newI hB 64 dX1_init_31 rfl (by decide) (g_rm hR (Nat.le_of_ble_eq_true rfl) (Nat.le_of_ble_eq_true rfl)) (fun q4 => ?_)
  refine g_putF (h0 := h0) (ci := 1) (fs := [.int 0, .ref q1, .ref q2, .ref q3, .null]) hB hin (v := .ref q4) dX1_init_33 cp_X1_22 rfl rfl (Nat.le_of_ble_eq_true rfl) ?_
  refine g_ws ([(h0, .inr (1, [.int 0, .ref q1, .ref q2, .ref q3, .ref q4])), (q1, .inl (fm_kA X 1, 64, .inr (.inl (fun _ => 0)))), (q2, .inl (fm_kA X 0, 64, .inl (fun _ => 0))), (q3, .inl (fm_kA X 0, 64, .inl (fun _ => 0))), (q4, .inl (fm_kA X 0, 64, .inl (fun _ => 0)))]) rfl ?_
  exact g_ret hB (fun k => if k = 0 then h0 else if k = 1 then q1 else if k = 2 then q2 else if k = 3 then q3 else if k = 4 then q4 else 0) dX1_init_36 rfl rfl
abbrev sh2 : List fm_S := [.inl (2, [some 1, none]), .inr (0, 64)]
def mk2 : fm_M := mm0
theorem gi_2 {l : Launch} {kA : Nat → ClassId} {D : va_G} : gk l kA D mX2_init 1 1 64 2 [.null, .int 0] [] sh2 mk2 := by
  refine gk.of (by decide +kernel) rfl (Nat.le_of_ble_eq_true rfl) ?_
  intro X h0 e1 e2 e3 hR hin hB
  subst e1 e2 e3
  have hB : gb X cX2_init 1 RX2 none := hB
  refine g_lv [some (.ref h0)] ⟨rfl, trivial⟩ ?_
  refine g_aload_n hB dX2_init_0 rfl rfl ?_
  refine g_obj hB dX2_init_1 co_X2_3 (g_rf hR (Nat.le_of_ble_eq_true rfl) (Nat.le_of_ble_eq_true rfl)) ?_
  refine g_aload_n hB dX2_init_4 rfl rfl ?_
  refine g_bipush (v := nI 64) hB dX2_init_5 (by decide) ?_
  refine g_newI hB 64 dX2_init_7 rfl (by decide) (g_rm hR (Nat.le_of_ble_eq_true rfl) (Nat.le_of_ble_eq_true rfl)) (fun q1 => ?_)
  refine g_putF (h0 := h0) (ci := 2) (fs := [.null, .int 0]) hB hin (v := .ref q1) dX2_init_9 cp_X2_9 rfl rfl (Nat.le_of_ble_eq_true rfl) ?_
  refine g_ws ([(h0, .inr (2, [.ref q1, .int 0])), (q1, .inl (fm_kA X 0, 64, .inl (fun _ => 0)))]) rfl ?_
  exact g_ret hB (fun k => if k = 0 then h0 else if k = 1 then q1 else 0) dX2_init_12 rfl rfl
abbrev sh0 : List fm_S := [.inl (0, [some 1]), .inr (1, 64)]
def mk0 : fm_M := mm0
theorem gi_0 {l : Launch} {kA : Nat → ClassId} {D : va_G} : gk l kA D mX0_init 1 1 64 0 [.null] [] sh0 mk0 := by
  refine gk.of (by decide +kernel) rfl (Nat.le_of_ble_eq_true rfl) ?_
  intro X h0 e1 e2 e3 hR hin hB
  subst e1 e2 e3
  have hB : gb X cX0_init 1 RX0 none := hB
  refine g_lv [some (.ref h0)] ⟨rfl, trivial⟩ ?_
  refine g_aload_n hB dX0_init_0 rfl rfl ?_
  refine g_obj hB dX0_init_1 co_X0_3 (g_rf hR (Nat.le_of_ble_eq_true rfl) (Nat.le_of_ble_eq_true rfl)) ?_
  refine g_aload_n hB dX0_init_4 rfl rfl ?_
  refine g_bipush (v := nI 64) hB dX0_init_5 (by decide) ?_
  refine g_newL hB 64 dX0_init_7 rfl (by decide) (g_rm hR (Nat.le_of_ble_eq_true rfl) (Nat.le_of_ble_eq_true rfl)) (fun q1 => ?_)
  refine g_putF (h0 := h0) (ci := 0) (fs := [.null]) hB hin (v := .ref q1) dX0_init_9 cp_X0_9 rfl rfl (Nat.le_of_ble_eq_true rfl) ?_
  refine g_ws ([(h0, .inr (0, [.ref q1])), (q1, .inl (fm_kA X 1, 64, .inr (.inl (fun _ => 0))))]) rfl ?_
  exact g_ret hB (fun k => if k = 0 then h0 else if k = 1 then q1 else 0) dX0_init_12 rfl rfl
abbrev sh5 : List fm_S := [.inl (5, [none, none, none, some 1, some 2, some 3, some 4]), .inr (0, 16), .inr (0, 16), .inr (0, 16), .inr (2, 100)]
def mk5 : fm_M := mm0
theorem gi_5 {l : Launch} {kA : Nat → ClassId} {D : va_G} : gk l kA D mX5_init 1 4 148 5 [.int 0, .int 0, .int 0, .null, .null, .null, .null] [] sh5 mk5 := by
  refine gk.of (by decide +kernel) rfl (Nat.le_of_ble_eq_true rfl) ?_
  intro X h0 e1 e2 e3 hR hin hB
  subst e1 e2 e3
  have hB : gb X cX5_init 1 RX5 none := hB
  refine g_lv [some (.ref h0)] ⟨rfl, trivial⟩ ?_
  refine g_aload_n hB dX5_init_0 rfl rfl ?_
  refine g_obj hB dX5_init_1 co_X5_3 (g_rf hR (Nat.le_of_ble_eq_true rfl) (Nat.le_of_ble_eq_true rfl)) ?_
  refine g_aload_n hB dX5_init_4 rfl rfl ?_
  refine g_bipush (v := nI 16) hB dX5_init_5 (by decide) ?_
  refine g_newI hB 16 dX5_init_7 rfl (by decide) (g_rm hR (Nat.le_of_ble_eq_true rfl) (Nat.le_of_ble_eq_true rfl)) (fun q1 => ?_)
  refine g_putF (h0 := h0) (ci := 5) (fs := [.int 0, .int 0, .int 0, .null, .null, .null, .null]) hB hin (v := .ref q1) dX5_init_9 cp_X5_11 rfl rfl (Nat.le_of_ble_eq_true rfl) ?_
  refine g_ws ([(h0, .inr (5, [.int 0, .int 0, .int 0, .ref q1, .null, .null, .null])), (q1, .inl (fm_kA X 0, 16, .inl (fun _ => 0)))]) rfl ?_
  refine g_aload_n hB dX5_init_12 rfl rfl ?_
  refine g_bipush (v := nI 16) hB dX5_init_13 (by decide) ?_
  refine g_newI hB 16 dX5_init_15 rfl (by decide) (g_rm hR (Nat.le_of_ble_eq_true rfl) (Nat.le_of_ble_eq_true rfl)) (fun q2 => ?_)
  refine g_putF (h0 := h0) (ci := 5) (fs := [.int 0, .int 0, .int 0, .ref q1, .null, .null, .null]) hB hin (v := .ref q2) dX5_init_17 cp_X5_15 rfl rfl (Nat.le_of_ble_eq_true rfl) ?_
  refine g_ws ([(h0, .inr (5, [.int 0, .int 0, .int 0, .ref q1, .ref q2, .null, .null])), (q1, .inl (fm_kA X 0, 16, .inl (fun _ => 0))), (q2, .inl (fm_kA X 0, 16, .inl (fun _ => 0)))]) rfl ?_
  refine g_aload_n hB dX5_init_20 rfl rfl ?_
  refine g_bipush (v := nI 16) hB dX5_init_21 (by decide) ?_
  refine g_newI hB 16 dX5_init_23 rfl (by decide) (g_rm hR (Nat.le_of_ble_eq_true rfl) (Nat.le_of_ble_eq_true rfl)) (fun q3 => ?_)
  refine g_putF (h0 := h0) (ci := 5) (fs := [.int 0, .int 0, .int 0, .ref q1, .ref q2, .null, .null]) hB hin (v := .ref q3) dX5_init_25 cp_X5_18 rfl rfl (Nat.le_of_ble_eq_true rfl) ?_
  refine g_ws ([(h0, .inr (5, [.int 0, .int 0, .int 0, .ref q1, .ref q2, .ref q3, .null])), (q1, .inl (fm_kA X 0, 16, .inl (fun _ => 0))), (q2, .inl (fm_kA X 0, 16, .inl (fun _ => 0))), (q3, .inl (fm_kA X 0, 16, .inl (fun _ => 0)))]) rfl ?_
  refine g_aload_n hB dX5_init_28 rfl rfl ?_
  refine g_bipush (v := nI 100) hB dX5_init_29 (by decide) ?_
  refine g_newB hB 100 dX5_init_31 rfl (by decide) (g_rm hR (Nat.le_of_ble_eq_true rfl) (Nat.le_of_ble_eq_true rfl)) (fun q4 => ?_)
  refine g_putF (h0 := h0) (ci := 5) (fs := [.int 0, .int 0, .int 0, .ref q1, .ref q2, .ref q3, .null]) hB hin (v := .ref q4) dX5_init_33 cp_X5_21 rfl rfl (Nat.le_of_ble_eq_true rfl) ?_
  refine g_ws ([(h0, .inr (5, [.int 0, .int 0, .int 0, .ref q1, .ref q2, .ref q3, .ref q4])), (q1, .inl (fm_kA X 0, 16, .inl (fun _ => 0))), (q2, .inl (fm_kA X 0, 16, .inl (fun _ => 0))), (q3, .inl (fm_kA X 0, 16, .inl (fun _ => 0))), (q4, .inl (fm_kA X 2, 100, .inl (fun _ => 0)))]) rfl ?_
  exact g_ret hB (fun k => if k = 0 then h0 else if k = 1 then q1 else if k = 2 then q2 else if k = 3 then q3 else if k = 4 then q4 else 0) dX5_init_36 rfl rfl
abbrev sh7 : List fm_S := [.inl (7, [none, none, some 1]), .inr (1, 60)]
def mk7 : fm_M := mm1 0 0 (-1)
theorem gi_7 {l : Launch} {kA : Nat → ClassId} {D : va_G} : gk l kA D mX7_init 1 1 60 7 [.int 0, .int 0, .null] [] sh7 mk7 := by
  refine gk.of (by decide +kernel) rfl (Nat.le_of_ble_eq_true rfl) ?_
  intro X h0 e1 e2 e3 hR hin hB
  subst e1 e2 e3
  have hB : gb X cX7_init 1 RX7 none := hB
  refine g_lv [some (.ref h0)] ⟨rfl, trivial⟩ ?_
  refine g_aload_n hB dX7_init_0 rfl rfl ?_
  refine g_obj hB dX7_init_1 co_X7_1 (g_rf hR (Nat.le_of_ble_eq_true rfl) (Nat.le_of_ble_eq_true rfl)) ?_
  refine g_aload_n hB dX7_init_4 rfl rfl ?_
  refine g_iconst (v := -1) hB dX7_init_5 (by decide) ?_
  refine g_putN (h0 := h0) (ci := 7) (fs := [.int 0, .int 0, .null]) hB (v := .int (-1)) dX7_init_6 cp_X7_9 rfl rfl (Nat.le_of_ble_eq_true rfl) ?_
  refine g_ws ([(h0, .inr (7, [.int (-1), .int 0, .null]))]) rfl ?_
  refine g_aload_n hB dX7_init_9 rfl rfl ?_
  refine g_bipush (v := nI 60) hB dX7_init_10 (by decide) ?_
  refine g_newL hB 60 dX7_init_12 rfl (by decide) (g_rm hR (Nat.le_of_ble_eq_true rfl) (Nat.le_of_ble_eq_true rfl)) (fun q1 => ?_)
  refine g_putF (h0 := h0) (ci := 7) (fs := [.int (-1), .int 0, .null]) hB hin (v := .ref q1) dX7_init_14 cp_X7_13 rfl rfl (Nat.le_of_ble_eq_true rfl) ?_
  refine g_ws ([(h0, .inr (7, [.int (-1), .int 0, .ref q1])), (q1, .inl (fm_kA X 1, 60, .inr (.inl (fun _ => 0))))]) rfl ?_
  exact g_ret hB (fun k => if k = 0 then h0 else if k = 1 then q1 else 0) dX7_init_17 rfl rfl
abbrev sh4 (n : Nat) : List fm_S := [.inl (4, [some 1, some 2, none]), .inr (0, n), .inr (0, n)]
def mk4 : fm_M := mm0
theorem gi_4 {l : Launch} {kA : Nat → ClassId} {D : va_G} {n : Nat} (hn : n ≤ 1000) : gk l kA D mX4_init 1 2 (n + n) 4 [.null, .null, .int 0] [.int (nI n)] (sh4 n) mk4 := by
  refine gk.of (by decide +kernel) rfl (Nat.le_of_ble_eq_true rfl) ?_
  intro X h0 e1 e2 e3 hR hin hB
  subst e1 e2 e3
  have hB : gb X cX4_init 3 RX4 none := hB
  have en : nI n = nI n := rfl
  refine g_lv [some (.ref h0), some (.int (nI n)), none] ⟨rfl, rfl, trivial⟩ ?_
  refine g_aload_n hB dX4_init_0 rfl rfl ?_
  refine g_obj hB dX4_init_1 co_X4_3 (g_rf hR (Nat.le_of_ble_eq_true rfl) (Nat.le_of_ble_eq_true rfl)) ?_
  refine g_iload_n hB dX4_init_4 rfl rfl ?_
  refine g_iconst (v := nI 0) hB dX4_init_5 (by decide) ?_
  refine g_max hB dX4_init_6 lx_X4_9.1 lx_X4_9.2.1 lx_X4_9.2.2.1 lx_X4_9.2.2.2 (Nat.le_of_ble_eq_true rfl) (g_rf hR (Nat.le_of_ble_eq_true rfl) (Nat.le_of_ble_eq_true rfl)) ?_ (g_rm hR (Nat.zero_le _) (Nat.zero_le _))
  refine g_eqi (nI n) (if_neg (show ¬ nI n < nI 0 from nI_pos (by omega))) ?_
  refine g_istore_n hB dX4_init_9 rfl (by decide) rfl ?_
  refine g_aload_n hB dX4_init_10 rfl rfl ?_
  refine g_iload_n hB dX4_init_11 rfl rfl ?_
  refine g_newI hB n dX4_init_12 en hn (g_rm hR (by omega) (by omega)) (fun q1 => ?_)
  refine g_putF (h0 := h0) (ci := 4) (fs := [.null, .null, .int 0]) hB hin (v := .ref q1) dX4_init_14 cp_X4_15 rfl rfl (Nat.le_of_ble_eq_true rfl) ?_
  refine g_ws ([(h0, .inr (4, [.ref q1, .null, .int 0])), (q1, .inl (fm_kA X 0, n, .inl (fun _ => 0)))]) rfl ?_
  refine g_aload_n hB dX4_init_17 rfl rfl ?_
  refine g_iload_n hB dX4_init_18 rfl rfl ?_
  refine g_newI hB n dX4_init_19 en hn (g_rm hR (by omega) (by omega)) (fun q2 => ?_)
  refine g_putF (h0 := h0) (ci := 4) (fs := [.ref q1, .null, .int 0]) hB hin (v := .ref q2) dX4_init_21 cp_X4_21 rfl rfl (Nat.le_of_ble_eq_true rfl) ?_
  refine g_ws ([(h0, .inr (4, [.ref q1, .ref q2, .int 0])), (q1, .inl (fm_kA X 0, n, .inl (fun _ => 0))), (q2, .inl (fm_kA X 0, n, .inl (fun _ => 0)))]) rfl ?_
  refine g_cs 2 (n + n) rfl (by omega) ?_
  exact g_ret hB (fun k => if k = 0 then h0 else if k = 1 then q1 else if k = 2 then q2 else 0) dX4_init_24 rfl rfl
abbrev sh9 : List fm_S := [.inl (9, [none, some 1, some 2, none, some 3, some 4, some 5, some 6, none, none, some 7, some 8, none, some 9, some 10, none, some 11, none, some 12, none, some 13, some 14, none, some 15, some 16, some 17, some 18, none, some 19, some 20, none, some 21, some 22, some 23, some 24]), .inr (0, 6), .inr (0, 6), .inr (0, 8), .inr (0, 8), .inr (0, 8), .inr (0, 32), .inr (0, 3), .inr (0, 3), .inr (0, 6), .inr (0, 6), .inr (0, 16), .inr (0, 8), .inr (0, 100), .inr (3, 8), .inr (1, 64), .inr (0, 64), .inr (0, 64), .inr (0, 64), .inr (0, 64), .inr (0, 20), .inr (0, 124), .inr (0, 6), .inr (0, 6), .inr (1, 360)]
def mk9 : fm_M := (fun a => if a = 0 then (fun b => if b = 8 then -1 else 0) else if a = 22 then upd (upd (upd (upd (upd (upd (fun _ => 0) 0 (-1)) 1 (-1)) 2 (-1)) 3 (-1)) 4 (-1)) 5 (-1) else fun _ => 0, fun _ _ => 0)
theorem gi_9 {l : Launch} {kA : Nat → ClassId} {D : va_G} : gk l kA D mX9_init 1 24 1054 9 [.int 0, .null, .null, .int 0, .null, .null, .null, .null, .int 0, .int 0, .null, .null, .int 0, .null, .null, .int 0, .null, .int 0, .null, .int 0, .null, .null, .int 0, .null, .null, .null, .null, .int 0, .null, .null, .int 0, .null, .null, .null, .null] [] sh9 mk9 := by
  refine gk.of (by decide +kernel) rfl (Nat.le_of_ble_eq_true rfl) ?_
  intro X h0 e1 e2 e3 hR hin hB
  subst e1 e2 e3
  have hB : gb X cX9_init 2 RX9 none := hB
  refine g_lv [some (.ref h0), none] ⟨rfl, trivial⟩ ?_
  refine g_aload_n hB dX9_init_0 rfl rfl ?_
  refine g_obj hB dX9_init_1 co_X9_3 (g_rf hR (Nat.le_of_ble_eq_true rfl) (Nat.le_of_ble_eq_true rfl)) ?_
  refine g_aload_n hB dX9_init_4 rfl rfl ?_
  refine g_bipush (v := nI 6) hB dX9_init_5 (by decide) ?_
  refine g_newI hB 6 dX9_init_7 rfl (by decide) (g_rm hR (Nat.le_of_ble_eq_true rfl) (Nat.le_of_ble_eq_true rfl)) (fun q1 => ?_)
  refine g_putF (h0 := h0) (ci := 9) (fs := [.int 0, .null, .null, .int 0, .null, .null, .null, .null, .int 0, .int 0, .null, .null, .int 0, .null, .null, .int 0, .null, .int 0, .null, .int 0, .null, .null, .int 0, .null, .null, .null, .null, .int 0, .null, .null, .int 0, .null, .null, .null, .null]) hB hin (v := .ref q1) dX9_init_9 cp_X9_9 rfl rfl (Nat.le_of_ble_eq_true rfl) ?_
  refine g_ws ([(h0, .inr (9, [.int 0, .ref q1, .null, .int 0, .null, .null, .null, .null, .int 0, .int 0, .null, .null, .int 0, .null, .null, .int 0, .null, .int 0, .null, .int 0, .null, .null, .int 0, .null, .null, .null, .null, .int 0, .null, .null, .int 0, .null, .null, .null, .null])), (q1, .inl (fm_kA X 0, 6, .inl (fun _ => 0)))]) rfl ?_
  refine g_aload_n hB dX9_init_12 rfl rfl ?_
  refine g_bipush (v := nI 6) hB dX9_init_13 (by decide) ?_
  refine g_newI hB 6 dX9_init_15 rfl (by decide) (g_rm hR (Nat.le_of_ble_eq_true rfl) (Nat.le_of_ble_eq_true rfl)) (fun q2 => ?_)
  refine g_putF (h0 := h0) (ci := 9) (fs := [.int 0, .ref q1, .null, .int 0, .null, .null, .null, .null, .int 0, .int 0, .null, .null, .int 0, .null, .null, .int 0, .null, .int 0, .null, .int 0, .null, .null, .int 0, .null, .null, .null, .null, .int 0, .null, .null, .int 0, .null, .null, .null, .null]) hB hin (v := .ref q2) dX9_init_17 cp_X9_15 rfl rfl (Nat.le_of_ble_eq_true rfl) ?_
  refine g_ws ([(h0, .inr (9, [.int 0, .ref q1, .ref q2, .int 0, .null, .null, .null, .null, .int 0, .int 0, .null, .null, .int 0, .null, .null, .int 0, .null, .int 0, .null, .int 0, .null, .null, .int 0, .null, .null, .null, .null, .int 0, .null, .null, .int 0, .null, .null, .null, .null])), (q1, .inl (fm_kA X 0, 6, .inl (fun _ => 0))), (q2, .inl (fm_kA X 0, 6, .inl (fun _ => 0)))]) rfl ?_
  refine g_aload_n hB dX9_init_20 rfl rfl ?_
  refine g_bipush (v := nI 8) hB dX9_init_21 (by decide) ?_
  refine g_newI hB 8 dX9_init_23 rfl (by decide) (g_rm hR (Nat.le_of_ble_eq_true rfl) (Nat.le_of_ble_eq_true rfl)) (fun q3 => ?_)
  refine g_putF (h0 := h0) (ci := 9) (fs := [.int 0, .ref q1, .ref q2, .int 0, .null, .null, .null, .null, .int 0, .int 0, .null, .null, .int 0, .null, .null, .int 0, .null, .int 0, .null, .int 0, .null, .null, .int 0, .null, .null, .null, .null, .int 0, .null, .null, .int 0, .null, .null, .null, .null]) hB hin (v := .ref q3) dX9_init_25 cp_X9_18 rfl rfl (Nat.le_of_ble_eq_true rfl) ?_
  refine g_ws ([(h0, .inr (9, [.int 0, .ref q1, .ref q2, .int 0, .ref q3, .null, .null, .null, .int 0, .int 0, .null, .null, .int 0, .null, .null, .int 0, .null, .int 0, .null, .int 0, .null, .null, .int 0, .null, .null, .null, .null, .int 0, .null, .null, .int 0, .null, .null, .null, .null])), (q1, .inl (fm_kA X 0, 6, .inl (fun _ => 0))), (q2, .inl (fm_kA X 0, 6, .inl (fun _ => 0))), (q3, .inl (fm_kA X 0, 8, .inl (fun _ => 0)))]) rfl ?_
  refine g_aload_n hB dX9_init_28 rfl rfl ?_
  refine g_bipush (v := nI 8) hB dX9_init_29 (by decide) ?_
  refine g_newI hB 8 dX9_init_31 rfl (by decide) (g_rm hR (Nat.le_of_ble_eq_true rfl) (Nat.le_of_ble_eq_true rfl)) (fun q4 => ?_)
  refine g_putF (h0 := h0) (ci := 9) (fs := [.int 0, .ref q1, .ref q2, .int 0, .ref q3, .null, .null, .null, .int 0, .int 0, .null, .null, .int 0, .null, .null, .int 0, .null, .int 0, .null, .int 0, .null, .null, .int 0, .null, .null, .null, .null, .int 0, .null, .null, .int 0, .null, .null, .null, .null]) hB hin (v := .ref q4) dX9_init_33 cp_X9_21 rfl rfl (Nat.le_of_ble_eq_true rfl) ?_
  refine g_ws ([(h0, .inr (9, [.int 0, .ref q1, .ref q2, .int 0, .ref q3, .ref q4, .null, .null, .int 0, .int 0, .null, .null, .int 0, .null, .null, .int 0, .null, .int 0, .null, .int 0, .null, .null, .int 0, .null, .null, .null, .null, .int 0, .null, .null, .int 0, .null, .null, .null, .null])), (q1, .inl (fm_kA X 0, 6, .inl (fun _ => 0))), (q2, .inl (fm_kA X 0, 6, .inl (fun _ => 0))), (q3, .inl (fm_kA X 0, 8, .inl (fun _ => 0))), (q4, .inl (fm_kA X 0, 8, .inl (fun _ => 0)))]) rfl ?_
  refine g_aload_n hB dX9_init_36 rfl rfl ?_
  refine g_bipush (v := nI 8) hB dX9_init_37 (by decide) ?_
  refine g_newI hB 8 dX9_init_39 rfl (by decide) (g_rm hR (Nat.le_of_ble_eq_true rfl) (Nat.le_of_ble_eq_true rfl)) (fun q5 => ?_)
  refine g_putF (h0 := h0) (ci := 9) (fs := [.int 0, .ref q1, .ref q2, .int 0, .ref q3, .ref q4, .null, .null, .int 0, .int 0, .null, .null, .int 0, .null, .null, .int 0, .null, .int 0, .null, .int 0, .null, .null, .int 0, .null, .null, .null, .null, .int 0, .null, .null, .int 0, .null, .null, .null, .null]) hB hin (v := .ref q5) dX9_init_41 cp_X9_24 rfl rfl (Nat.le_of_ble_eq_true rfl) ?_
  refine g_ws ([(h0, .inr (9, [.int 0, .ref q1, .ref q2, .int 0, .ref q3, .ref q4, .ref q5, .null, .int 0, .int 0, .null, .null, .int 0, .null, .null, .int 0, .null, .int 0, .null, .int 0, .null, .null, .int 0, .null, .null, .null, .null, .int 0, .null, .null, .int 0, .null, .null, .null, .null])), (q1, .inl (fm_kA X 0, 6, .inl (fun _ => 0))), (q2, .inl (fm_kA X 0, 6, .inl (fun _ => 0))), (q3, .inl (fm_kA X 0, 8, .inl (fun _ => 0))), (q4, .inl (fm_kA X 0, 8, .inl (fun _ => 0))), (q5, .inl (fm_kA X 0, 8, .inl (fun _ => 0)))]) rfl ?_
  refine g_aload_n hB dX9_init_44 rfl rfl ?_
  refine g_bipush (v := nI 32) hB dX9_init_45 (by decide) ?_
  refine g_newI hB 32 dX9_init_47 rfl (by decide) (g_rm hR (Nat.le_of_ble_eq_true rfl) (Nat.le_of_ble_eq_true rfl)) (fun q6 => ?_)
  refine g_putF (h0 := h0) (ci := 9) (fs := [.int 0, .ref q1, .ref q2, .int 0, .ref q3, .ref q4, .ref q5, .null, .int 0, .int 0, .null, .null, .int 0, .null, .null, .int 0, .null, .int 0, .null, .int 0, .null, .null, .int 0, .null, .null, .null, .null, .int 0, .null, .null, .int 0, .null, .null, .null, .null]) hB hin (v := .ref q6) dX9_init_49 cp_X9_27 rfl rfl (Nat.le_of_ble_eq_true rfl) ?_
  refine g_ws ([(h0, .inr (9, [.int 0, .ref q1, .ref q2, .int 0, .ref q3, .ref q4, .ref q5, .ref q6, .int 0, .int 0, .null, .null, .int 0, .null, .null, .int 0, .null, .int 0, .null, .int 0, .null, .null, .int 0, .null, .null, .null, .null, .int 0, .null, .null, .int 0, .null, .null, .null, .null])), (q1, .inl (fm_kA X 0, 6, .inl (fun _ => 0))), (q2, .inl (fm_kA X 0, 6, .inl (fun _ => 0))), (q3, .inl (fm_kA X 0, 8, .inl (fun _ => 0))), (q4, .inl (fm_kA X 0, 8, .inl (fun _ => 0))), (q5, .inl (fm_kA X 0, 8, .inl (fun _ => 0))), (q6, .inl (fm_kA X 0, 32, .inl (fun _ => 0)))]) rfl ?_
  refine g_aload_n hB dX9_init_52 rfl rfl ?_
  refine g_iconst (v := -1) hB dX9_init_53 (by decide) ?_
  refine g_putN (h0 := h0) (ci := 9) (fs := [.int 0, .ref q1, .ref q2, .int 0, .ref q3, .ref q4, .ref q5, .ref q6, .int 0, .int 0, .null, .null, .int 0, .null, .null, .int 0, .null, .int 0, .null, .int 0, .null, .null, .int 0, .null, .null, .null, .null, .int 0, .null, .null, .int 0, .null, .null, .null, .null]) hB (v := .int (-1)) dX9_init_54 cp_X9_30 rfl rfl (Nat.le_of_ble_eq_true rfl) ?_
  refine g_ws ([(h0, .inr (9, [.int 0, .ref q1, .ref q2, .int 0, .ref q3, .ref q4, .ref q5, .ref q6, .int (-1), .int 0, .null, .null, .int 0, .null, .null, .int 0, .null, .int 0, .null, .int 0, .null, .null, .int 0, .null, .null, .null, .null, .int 0, .null, .null, .int 0, .null, .null, .null, .null])), (q1, .inl (fm_kA X 0, 6, .inl (fun _ => 0))), (q2, .inl (fm_kA X 0, 6, .inl (fun _ => 0))), (q3, .inl (fm_kA X 0, 8, .inl (fun _ => 0))), (q4, .inl (fm_kA X 0, 8, .inl (fun _ => 0))), (q5, .inl (fm_kA X 0, 8, .inl (fun _ => 0))), (q6, .inl (fm_kA X 0, 32, .inl (fun _ => 0)))]) rfl ?_
  refine g_aload_n hB dX9_init_57 rfl rfl ?_
  refine g_iconst (v := nI 3) hB dX9_init_58 (by decide) ?_
  refine g_newI hB 3 dX9_init_59 rfl (by decide) (g_rm hR (Nat.le_of_ble_eq_true rfl) (Nat.le_of_ble_eq_true rfl)) (fun q7 => ?_)
  refine g_putF (h0 := h0) (ci := 9) (fs := [.int 0, .ref q1, .ref q2, .int 0, .ref q3, .ref q4, .ref q5, .ref q6, .int (-1), .int 0, .null, .null, .int 0, .null, .null, .int 0, .null, .int 0, .null, .int 0, .null, .null, .int 0, .null, .null, .null, .null, .int 0, .null, .null, .int 0, .null, .null, .null, .null]) hB hin (v := .ref q7) dX9_init_61 cp_X9_34 rfl rfl (Nat.le_of_ble_eq_true rfl) ?_
  refine g_ws ([(h0, .inr (9, [.int 0, .ref q1, .ref q2, .int 0, .ref q3, .ref q4, .ref q5, .ref q6, .int (-1), .int 0, .ref q7, .null, .int 0, .null, .null, .int 0, .null, .int 0, .null, .int 0, .null, .null, .int 0, .null, .null, .null, .null, .int 0, .null, .null, .int 0, .null, .null, .null, .null])), (q1, .inl (fm_kA X 0, 6, .inl (fun _ => 0))), (q2, .inl (fm_kA X 0, 6, .inl (fun _ => 0))), (q3, .inl (fm_kA X 0, 8, .inl (fun _ => 0))), (q4, .inl (fm_kA X 0, 8, .inl (fun _ => 0))), (q5, .inl (fm_kA X 0, 8, .inl (fun _ => 0))), (q6, .inl (fm_kA X 0, 32, .inl (fun _ => 0))), (q7, .inl (fm_kA X 0, 3, .inl (fun _ => 0)))]) rfl ?_
  refine g_aload_n hB dX9_init_64 rfl rfl ?_
  refine g_iconst (v := nI 3) hB dX9_init_65 (by decide) ?_
  refine g_newI hB 3 dX9_init_66 rfl (by decide) (g_rm hR (Nat.le_of_ble_eq_true rfl) (Nat.le_of_ble_eq_true rfl)) (fun q8 => ?_)
  refine g_putF (h0 := h0) (ci := 9) (fs := [.int 0, .ref q1, .ref q2, .int 0, .ref q3, .ref q4, .ref q5, .ref q6, .int (-1), .int 0, .ref q7, .null, .int 0, .null, .null, .int 0, .null, .int 0, .null, .int 0, .null, .null, .int 0, .null, .null, .null, .null, .int 0, .null, .null, .int 0, .null, .null, .null, .null]) hB hin (v := .ref q8) dX9_init_68 cp_X9_37 rfl rfl (Nat.le_of_ble_eq_true rfl) ?_
  refine g_ws ([(h0, .inr (9, [.int 0, .ref q1, .ref q2, .int 0, .ref q3, .ref q4, .ref q5, .ref q6, .int (-1), .int 0, .ref q7, .ref q8, .int 0, .null, .null, .int 0, .null, .int 0, .null, .int 0, .null, .null, .int 0, .null, .null, .null, .null, .int 0, .null, .null, .int 0, .null, .null, .null, .null])), (q1, .inl (fm_kA X 0, 6, .inl (fun _ => 0))), (q2, .inl (fm_kA X 0, 6, .inl (fun _ => 0))), (q3, .inl (fm_kA X 0, 8, .inl (fun _ => 0))), (q4, .inl (fm_kA X 0, 8, .inl (fun _ => 0))), (q5, .inl (fm_kA X 0, 8, .inl (fun _ => 0))), (q6, .inl (fm_kA X 0, 32, .inl (fun _ => 0))), (q7, .inl (fm_kA X 0, 3, .inl (fun _ => 0))), (q8, .inl (fm_kA X 0, 3, .inl (fun _ => 0)))]) rfl ?_
  refine g_aload_n hB dX9_init_71 rfl rfl ?_
  refine g_bipush (v := nI 6) hB dX9_init_72 (by decide) ?_
  refine g_newI hB 6 dX9_init_74 rfl (by decide) (g_rm hR (Nat.le_of_ble_eq_true rfl) (Nat.le_of_ble_eq_true rfl)) (fun q9 => ?_)
  refine g_putF (h0 := h0) (ci := 9) (fs := [.int 0, .ref q1, .ref q2, .int 0, .ref q3, .ref q4, .ref q5, .ref q6, .int (-1), .int 0, .ref q7, .ref q8, .int 0, .null, .null, .int 0, .null, .int 0, .null, .int 0, .null, .null, .int 0, .null, .null, .null, .null, .int 0, .null, .null, .int 0, .null, .null, .null, .null]) hB hin (v := .ref q9) dX9_init_76 cp_X9_40 rfl rfl (Nat.le_of_ble_eq_true rfl) ?_
  refine g_ws ([(h0, .inr (9, [.int 0, .ref q1, .ref q2, .int 0, .ref q3, .ref q4, .ref q5, .ref q6, .int (-1), .int 0, .ref q7, .ref q8, .int 0, .ref q9, .null, .int 0, .null, .int 0, .null, .int 0, .null, .null, .int 0, .null, .null, .null, .null, .int 0, .null, .null, .int 0, .null, .null, .null, .null])), (q1, .inl (fm_kA X 0, 6, .inl (fun _ => 0))), (q2, .inl (fm_kA X 0, 6, .inl (fun _ => 0))), (q3, .inl (fm_kA X 0, 8, .inl (fun _ => 0))), (q4, .inl (fm_kA X 0, 8, .inl (fun _ => 0))), (q5, .inl (fm_kA X 0, 8, .inl (fun _ => 0))), (q6, .inl (fm_kA X 0, 32, .inl (fun _ => 0))), (q7, .inl (fm_kA X 0, 3, .inl (fun _ => 0))), (q8, .inl (fm_kA X 0, 3, .inl (fun _ => 0))), (q9, .inl (fm_kA X 0, 6, .inl (fun _ => 0)))]) rfl ?_
  refine g_aload_n hB dX9_init_79 rfl rfl ?_
  refine g_bipush (v := nI 6) hB dX9_init_80 (by decide) ?_
  refine g_newI hB 6 dX9_init_82 rfl (by decide) (g_rm hR (Nat.le_of_ble_eq_true rfl) (Nat.le_of_ble_eq_true rfl)) (fun q10 => ?_)
  refine g_putF (h0 := h0) (ci := 9) (fs := [.int 0, .ref q1, .ref q2, .int 0, .ref q3, .ref q4, .ref q5, .ref q6, .int (-1), .int 0, .ref q7, .ref q8, .int 0, .ref q9, .null, .int 0, .null, .int 0, .null, .int 0, .null, .null, .int 0, .null, .null, .null, .null, .int 0, .null, .null, .int 0, .null, .null, .null, .null]) hB hin (v := .ref q10) dX9_init_84 cp_X9_43 rfl rfl (Nat.le_of_ble_eq_true rfl) ?_
  refine g_ws ([(h0, .inr (9, [.int 0, .ref q1, .ref q2, .int 0, .ref q3, .ref q4, .ref q5, .ref q6, .int (-1), .int 0, .ref q7, .ref q8, .int 0, .ref q9, .ref q10, .int 0, .null, .int 0, .null, .int 0, .null, .null, .int 0, .null, .null, .null, .null, .int 0, .null, .null, .int 0, .null, .null, .null, .null])), (q1, .inl (fm_kA X 0, 6, .inl (fun _ => 0))), (q2, .inl (fm_kA X 0, 6, .inl (fun _ => 0))), (q3, .inl (fm_kA X 0, 8, .inl (fun _ => 0))), (q4, .inl (fm_kA X 0, 8, .inl (fun _ => 0))), (q5, .inl (fm_kA X 0, 8, .inl (fun _ => 0))), (q6, .inl (fm_kA X 0, 32, .inl (fun _ => 0))), (q7, .inl (fm_kA X 0, 3, .inl (fun _ => 0))), (q8, .inl (fm_kA X 0, 3, .inl (fun _ => 0))), (q9, .inl (fm_kA X 0, 6, .inl (fun _ => 0))), (q10, .inl (fm_kA X 0, 6, .inl (fun _ => 0)))]) rfl ?_
  refine g_aload_n hB dX9_init_87 rfl rfl ?_
  refine g_bipush (v := nI 16) hB dX9_init_88 (by decide) ?_
  refine g_newI hB 16 dX9_init_90 rfl (by decide) (g_rm hR (Nat.le_of_ble_eq_true rfl) (Nat.le_of_ble_eq_true rfl)) (fun q11 => ?_)
  refine g_putF (h0 := h0) (ci := 9) (fs := [.int 0, .ref q1, .ref q2, .int 0, .ref q3, .ref q4, .ref q5, .ref q6, .int (-1), .int 0, .ref q7, .ref q8, .int 0, .ref q9, .ref q10, .int 0, .null, .int 0, .null, .int 0, .null, .null, .int 0, .null, .null, .null, .null, .int 0, .null, .null, .int 0, .null, .null, .null, .null]) hB hin (v := .ref q11) dX9_init_92 cp_X9_46 rfl rfl (Nat.le_of_ble_eq_true rfl) ?_
  refine g_ws ([(h0, .inr (9, [.int 0, .ref q1, .ref q2, .int 0, .ref q3, .ref q4, .ref q5, .ref q6, .int (-1), .int 0, .ref q7, .ref q8, .int 0, .ref q9, .ref q10, .int 0, .ref q11, .int 0, .null, .int 0, .null, .null, .int 0, .null, .null, .null, .null, .int 0, .null, .null, .int 0, .null, .null, .null, .null])), (q1, .inl (fm_kA X 0, 6, .inl (fun _ => 0))), (q2, .inl (fm_kA X 0, 6, .inl (fun _ => 0))), (q3, .inl (fm_kA X 0, 8, .inl (fun _ => 0))), (q4, .inl (fm_kA X 0, 8, .inl (fun _ => 0))), (q5, .inl (fm_kA X 0, 8, .inl (fun _ => 0))), (q6, .inl (fm_kA X 0, 32, .inl (fun _ => 0))), (q7, .inl (fm_kA X 0, 3, .inl (fun _ => 0))), (q8, .inl (fm_kA X 0, 3, .inl (fun _ => 0))), (q9, .inl (fm_kA X 0, 6, .inl (fun _ => 0))), (q10, .inl (fm_kA X 0, 6, .inl (fun _ => 0))), (q11, .inl (fm_kA X 0, 16, .inl (fun _ => 0)))]) rfl ?_
  refine g_aload_n hB dX9_init_95 rfl rfl ?_
  refine g_bipush (v := nI 8) hB dX9_init_96 (by decide) ?_
  refine g_newI hB 8 dX9_init_98 rfl (by decide) (g_rm hR (Nat.le_of_ble_eq_true rfl) (Nat.le_of_ble_eq_true rfl)) (fun q12 => ?_)
  refine g_putF (h0 := h0) (ci := 9) (fs := [.int 0, .ref q1, .ref q2, .int 0, .ref q3, .ref q4, .ref q5, .ref q6, .int (-1), .int 0, .ref q7, .ref q8, .int 0, .ref q9, .ref q10, .int 0, .ref q11, .int 0, .null, .int 0, .null, .null, .int 0, .null, .null, .null, .null, .int 0, .null, .null, .int 0, .null, .null, .null, .null]) hB hin (v := .ref q12) dX9_init_100 cp_X9_49 rfl rfl (Nat.le_of_ble_eq_true rfl) ?_
  refine g_ws ([(h0, .inr (9, [.int 0, .ref q1, .ref q2, .int 0, .ref q3, .ref q4, .ref q5, .ref q6, .int (-1), .int 0, .ref q7, .ref q8, .int 0, .ref q9, .ref q10, .int 0, .ref q11, .int 0, .ref q12, .int 0, .null, .null, .int 0, .null, .null, .null, .null, .int 0, .null, .null, .int 0, .null, .null, .null, .null])), (q1, .inl (fm_kA X 0, 6, .inl (fun _ => 0))), (q2, .inl (fm_kA X 0, 6, .inl (fun _ => 0))), (q3, .inl (fm_kA X 0, 8, .inl (fun _ => 0))), (q4, .inl (fm_kA X 0, 8, .inl (fun _ => 0))), (q5, .inl (fm_kA X 0, 8, .inl (fun _ => 0))), (q6, .inl (fm_kA X 0, 32, .inl (fun _ => 0))), (q7, .inl (fm_kA X 0, 3, .inl (fun _ => 0))), (q8, .inl (fm_kA X 0, 3, .inl (fun _ => 0))), (q9, .inl (fm_kA X 0, 6, .inl (fun _ => 0))), (q10, .inl (fm_kA X 0, 6, .inl (fun _ => 0))), (q11, .inl (fm_kA X 0, 16, .inl (fun _ => 0))), (q12, .inl (fm_kA X 0, 8, .inl (fun _ => 0)))]) rfl ?_
  refine g_aload_n hB dX9_init_103 rfl rfl ?_
  refine g_bipush (v := nI 100) hB dX9_init_104 (by decide) ?_
  refine g_newI hB 100 dX9_init_106 rfl (by decide) (g_rm hR (Nat.le_of_ble_eq_true rfl) (Nat.le_of_ble_eq_true rfl)) (fun q13 => ?_)
  refine g_putF (h0 := h0) (ci := 9) (fs := [.int 0, .ref q1, .ref q2, .int 0, .ref q3, .ref q4, .ref q5, .ref q6, .int (-1), .int 0, .ref q7, .ref q8, .int 0, .ref q9, .ref q10, .int 0, .ref q11, .int 0, .ref q12, .int 0, .null, .null, .int 0, .null, .null, .null, .null, .int 0, .null, .null, .int 0, .null, .null, .null, .null]) hB hin (v := .ref q13) dX9_init_108 cp_X9_52 rfl rfl (Nat.le_of_ble_eq_true rfl) ?_
  refine g_ws ([(h0, .inr (9, [.int 0, .ref q1, .ref q2, .int 0, .ref q3, .ref q4, .ref q5, .ref q6, .int (-1), .int 0, .ref q7, .ref q8, .int 0, .ref q9, .ref q10, .int 0, .ref q11, .int 0, .ref q12, .int 0, .ref q13, .null, .int 0, .null, .null, .null, .null, .int 0, .null, .null, .int 0, .null, .null, .null, .null])), (q1, .inl (fm_kA X 0, 6, .inl (fun _ => 0))), (q2, .inl (fm_kA X 0, 6, .inl (fun _ => 0))), (q3, .inl (fm_kA X 0, 8, .inl (fun _ => 0))), (q4, .inl (fm_kA X 0, 8, .inl (fun _ => 0))), (q5, .inl (fm_kA X 0, 8, .inl (fun _ => 0))), (q6, .inl (fm_kA X 0, 32, .inl (fun _ => 0))), (q7, .inl (fm_kA X 0, 3, .inl (fun _ => 0))), (q8, .inl (fm_kA X 0, 3, .inl (fun _ => 0))), (q9, .inl (fm_kA X 0, 6, .inl (fun _ => 0))), (q10, .inl (fm_kA X 0, 6, .inl (fun _ => 0))), (q11, .inl (fm_kA X 0, 16, .inl (fun _ => 0))), (q12, .inl (fm_kA X 0, 8, .inl (fun _ => 0))), (q13, .inl (fm_kA X 0, 100, .inl (fun _ => 0)))]) rfl ?_
  refine g_aload_n hB dX9_init_111 rfl rfl ?_
  refine g_bipush (v := nI 8) hB dX9_init_112 (by decide) ?_
  refine g_newZ hB 8 dX9_init_114 rfl (by decide) (g_rm hR (Nat.le_of_ble_eq_true rfl) (Nat.le_of_ble_eq_true rfl)) (fun q14 => ?_)
  refine g_putF (h0 := h0) (ci := 9) (fs := [.int 0, .ref q1, .ref q2, .int 0, .ref q3, .ref q4, .ref q5, .ref q6, .int (-1), .int 0, .ref q7, .ref q8, .int 0, .ref q9, .ref q10, .int 0, .ref q11, .int 0, .ref q12, .int 0, .ref q13, .null, .int 0, .null, .null, .null, .null, .int 0, .null, .null, .int 0, .null, .null, .null, .null]) hB hin (v := .ref q14) dX9_init_116 cp_X9_55 rfl rfl (Nat.le_of_ble_eq_true rfl) ?_
  refine g_ws ([(h0, .inr (9, [.int 0, .ref q1, .ref q2, .int 0, .ref q3, .ref q4, .ref q5, .ref q6, .int (-1), .int 0, .ref q7, .ref q8, .int 0, .ref q9, .ref q10, .int 0, .ref q11, .int 0, .ref q12, .int 0, .ref q13, .ref q14, .int 0, .null, .null, .null, .null, .int 0, .null, .null, .int 0, .null, .null, .null, .null])), (q1, .inl (fm_kA X 0, 6, .inl (fun _ => 0))), (q2, .inl (fm_kA X 0, 6, .inl (fun _ => 0))), (q3, .inl (fm_kA X 0, 8, .inl (fun _ => 0))), (q4, .inl (fm_kA X 0, 8, .inl (fun _ => 0))), (q5, .inl (fm_kA X 0, 8, .inl (fun _ => 0))), (q6, .inl (fm_kA X 0, 32, .inl (fun _ => 0))), (q7, .inl (fm_kA X 0, 3, .inl (fun _ => 0))), (q8, .inl (fm_kA X 0, 3, .inl (fun _ => 0))), (q9, .inl (fm_kA X 0, 6, .inl (fun _ => 0))), (q10, .inl (fm_kA X 0, 6, .inl (fun _ => 0))), (q11, .inl (fm_kA X 0, 16, .inl (fun _ => 0))), (q12, .inl (fm_kA X 0, 8, .inl (fun _ => 0))), (q13, .inl (fm_kA X 0, 100, .inl (fun _ => 0))), (q14, .inl (fm_kA X 3, 8, .inl (fun _ => 0)))]) rfl ?_
  refine g_aload_n hB dX9_init_119 rfl rfl ?_
  refine g_bipush (v := nI 64) hB dX9_init_120 (by decide) ?_
  refine g_newL hB 64 dX9_init_122 rfl (by decide) (g_rm hR (Nat.le_of_ble_eq_true rfl) (Nat.le_of_ble_eq_true rfl)) (fun q15 => ?_)
  refine g_putF (h0 := h0) (ci := 9) (fs := [.int 0, .ref q1, .ref q2, .int 0, .ref q3, .ref q4, .ref q5, .ref q6, .int (-1), .int 0, .ref q7, .ref q8, .int 0, .ref q9, .ref q10, .int 0, .ref q11, .int 0, .ref q12, .int 0, .ref q13, .ref q14, .int 0, .null, .null, .null, .null, .int 0, .null, .null, .int 0, .null, .null, .null, .null]) hB hin (v := .ref q15) dX9_init_124 cp_X9_59 rfl rfl (Nat.le_of_ble_eq_true rfl) ?_
  refine g_ws ([(h0, .inr (9, [.int 0, .ref q1, .ref q2, .int 0, .ref q3, .ref q4, .ref q5, .ref q6, .int (-1), .int 0, .ref q7, .ref q8, .int 0, .ref q9, .ref q10, .int 0, .ref q11, .int 0, .ref q12, .int 0, .ref q13, .ref q14, .int 0, .ref q15, .null, .null, .null, .int 0, .null, .null, .int 0, .null, .null, .null, .null])), (q1, .inl (fm_kA X 0, 6, .inl (fun _ => 0))), (q2, .inl (fm_kA X 0, 6, .inl (fun _ => 0))), (q3, .inl (fm_kA X 0, 8, .inl (fun _ => 0))), (q4, .inl (fm_kA X 0, 8, .inl (fun _ => 0))), (q5, .inl (fm_kA X 0, 8, .inl (fun _ => 0))), (q6, .inl (fm_kA X 0, 32, .inl (fun _ => 0))), (q7, .inl (fm_kA X 0, 3, .inl (fun _ => 0))), (q8, .inl (fm_kA X 0, 3, .inl (fun _ => 0))), (q9, .inl (fm_kA X 0, 6, .inl (fun _ => 0))), (q10, .inl (fm_kA X 0, 6, .inl (fun _ => 0))), (q11, .inl (fm_kA X 0, 16, .inl (fun _ => 0))), (q12, .inl (fm_kA X 0, 8, .inl (fun _ => 0))), (q13, .inl (fm_kA X 0, 100, .inl (fun _ => 0))), (q14, .inl (fm_kA X 3, 8, .inl (fun _ => 0))), (q15, .inl (fm_kA X 1, 64, .inr (.inl (fun _ => 0))))]) rfl ?_
  refine g_aload_n hB dX9_init_127 rfl rfl ?_
  refine g_bipush (v := nI 64) hB dX9_init_128 (by decide) ?_
  refine g_newI hB 64 dX9_init_130 rfl (by decide) (g_rm hR (Nat.le_of_ble_eq_true rfl) (Nat.le_of_ble_eq_true rfl)) (fun q16 => ?_)
  refine g_putF (h0 := h0) (ci := 9) (fs := [.int 0, .ref q1, .ref q2, .int 0, .ref q3, .ref q4, .ref q5, .ref q6, .int (-1), .int 0, .ref q7, .ref q8, .int 0, .ref q9, .ref q10, .int 0, .ref q11, .int 0, .ref q12, .int 0, .ref q13, .ref q14, .int 0, .ref q15, .null, .null, .null, .int 0, .null, .null, .int 0, .null, .null, .null, .null]) hB hin (v := .ref q16) dX9_init_132 cp_X9_63 rfl rfl (Nat.le_of_ble_eq_true rfl) ?_
  refine g_ws ([(h0, .inr (9, [.int 0, .ref q1, .ref q2, .int 0, .ref q3, .ref q4, .ref q5, .ref q6, .int (-1), .int 0, .ref q7, .ref q8, .int 0, .ref q9, .ref q10, .int 0, .ref q11, .int 0, .ref q12, .int 0, .ref q13, .ref q14, .int 0, .ref q15, .ref q16, .null, .null, .int 0, .null, .null, .int 0, .null, .null, .null, .null])), (q1, .inl (fm_kA X 0, 6, .inl (fun _ => 0))), (q2, .inl (fm_kA X 0, 6, .inl (fun _ => 0))), (q3, .inl (fm_kA X 0, 8, .inl (fun _ => 0))), (q4, .inl (fm_kA X 0, 8, .inl (fun _ => 0))), (q5, .inl (fm_kA X 0, 8, .inl (fun _ => 0))), (q6, .inl (fm_kA X 0, 32, .inl (fun _ => 0))), (q7, .inl (fm_kA X 0, 3, .inl (fun _ => 0))), (q8, .inl (fm_kA X 0, 3, .inl (fun _ => 0))), (q9, .inl (fm_kA X 0, 6, .inl (fun _ => 0))), (q10, .inl (fm_kA X 0, 6, .inl (fun _ => 0))), (q11, .inl (fm_kA X 0, 16, .inl (fun _ => 0))), (q12, .inl (fm_kA X 0, 8, .inl (fun _ => 0))), (q13, .inl (fm_kA X 0, 100, .inl (fun _ => 0))), (q14, .inl (fm_kA X 3, 8, .inl (fun _ => 0))), (q15, .inl (fm_kA X 1, 64, .inr (.inl (fun _ => 0)))), (q16, .inl (fm_kA X 0, 64, .inl (fun _ => 0)))]) rfl ?_
  refine g_aload_n hB dX9_init_135 rfl rfl ?_
  refine g_bipush (v := nI 64) hB dX9_init_136 (by decide) ?_
  refine g_newI hB 64 dX9_init_138 rfl (by decide) (g_rm hR (Nat.le_of_ble_eq_true rfl) (Nat.le_of_ble_eq_true rfl)) (fun q17 => ?_)
  refine g_putF (h0 := h0) (ci := 9) (fs := [.int 0, .ref q1, .ref q2, .int 0, .ref q3, .ref q4, .ref q5, .ref q6, .int (-1), .int 0, .ref q7, .ref q8, .int 0, .ref q9, .ref q10, .int 0, .ref q11, .int 0, .ref q12, .int 0, .ref q13, .ref q14, .int 0, .ref q15, .ref q16, .null, .null, .int 0, .null, .null, .int 0, .null, .null, .null, .null]) hB hin (v := .ref q17) dX9_init_140 cp_X9_66 rfl rfl (Nat.le_of_ble_eq_true rfl) ?_
  refine g_ws ([(h0, .inr (9, [.int 0, .ref q1, .ref q2, .int 0, .ref q3, .ref q4, .ref q5, .ref q6, .int (-1), .int 0, .ref q7, .ref q8, .int 0, .ref q9, .ref q10, .int 0, .ref q11, .int 0, .ref q12, .int 0, .ref q13, .ref q14, .int 0, .ref q15, .ref q16, .ref q17, .null, .int 0, .null, .null, .int 0, .null, .null, .null, .null])), (q1, .inl (fm_kA X 0, 6, .inl (fun _ => 0))), (q2, .inl (fm_kA X 0, 6, .inl (fun _ => 0))), (q3, .inl (fm_kA X 0, 8, .inl (fun _ => 0))), (q4, .inl (fm_kA X 0, 8, .inl (fun _ => 0))), (q5, .inl (fm_kA X 0, 8, .inl (fun _ => 0))), (q6, .inl (fm_kA X 0, 32, .inl (fun _ => 0))), (q7, .inl (fm_kA X 0, 3, .inl (fun _ => 0))), (q8, .inl (fm_kA X 0, 3, .inl (fun _ => 0))), (q9, .inl (fm_kA X 0, 6, .inl (fun _ => 0))), (q10, .inl (fm_kA X 0, 6, .inl (fun _ => 0))), (q11, .inl (fm_kA X 0, 16, .inl (fun _ => 0))), (q12, .inl (fm_kA X 0, 8, .inl (fun _ => 0))), (q13, .inl (fm_kA X 0, 100, .inl (fun _ => 0))), (q14, .inl (fm_kA X 3, 8, .inl (fun _ => 0))), (q15, .inl (fm_kA X 1, 64, .inr (.inl (fun _ => 0)))), (q16, .inl (fm_kA X 0, 64, .inl (fun _ => 0))), (q17, .inl (fm_kA X 0, 64, .inl (fun _ => 0)))]) rfl ?_
  refine g_aload_n hB dX9_init_143 rfl rfl ?_
  refine g_bipush (v := nI 64) hB dX9_init_144 (by decide) ?_
  refine g_newI hB 64 dX9_init_146 rfl (by decide) (g_rm hR (Nat.le_of_ble_eq_true rfl) (Nat.le_of_ble_eq_true rfl)) (fun q18 => ?_)
  refine g_putF (h0 := h0) (ci := 9) (fs := [.int 0, .ref q1, .ref q2, .int 0, .ref q3, .ref q4, .ref q5, .ref q6, .int (-1), .int 0, .ref q7, .ref q8, .int 0, .ref q9, .ref q10, .int 0, .ref q11, .int 0, .ref q12, .int 0, .ref q13, .ref q14, .int 0, .ref q15, .ref q16, .ref q17, .null, .int 0, .null, .null, .int 0, .null, .null, .null, .null]) hB hin (v := .ref q18) dX9_init_148 cp_X9_69 rfl rfl (Nat.le_of_ble_eq_true rfl) ?_
  refine g_ws ([(h0, .inr (9, [.int 0, .ref q1, .ref q2, .int 0, .ref q3, .ref q4, .ref q5, .ref q6, .int (-1), .int 0, .ref q7, .ref q8, .int 0, .ref q9, .ref q10, .int 0, .ref q11, .int 0, .ref q12, .int 0, .ref q13, .ref q14, .int 0, .ref q15, .ref q16, .ref q17, .ref q18, .int 0, .null, .null, .int 0, .null, .null, .null, .null])), (q1, .inl (fm_kA X 0, 6, .inl (fun _ => 0))), (q2, .inl (fm_kA X 0, 6, .inl (fun _ => 0))), (q3, .inl (fm_kA X 0, 8, .inl (fun _ => 0))), (q4, .inl (fm_kA X 0, 8, .inl (fun _ => 0))), (q5, .inl (fm_kA X 0, 8, .inl (fun _ => 0))), (q6, .inl (fm_kA X 0, 32, .inl (fun _ => 0))), (q7, .inl (fm_kA X 0, 3, .inl (fun _ => 0))), (q8, .inl (fm_kA X 0, 3, .inl (fun _ => 0))), (q9, .inl (fm_kA X 0, 6, .inl (fun _ => 0))), (q10, .inl (fm_kA X 0, 6, .inl (fun _ => 0))), (q11, .inl (fm_kA X 0, 16, .inl (fun _ => 0))), (q12, .inl (fm_kA X 0, 8, .inl (fun _ => 0))), (q13, .inl (fm_kA X 0, 100, .inl (fun _ => 0))), (q14, .inl (fm_kA X 3, 8, .inl (fun _ => 0))), (q15, .inl (fm_kA X 1, 64, .inr (.inl (fun _ => 0)))), (q16, .inl (fm_kA X 0, 64, .inl (fun _ => 0))), (q17, .inl (fm_kA X 0, 64, .inl (fun _ => 0))), (q18, .inl (fm_kA X 0, 64, .inl (fun _ => 0)))]) rfl ?_
  refine g_aload_n hB dX9_init_151 rfl rfl ?_
  refine g_bipush (v := nI 64) hB dX9_init_152 (by decide) ?_
  refine g_newI hB 64 dX9_init_154 rfl (by decide) (g_rm hR (Nat.le_of_ble_eq_true rfl) (Nat.le_of_ble_eq_true rfl)) (fun q19 => ?_)
  refine g_putF (h0 := h0) (ci := 9) (fs := [.int 0, .ref q1, .ref q2, .int 0, .ref q3, .ref q4, .ref q5, .ref q6, .int (-1), .int 0, .ref q7, .ref q8, .int 0, .ref q9, .ref q10, .int 0, .ref q11, .int 0, .ref q12, .int 0, .ref q13, .ref q14, .int 0, .ref q15, .ref q16, .ref q17, .ref q18, .int 0, .null, .null, .int 0, .null, .null, .null, .null]) hB hin (v := .ref q19) dX9_init_156 cp_X9_72 rfl rfl (Nat.le_of_ble_eq_true rfl) ?_
  refine g_ws ([(h0, .inr (9, [.int 0, .ref q1, .ref q2, .int 0, .ref q3, .ref q4, .ref q5, .ref q6, .int (-1), .int 0, .ref q7, .ref q8, .int 0, .ref q9, .ref q10, .int 0, .ref q11, .int 0, .ref q12, .int 0, .ref q13, .ref q14, .int 0, .ref q15, .ref q16, .ref q17, .ref q18, .int 0, .ref q19, .null, .int 0, .null, .null, .null, .null])), (q1, .inl (fm_kA X 0, 6, .inl (fun _ => 0))), (q2, .inl (fm_kA X 0, 6, .inl (fun _ => 0))), (q3, .inl (fm_kA X 0, 8, .inl (fun _ => 0))), (q4, .inl (fm_kA X 0, 8, .inl (fun _ => 0))), (q5, .inl (fm_kA X 0, 8, .inl (fun _ => 0))), (q6, .inl (fm_kA X 0, 32, .inl (fun _ => 0))), (q7, .inl (fm_kA X 0, 3, .inl (fun _ => 0))), (q8, .inl (fm_kA X 0, 3, .inl (fun _ => 0))), (q9, .inl (fm_kA X 0, 6, .inl (fun _ => 0))), (q10, .inl (fm_kA X 0, 6, .inl (fun _ => 0))), (q11, .inl (fm_kA X 0, 16, .inl (fun _ => 0))), (q12, .inl (fm_kA X 0, 8, .inl (fun _ => 0))), (q13, .inl (fm_kA X 0, 100, .inl (fun _ => 0))), (q14, .inl (fm_kA X 3, 8, .inl (fun _ => 0))), (q15, .inl (fm_kA X 1, 64, .inr (.inl (fun _ => 0)))), (q16, .inl (fm_kA X 0, 64, .inl (fun _ => 0))), (q17, .inl (fm_kA X 0, 64, .inl (fun _ => 0))), (q18, .inl (fm_kA X 0, 64, .inl (fun _ => 0))), (q19, .inl (fm_kA X 0, 64, .inl (fun _ => 0)))]) rfl ?_
  refine g_aload_n hB dX9_init_159 rfl rfl ?_
  refine g_bipush (v := nI 20) hB dX9_init_160 (by decide) ?_
  refine g_newI hB 20 dX9_init_162 rfl (by decide) (g_rm hR (Nat.le_of_ble_eq_true rfl) (Nat.le_of_ble_eq_true rfl)) (fun q20 => ?_)
  refine g_putF (h0 := h0) (ci := 9) (fs := [.int 0, .ref q1, .ref q2, .int 0, .ref q3, .ref q4, .ref q5, .ref q6, .int (-1), .int 0, .ref q7, .ref q8, .int 0, .ref q9, .ref q10, .int 0, .ref q11, .int 0, .ref q12, .int 0, .ref q13, .ref q14, .int 0, .ref q15, .ref q16, .ref q17, .ref q18, .int 0, .ref q19, .null, .int 0, .null, .null, .null, .null]) hB hin (v := .ref q20) dX9_init_164 cp_X9_75 rfl rfl (Nat.le_of_ble_eq_true rfl) ?_
  refine g_ws ([(h0, .inr (9, [.int 0, .ref q1, .ref q2, .int 0, .ref q3, .ref q4, .ref q5, .ref q6, .int (-1), .int 0, .ref q7, .ref q8, .int 0, .ref q9, .ref q10, .int 0, .ref q11, .int 0, .ref q12, .int 0, .ref q13, .ref q14, .int 0, .ref q15, .ref q16, .ref q17, .ref q18, .int 0, .ref q19, .ref q20, .int 0, .null, .null, .null, .null])), (q1, .inl (fm_kA X 0, 6, .inl (fun _ => 0))), (q2, .inl (fm_kA X 0, 6, .inl (fun _ => 0))), (q3, .inl (fm_kA X 0, 8, .inl (fun _ => 0))), (q4, .inl (fm_kA X 0, 8, .inl (fun _ => 0))), (q5, .inl (fm_kA X 0, 8, .inl (fun _ => 0))), (q6, .inl (fm_kA X 0, 32, .inl (fun _ => 0))), (q7, .inl (fm_kA X 0, 3, .inl (fun _ => 0))), (q8, .inl (fm_kA X 0, 3, .inl (fun _ => 0))), (q9, .inl (fm_kA X 0, 6, .inl (fun _ => 0))), (q10, .inl (fm_kA X 0, 6, .inl (fun _ => 0))), (q11, .inl (fm_kA X 0, 16, .inl (fun _ => 0))), (q12, .inl (fm_kA X 0, 8, .inl (fun _ => 0))), (q13, .inl (fm_kA X 0, 100, .inl (fun _ => 0))), (q14, .inl (fm_kA X 3, 8, .inl (fun _ => 0))), (q15, .inl (fm_kA X 1, 64, .inr (.inl (fun _ => 0)))), (q16, .inl (fm_kA X 0, 64, .inl (fun _ => 0))), (q17, .inl (fm_kA X 0, 64, .inl (fun _ => 0))), (q18, .inl (fm_kA X 0, 64, .inl (fun _ => 0))), (q19, .inl (fm_kA X 0, 64, .inl (fun _ => 0))), (q20, .inl (fm_kA X 0, 20, .inl (fun _ => 0)))]) rfl ?_
  refine g_aload_n hB dX9_init_167 rfl rfl ?_
  refine g_bipush (v := nI 124) hB dX9_init_168 (by decide) ?_
  refine g_newI hB 124 dX9_init_170 rfl (by decide) (g_rm hR (Nat.le_of_ble_eq_true rfl) (Nat.le_of_ble_eq_true rfl)) (fun q21 => ?_)
  refine g_putF (h0 := h0) (ci := 9) (fs := [.int 0, .ref q1, .ref q2, .int 0, .ref q3, .ref q4, .ref q5, .ref q6, .int (-1), .int 0, .ref q7, .ref q8, .int 0, .ref q9, .ref q10, .int 0, .ref q11, .int 0, .ref q12, .int 0, .ref q13, .ref q14, .int 0, .ref q15, .ref q16, .ref q17, .ref q18, .int 0, .ref q19, .ref q20, .int 0, .null, .null, .null, .null]) hB hin (v := .ref q21) dX9_init_172 cp_X9_78 rfl rfl (Nat.le_of_ble_eq_true rfl) ?_
  refine g_ws ([(h0, .inr (9, [.int 0, .ref q1, .ref q2, .int 0, .ref q3, .ref q4, .ref q5, .ref q6, .int (-1), .int 0, .ref q7, .ref q8, .int 0, .ref q9, .ref q10, .int 0, .ref q11, .int 0, .ref q12, .int 0, .ref q13, .ref q14, .int 0, .ref q15, .ref q16, .ref q17, .ref q18, .int 0, .ref q19, .ref q20, .int 0, .ref q21, .null, .null, .null])), (q1, .inl (fm_kA X 0, 6, .inl (fun _ => 0))), (q2, .inl (fm_kA X 0, 6, .inl (fun _ => 0))), (q3, .inl (fm_kA X 0, 8, .inl (fun _ => 0))), (q4, .inl (fm_kA X 0, 8, .inl (fun _ => 0))), (q5, .inl (fm_kA X 0, 8, .inl (fun _ => 0))), (q6, .inl (fm_kA X 0, 32, .inl (fun _ => 0))), (q7, .inl (fm_kA X 0, 3, .inl (fun _ => 0))), (q8, .inl (fm_kA X 0, 3, .inl (fun _ => 0))), (q9, .inl (fm_kA X 0, 6, .inl (fun _ => 0))), (q10, .inl (fm_kA X 0, 6, .inl (fun _ => 0))), (q11, .inl (fm_kA X 0, 16, .inl (fun _ => 0))), (q12, .inl (fm_kA X 0, 8, .inl (fun _ => 0))), (q13, .inl (fm_kA X 0, 100, .inl (fun _ => 0))), (q14, .inl (fm_kA X 3, 8, .inl (fun _ => 0))), (q15, .inl (fm_kA X 1, 64, .inr (.inl (fun _ => 0)))), (q16, .inl (fm_kA X 0, 64, .inl (fun _ => 0))), (q17, .inl (fm_kA X 0, 64, .inl (fun _ => 0))), (q18, .inl (fm_kA X 0, 64, .inl (fun _ => 0))), (q19, .inl (fm_kA X 0, 64, .inl (fun _ => 0))), (q20, .inl (fm_kA X 0, 20, .inl (fun _ => 0))), (q21, .inl (fm_kA X 0, 124, .inl (fun _ => 0)))]) rfl ?_
  refine g_aload_n hB dX9_init_175 rfl rfl ?_
  refine g_bipush (v := nI 6) hB dX9_init_176 (by decide) ?_
  refine g_newI hB 6 dX9_init_178 rfl (by decide) (g_rm hR (Nat.le_of_ble_eq_true rfl) (Nat.le_of_ble_eq_true rfl)) (fun q22 => ?_)
  refine g_putF (h0 := h0) (ci := 9) (fs := [.int 0, .ref q1, .ref q2, .int 0, .ref q3, .ref q4, .ref q5, .ref q6, .int (-1), .int 0, .ref q7, .ref q8, .int 0, .ref q9, .ref q10, .int 0, .ref q11, .int 0, .ref q12, .int 0, .ref q13, .ref q14, .int 0, .ref q15, .ref q16, .ref q17, .ref q18, .int 0, .ref q19, .ref q20, .int 0, .ref q21, .null, .null, .null]) hB hin (v := .ref q22) dX9_init_180 cp_X9_81 rfl rfl (Nat.le_of_ble_eq_true rfl) ?_
  refine g_ws ([(h0, .inr (9, [.int 0, .ref q1, .ref q2, .int 0, .ref q3, .ref q4, .ref q5, .ref q6, .int (-1), .int 0, .ref q7, .ref q8, .int 0, .ref q9, .ref q10, .int 0, .ref q11, .int 0, .ref q12, .int 0, .ref q13, .ref q14, .int 0, .ref q15, .ref q16, .ref q17, .ref q18, .int 0, .ref q19, .ref q20, .int 0, .ref q21, .ref q22, .null, .null])), (q1, .inl (fm_kA X 0, 6, .inl (fun _ => 0))), (q2, .inl (fm_kA X 0, 6, .inl (fun _ => 0))), (q3, .inl (fm_kA X 0, 8, .inl (fun _ => 0))), (q4, .inl (fm_kA X 0, 8, .inl (fun _ => 0))), (q5, .inl (fm_kA X 0, 8, .inl (fun _ => 0))), (q6, .inl (fm_kA X 0, 32, .inl (fun _ => 0))), (q7, .inl (fm_kA X 0, 3, .inl (fun _ => 0))), (q8, .inl (fm_kA X 0, 3, .inl (fun _ => 0))), (q9, .inl (fm_kA X 0, 6, .inl (fun _ => 0))), (q10, .inl (fm_kA X 0, 6, .inl (fun _ => 0))), (q11, .inl (fm_kA X 0, 16, .inl (fun _ => 0))), (q12, .inl (fm_kA X 0, 8, .inl (fun _ => 0))), (q13, .inl (fm_kA X 0, 100, .inl (fun _ => 0))), (q14, .inl (fm_kA X 3, 8, .inl (fun _ => 0))), (q15, .inl (fm_kA X 1, 64, .inr (.inl (fun _ => 0)))), (q16, .inl (fm_kA X 0, 64, .inl (fun _ => 0))), (q17, .inl (fm_kA X 0, 64, .inl (fun _ => 0))), (q18, .inl (fm_kA X 0, 64, .inl (fun _ => 0))), (q19, .inl (fm_kA X 0, 64, .inl (fun _ => 0))), (q20, .inl (fm_kA X 0, 20, .inl (fun _ => 0))), (q21, .inl (fm_kA X 0, 124, .inl (fun _ => 0))), (q22, .inl (fm_kA X 0, 6, .inl (fun _ => 0)))]) rfl ?_
  refine g_aload_n hB dX9_init_183 rfl rfl ?_
  refine g_bipush (v := nI 6) hB dX9_init_184 (by decide) ?_
  refine g_newI hB 6 dX9_init_186 rfl (by decide) (g_rm hR (Nat.le_of_ble_eq_true rfl) (Nat.le_of_ble_eq_true rfl)) (fun q23 => ?_)
  refine g_putF (h0 := h0) (ci := 9) (fs := [.int 0, .ref q1, .ref q2, .int 0, .ref q3, .ref q4, .ref q5, .ref q6, .int (-1), .int 0, .ref q7, .ref q8, .int 0, .ref q9, .ref q10, .int 0, .ref q11, .int 0, .ref q12, .int 0, .ref q13, .ref q14, .int 0, .ref q15, .ref q16, .ref q17, .ref q18, .int 0, .ref q19, .ref q20, .int 0, .ref q21, .ref q22, .null, .null]) hB hin (v := .ref q23) dX9_init_188 cp_X9_84 rfl rfl (Nat.le_of_ble_eq_true rfl) ?_
  refine g_ws ([(h0, .inr (9, [.int 0, .ref q1, .ref q2, .int 0, .ref q3, .ref q4, .ref q5, .ref q6, .int (-1), .int 0, .ref q7, .ref q8, .int 0, .ref q9, .ref q10, .int 0, .ref q11, .int 0, .ref q12, .int 0, .ref q13, .ref q14, .int 0, .ref q15, .ref q16, .ref q17, .ref q18, .int 0, .ref q19, .ref q20, .int 0, .ref q21, .ref q22, .ref q23, .null])), (q1, .inl (fm_kA X 0, 6, .inl (fun _ => 0))), (q2, .inl (fm_kA X 0, 6, .inl (fun _ => 0))), (q3, .inl (fm_kA X 0, 8, .inl (fun _ => 0))), (q4, .inl (fm_kA X 0, 8, .inl (fun _ => 0))), (q5, .inl (fm_kA X 0, 8, .inl (fun _ => 0))), (q6, .inl (fm_kA X 0, 32, .inl (fun _ => 0))), (q7, .inl (fm_kA X 0, 3, .inl (fun _ => 0))), (q8, .inl (fm_kA X 0, 3, .inl (fun _ => 0))), (q9, .inl (fm_kA X 0, 6, .inl (fun _ => 0))), (q10, .inl (fm_kA X 0, 6, .inl (fun _ => 0))), (q11, .inl (fm_kA X 0, 16, .inl (fun _ => 0))), (q12, .inl (fm_kA X 0, 8, .inl (fun _ => 0))), (q13, .inl (fm_kA X 0, 100, .inl (fun _ => 0))), (q14, .inl (fm_kA X 3, 8, .inl (fun _ => 0))), (q15, .inl (fm_kA X 1, 64, .inr (.inl (fun _ => 0)))), (q16, .inl (fm_kA X 0, 64, .inl (fun _ => 0))), (q17, .inl (fm_kA X 0, 64, .inl (fun _ => 0))), (q18, .inl (fm_kA X 0, 64, .inl (fun _ => 0))), (q19, .inl (fm_kA X 0, 64, .inl (fun _ => 0))), (q20, .inl (fm_kA X 0, 20, .inl (fun _ => 0))), (q21, .inl (fm_kA X 0, 124, .inl (fun _ => 0))), (q22, .inl (fm_kA X 0, 6, .inl (fun _ => 0))), (q23, .inl (fm_kA X 0, 6, .inl (fun _ => 0)))]) rfl ?_
  refine g_aload_n hB dX9_init_191 rfl rfl ?_
  refine g_sipush (v := nI 360) hB dX9_init_192 (by decide) ?_
  refine g_newL hB 360 dX9_init_195 rfl (by decide) (g_rm hR (Nat.le_of_ble_eq_true rfl) (Nat.le_of_ble_eq_true rfl)) (fun q24 => ?_)
  refine g_putF (h0 := h0) (ci := 9) (fs := [.int 0, .ref q1, .ref q2, .int 0, .ref q3, .ref q4, .ref q5, .ref q6, .int (-1), .int 0, .ref q7, .ref q8, .int 0, .ref q9, .ref q10, .int 0, .ref q11, .int 0, .ref q12, .int 0, .ref q13, .ref q14, .int 0, .ref q15, .ref q16, .ref q17, .ref q18, .int 0, .ref q19, .ref q20, .int 0, .ref q21, .ref q22, .ref q23, .null]) hB hin (v := .ref q24) dX9_init_197 cp_X9_87 rfl rfl (Nat.le_of_ble_eq_true rfl) ?_
  refine g_ws ([(h0, .inr (9, [.int 0, .ref q1, .ref q2, .int 0, .ref q3, .ref q4, .ref q5, .ref q6, .int (-1), .int 0, .ref q7, .ref q8, .int 0, .ref q9, .ref q10, .int 0, .ref q11, .int 0, .ref q12, .int 0, .ref q13, .ref q14, .int 0, .ref q15, .ref q16, .ref q17, .ref q18, .int 0, .ref q19, .ref q20, .int 0, .ref q21, .ref q22, .ref q23, .ref q24])), (q1, .inl (fm_kA X 0, 6, .inl (fun _ => 0))), (q2, .inl (fm_kA X 0, 6, .inl (fun _ => 0))), (q3, .inl (fm_kA X 0, 8, .inl (fun _ => 0))), (q4, .inl (fm_kA X 0, 8, .inl (fun _ => 0))), (q5, .inl (fm_kA X 0, 8, .inl (fun _ => 0))), (q6, .inl (fm_kA X 0, 32, .inl (fun _ => 0))), (q7, .inl (fm_kA X 0, 3, .inl (fun _ => 0))), (q8, .inl (fm_kA X 0, 3, .inl (fun _ => 0))), (q9, .inl (fm_kA X 0, 6, .inl (fun _ => 0))), (q10, .inl (fm_kA X 0, 6, .inl (fun _ => 0))), (q11, .inl (fm_kA X 0, 16, .inl (fun _ => 0))), (q12, .inl (fm_kA X 0, 8, .inl (fun _ => 0))), (q13, .inl (fm_kA X 0, 100, .inl (fun _ => 0))), (q14, .inl (fm_kA X 3, 8, .inl (fun _ => 0))), (q15, .inl (fm_kA X 1, 64, .inr (.inl (fun _ => 0)))), (q16, .inl (fm_kA X 0, 64, .inl (fun _ => 0))), (q17, .inl (fm_kA X 0, 64, .inl (fun _ => 0))), (q18, .inl (fm_kA X 0, 64, .inl (fun _ => 0))), (q19, .inl (fm_kA X 0, 64, .inl (fun _ => 0))), (q20, .inl (fm_kA X 0, 20, .inl (fun _ => 0))), (q21, .inl (fm_kA X 0, 124, .inl (fun _ => 0))), (q22, .inl (fm_kA X 0, 6, .inl (fun _ => 0))), (q23, .inl (fm_kA X 0, 6, .inl (fun _ => 0))), (q24, .inl (fm_kA X 1, 360, .inr (.inl (fun _ => 0))))]) rfl ?_
  refine g_iconst (v := nI 0) hB dX9_init_200 (by decide) ?_
  refine g_istore_n hB dX9_init_201 rfl (by decide) rfl ?_
  refine g_iload_n hB dX9_init_202 rfl rfl ?_
  refine g_bipush (v := nI 6) hB dX9_init_203 (by decide) ?_
  refine g_icmp_ge (tgt := 221) hB dX9_init_205 (by decide) (fun h => absurd h (by decide)) (fun _ => ?_)
  refine g_aload_n hB dX9_init_208 rfl rfl ?_
  refine g_get (h0 := h0) (ci := 9) (fs := [.int 0, .ref q1, .ref q2, .int 0, .ref q3, .ref q4, .ref q5, .ref q6, .int (-1), .int 0, .ref q7, .ref q8, .int 0, .ref q9, .ref q10, .int 0, .ref q11, .int 0, .ref q12, .int 0, .ref q13, .ref q14, .int 0, .ref q15, .ref q16, .ref q17, .ref q18, .int 0, .ref q19, .ref q20, .int 0, .ref q21, .ref q22, .ref q23, .ref q24]) hB dX9_init_209 lf_X9_81 rfl ?_
  refine g_iload_n hB dX9_init_212 rfl rfl ?_
  refine g_iconst (v := -1) hB dX9_init_213 (by decide) ?_
  refine g_iast (q0 := 22) hB 0 dX9_init_214 rfl rfl (by decide) (by decide) ?_
  refine g_ws ([(h0, .inr (9, [.int 0, .ref q1, .ref q2, .int 0, .ref q3, .ref q4, .ref q5, .ref q6, .int (-1), .int 0, .ref q7, .ref q8, .int 0, .ref q9, .ref q10, .int 0, .ref q11, .int 0, .ref q12, .int 0, .ref q13, .ref q14, .int 0, .ref q15, .ref q16, .ref q17, .ref q18, .int 0, .ref q19, .ref q20, .int 0, .ref q21, .ref q22, .ref q23, .ref q24])), (q1, .inl (fm_kA X 0, 6, .inl (fun _ => 0))), (q2, .inl (fm_kA X 0, 6, .inl (fun _ => 0))), (q3, .inl (fm_kA X 0, 8, .inl (fun _ => 0))), (q4, .inl (fm_kA X 0, 8, .inl (fun _ => 0))), (q5, .inl (fm_kA X 0, 8, .inl (fun _ => 0))), (q6, .inl (fm_kA X 0, 32, .inl (fun _ => 0))), (q7, .inl (fm_kA X 0, 3, .inl (fun _ => 0))), (q8, .inl (fm_kA X 0, 3, .inl (fun _ => 0))), (q9, .inl (fm_kA X 0, 6, .inl (fun _ => 0))), (q10, .inl (fm_kA X 0, 6, .inl (fun _ => 0))), (q11, .inl (fm_kA X 0, 16, .inl (fun _ => 0))), (q12, .inl (fm_kA X 0, 8, .inl (fun _ => 0))), (q13, .inl (fm_kA X 0, 100, .inl (fun _ => 0))), (q14, .inl (fm_kA X 3, 8, .inl (fun _ => 0))), (q15, .inl (fm_kA X 1, 64, .inr (.inl (fun _ => 0)))), (q16, .inl (fm_kA X 0, 64, .inl (fun _ => 0))), (q17, .inl (fm_kA X 0, 64, .inl (fun _ => 0))), (q18, .inl (fm_kA X 0, 64, .inl (fun _ => 0))), (q19, .inl (fm_kA X 0, 64, .inl (fun _ => 0))), (q20, .inl (fm_kA X 0, 20, .inl (fun _ => 0))), (q21, .inl (fm_kA X 0, 124, .inl (fun _ => 0))), (q22, .inl (fm_kA X 0, 6, .inl (upd (fun _ => 0) 0 (-1)))), (q23, .inl (fm_kA X 0, 6, .inl (fun _ => 0))), (q24, .inl (fm_kA X 1, 360, .inr (.inl (fun _ => 0))))]) rfl ?_
  refine g_iinc (v := nI 1) hB dX9_init_215 rfl (by decide) (by decide) rfl ?_
  refine g_goto (tgt := 202) hB dX9_init_218 (by decide) ?_
  refine g_iload_n hB dX9_init_202 rfl rfl ?_
  refine g_bipush (v := nI 6) hB dX9_init_203 (by decide) ?_
  refine g_icmp_ge (tgt := 221) hB dX9_init_205 (by decide) (fun h => absurd h (by decide)) (fun _ => ?_)
  refine g_aload_n hB dX9_init_208 rfl rfl ?_
  refine g_get (h0 := h0) (ci := 9) (fs := [.int 0, .ref q1, .ref q2, .int 0, .ref q3, .ref q4, .ref q5, .ref q6, .int (-1), .int 0, .ref q7, .ref q8, .int 0, .ref q9, .ref q10, .int 0, .ref q11, .int 0, .ref q12, .int 0, .ref q13, .ref q14, .int 0, .ref q15, .ref q16, .ref q17, .ref q18, .int 0, .ref q19, .ref q20, .int 0, .ref q21, .ref q22, .ref q23, .ref q24]) hB dX9_init_209 lf_X9_81 rfl ?_
  refine g_iload_n hB dX9_init_212 rfl rfl ?_
  refine g_iconst (v := -1) hB dX9_init_213 (by decide) ?_
  refine g_iast (q0 := 22) hB 1 dX9_init_214 rfl rfl (by decide) (by decide) ?_
  refine g_ws ([(h0, .inr (9, [.int 0, .ref q1, .ref q2, .int 0, .ref q3, .ref q4, .ref q5, .ref q6, .int (-1), .int 0, .ref q7, .ref q8, .int 0, .ref q9, .ref q10, .int 0, .ref q11, .int 0, .ref q12, .int 0, .ref q13, .ref q14, .int 0, .ref q15, .ref q16, .ref q17, .ref q18, .int 0, .ref q19, .ref q20, .int 0, .ref q21, .ref q22, .ref q23, .ref q24])), (q1, .inl (fm_kA X 0, 6, .inl (fun _ => 0))), (q2, .inl (fm_kA X 0, 6, .inl (fun _ => 0))), (q3, .inl (fm_kA X 0, 8, .inl (fun _ => 0))), (q4, .inl (fm_kA X 0, 8, .inl (fun _ => 0))), (q5, .inl (fm_kA X 0, 8, .inl (fun _ => 0))), (q6, .inl (fm_kA X 0, 32, .inl (fun _ => 0))), (q7, .inl (fm_kA X 0, 3, .inl (fun _ => 0))), (q8, .inl (fm_kA X 0, 3, .inl (fun _ => 0))), (q9, .inl (fm_kA X 0, 6, .inl (fun _ => 0))), (q10, .inl (fm_kA X 0, 6, .inl (fun _ => 0))), (q11, .inl (fm_kA X 0, 16, .inl (fun _ => 0))), (q12, .inl (fm_kA X 0, 8, .inl (fun _ => 0))), (q13, .inl (fm_kA X 0, 100, .inl (fun _ => 0))), (q14, .inl (fm_kA X 3, 8, .inl (fun _ => 0))), (q15, .inl (fm_kA X 1, 64, .inr (.inl (fun _ => 0)))), (q16, .inl (fm_kA X 0, 64, .inl (fun _ => 0))), (q17, .inl (fm_kA X 0, 64, .inl (fun _ => 0))), (q18, .inl (fm_kA X 0, 64, .inl (fun _ => 0))), (q19, .inl (fm_kA X 0, 64, .inl (fun _ => 0))), (q20, .inl (fm_kA X 0, 20, .inl (fun _ => 0))), (q21, .inl (fm_kA X 0, 124, .inl (fun _ => 0))), (q22, .inl (fm_kA X 0, 6, .inl (upd (upd (fun _ => 0) 0 (-1)) 1 (-1)))), (q23, .inl (fm_kA X 0, 6, .inl (fun _ => 0))), (q24, .inl (fm_kA X 1, 360, .inr (.inl (fun _ => 0))))]) rfl ?_
  refine g_iinc (v := nI 2) hB dX9_init_215 rfl (by decide) (by decide) rfl ?_
  refine g_goto (tgt := 202) hB dX9_init_218 (by decide) ?_
  refine g_iload_n hB dX9_init_202 rfl rfl ?_
  refine g_bipush (v := nI 6) hB dX9_init_203 (by decide) ?_
  refine g_icmp_ge (tgt := 221) hB dX9_init_205 (by decide) (fun h => absurd h (by decide)) (fun _ => ?_)
  refine g_aload_n hB dX9_init_208 rfl rfl ?_
  refine g_get (h0 := h0) (ci := 9) (fs := [.int 0, .ref q1, .ref q2, .int 0, .ref q3, .ref q4, .ref q5, .ref q6, .int (-1), .int 0, .ref q7, .ref q8, .int 0, .ref q9, .ref q10, .int 0, .ref q11, .int 0, .ref q12, .int 0, .ref q13, .ref q14, .int 0, .ref q15, .ref q16, .ref q17, .ref q18, .int 0, .ref q19, .ref q20, .int 0, .ref q21, .ref q22, .ref q23, .ref q24]) hB dX9_init_209 lf_X9_81 rfl ?_
  refine g_iload_n hB dX9_init_212 rfl rfl ?_
  refine g_iconst (v := -1) hB dX9_init_213 (by decide) ?_
  refine g_iast (q0 := 22) hB 2 dX9_init_214 rfl rfl (by decide) (by decide) ?_
  refine g_ws ([(h0, .inr (9, [.int 0, .ref q1, .ref q2, .int 0, .ref q3, .ref q4, .ref q5, .ref q6, .int (-1), .int 0, .ref q7, .ref q8, .int 0, .ref q9, .ref q10, .int 0, .ref q11, .int 0, .ref q12, .int 0, .ref q13, .ref q14, .int 0, .ref q15, .ref q16, .ref q17, .ref q18, .int 0, .ref q19, .ref q20, .int 0, .ref q21, .ref q22, .ref q23, .ref q24])), (q1, .inl (fm_kA X 0, 6, .inl (fun _ => 0))), (q2, .inl (fm_kA X 0, 6, .inl (fun _ => 0))), (q3, .inl (fm_kA X 0, 8, .inl (fun _ => 0))), (q4, .inl (fm_kA X 0, 8, .inl (fun _ => 0))), (q5, .inl (fm_kA X 0, 8, .inl (fun _ => 0))), (q6, .inl (fm_kA X 0, 32, .inl (fun _ => 0))), (q7, .inl (fm_kA X 0, 3, .inl (fun _ => 0))), (q8, .inl (fm_kA X 0, 3, .inl (fun _ => 0))), (q9, .inl (fm_kA X 0, 6, .inl (fun _ => 0))), (q10, .inl (fm_kA X 0, 6, .inl (fun _ => 0))), (q11, .inl (fm_kA X 0, 16, .inl (fun _ => 0))), (q12, .inl (fm_kA X 0, 8, .inl (fun _ => 0))), (q13, .inl (fm_kA X 0, 100, .inl (fun _ => 0))), (q14, .inl (fm_kA X 3, 8, .inl (fun _ => 0))), (q15, .inl (fm_kA X 1, 64, .inr (.inl (fun _ => 0)))), (q16, .inl (fm_kA X 0, 64, .inl (fun _ => 0))), (q17, .inl (fm_kA X 0, 64, .inl (fun _ => 0))), (q18, .inl (fm_kA X 0, 64, .inl (fun _ => 0))), (q19, .inl (fm_kA X 0, 64, .inl (fun _ => 0))), (q20, .inl (fm_kA X 0, 20, .inl (fun _ => 0))), (q21, .inl (fm_kA X 0, 124, .inl (fun _ => 0))), (q22, .inl (fm_kA X 0, 6, .inl (upd (upd (upd (fun _ => 0) 0 (-1)) 1 (-1)) 2 (-1)))), (q23, .inl (fm_kA X 0, 6, .inl (fun _ => 0))), (q24, .inl (fm_kA X 1, 360, .inr (.inl (fun _ => 0))))]) rfl ?_
  refine g_iinc (v := nI 3) hB dX9_init_215 rfl (by decide) (by decide) rfl ?_
  refine g_goto (tgt := 202) hB dX9_init_218 (by decide) ?_
  refine g_iload_n hB dX9_init_202 rfl rfl ?_
  refine g_bipush (v := nI 6) hB dX9_init_203 (by decide) ?_
  refine g_icmp_ge (tgt := 221) hB dX9_init_205 (by decide) (fun h => absurd h (by decide)) (fun _ => ?_)
  refine g_aload_n hB dX9_init_208 rfl rfl ?_
  refine g_get (h0 := h0) (ci := 9) (fs := [.int 0, .ref q1, .ref q2, .int 0, .ref q3, .ref q4, .ref q5, .ref q6, .int (-1), .int 0, .ref q7, .ref q8, .int 0, .ref q9, .ref q10, .int 0, .ref q11, .int 0, .ref q12, .int 0, .ref q13, .ref q14, .int 0, .ref q15, .ref q16, .ref q17, .ref q18, .int 0, .ref q19, .ref q20, .int 0, .ref q21, .ref q22, .ref q23, .ref q24]) hB dX9_init_209 lf_X9_81 rfl ?_
  refine g_iload_n hB dX9_init_212 rfl rfl ?_
  refine g_iconst (v := -1) hB dX9_init_213 (by decide) ?_
  refine g_iast (q0 := 22) hB 3 dX9_init_214 rfl rfl (by decide) (by decide) ?_
  refine g_ws ([(h0, .inr (9, [.int 0, .ref q1, .ref q2, .int 0, .ref q3, .ref q4, .ref q5, .ref q6, .int (-1), .int 0, .ref q7, .ref q8, .int 0, .ref q9, .ref q10, .int 0, .ref q11, .int 0, .ref q12, .int 0, .ref q13, .ref q14, .int 0, .ref q15, .ref q16, .ref q17, .ref q18, .int 0, .ref q19, .ref q20, .int 0, .ref q21, .ref q22, .ref q23, .ref q24])), (q1, .inl (fm_kA X 0, 6, .inl (fun _ => 0))), (q2, .inl (fm_kA X 0, 6, .inl (fun _ => 0))), (q3, .inl (fm_kA X 0, 8, .inl (fun _ => 0))), (q4, .inl (fm_kA X 0, 8, .inl (fun _ => 0))), (q5, .inl (fm_kA X 0, 8, .inl (fun _ => 0))), (q6, .inl (fm_kA X 0, 32, .inl (fun _ => 0))), (q7, .inl (fm_kA X 0, 3, .inl (fun _ => 0))), (q8, .inl (fm_kA X 0, 3, .inl (fun _ => 0))), (q9, .inl (fm_kA X 0, 6, .inl (fun _ => 0))), (q10, .inl (fm_kA X 0, 6, .inl (fun _ => 0))), (q11, .inl (fm_kA X 0, 16, .inl (fun _ => 0))), (q12, .inl (fm_kA X 0, 8, .inl (fun _ => 0))), (q13, .inl (fm_kA X 0, 100, .inl (fun _ => 0))), (q14, .inl (fm_kA X 3, 8, .inl (fun _ => 0))), (q15, .inl (fm_kA X 1, 64, .inr (.inl (fun _ => 0)))), (q16, .inl (fm_kA X 0, 64, .inl (fun _ => 0))), (q17, .inl (fm_kA X 0, 64, .inl (fun _ => 0))), (q18, .inl (fm_kA X 0, 64, .inl (fun _ => 0))), (q19, .inl (fm_kA X 0, 64, .inl (fun _ => 0))), (q20, .inl (fm_kA X 0, 20, .inl (fun _ => 0))), (q21, .inl (fm_kA X 0, 124, .inl (fun _ => 0))), (q22, .inl (fm_kA X 0, 6, .inl (upd (upd (upd (upd (fun _ => 0) 0 (-1)) 1 (-1)) 2 (-1)) 3 (-1)))), (q23, .inl (fm_kA X 0, 6, .inl (fun _ => 0))), (q24, .inl (fm_kA X 1, 360, .inr (.inl (fun _ => 0))))]) rfl ?_
  refine g_iinc (v := nI 4) hB dX9_init_215 rfl (by decide) (by decide) rfl ?_
  refine g_goto (tgt := 202) hB dX9_init_218 (by decide) ?_
  refine g_iload_n hB dX9_init_202 rfl rfl ?_
  refine g_bipush (v := nI 6) hB dX9_init_203 (by decide) ?_
  refine g_icmp_ge (tgt := 221) hB dX9_init_205 (by decide) (fun h => absurd h (by decide)) (fun _ => ?_)
  refine g_aload_n hB dX9_init_208 rfl rfl ?_
  refine g_get (h0 := h0) (ci := 9) (fs := [.int 0, .ref q1, .ref q2, .int 0, .ref q3, .ref q4, .ref q5, .ref q6, .int (-1), .int 0, .ref q7, .ref q8, .int 0, .ref q9, .ref q10, .int 0, .ref q11, .int 0, .ref q12, .int 0, .ref q13, .ref q14, .int 0, .ref q15, .ref q16, .ref q17, .ref q18, .int 0, .ref q19, .ref q20, .int 0, .ref q21, .ref q22, .ref q23, .ref q24]) hB dX9_init_209 lf_X9_81 rfl ?_
  refine g_iload_n hB dX9_init_212 rfl rfl ?_
  refine g_iconst (v := -1) hB dX9_init_213 (by decide) ?_
  refine g_iast (q0 := 22) hB 4 dX9_init_214 rfl rfl (by decide) (by decide) ?_
  refine g_ws ([(h0, .inr (9, [.int 0, .ref q1, .ref q2, .int 0, .ref q3, .ref q4, .ref q5, .ref q6, .int (-1), .int 0, .ref q7, .ref q8, .int 0, .ref q9, .ref q10, .int 0, .ref q11, .int 0, .ref q12, .int 0, .ref q13, .ref q14, .int 0, .ref q15, .ref q16, .ref q17, .ref q18, .int 0, .ref q19, .ref q20, .int 0, .ref q21, .ref q22, .ref q23, .ref q24])), (q1, .inl (fm_kA X 0, 6, .inl (fun _ => 0))), (q2, .inl (fm_kA X 0, 6, .inl (fun _ => 0))), (q3, .inl (fm_kA X 0, 8, .inl (fun _ => 0))), (q4, .inl (fm_kA X 0, 8, .inl (fun _ => 0))), (q5, .inl (fm_kA X 0, 8, .inl (fun _ => 0))), (q6, .inl (fm_kA X 0, 32, .inl (fun _ => 0))), (q7, .inl (fm_kA X 0, 3, .inl (fun _ => 0))), (q8, .inl (fm_kA X 0, 3, .inl (fun _ => 0))), (q9, .inl (fm_kA X 0, 6, .inl (fun _ => 0))), (q10, .inl (fm_kA X 0, 6, .inl (fun _ => 0))), (q11, .inl (fm_kA X 0, 16, .inl (fun _ => 0))), (q12, .inl (fm_kA X 0, 8, .inl (fun _ => 0))), (q13, .inl (fm_kA X 0, 100, .inl (fun _ => 0))), (q14, .inl (fm_kA X 3, 8, .inl (fun _ => 0))), (q15, .inl (fm_kA X 1, 64, .inr (.inl (fun _ => 0)))), (q16, .inl (fm_kA X 0, 64, .inl (fun _ => 0))), (q17, .inl (fm_kA X 0, 64, .inl (fun _ => 0))), (q18, .inl (fm_kA X 0, 64, .inl (fun _ => 0))), (q19, .inl (fm_kA X 0, 64, .inl (fun _ => 0))), (q20, .inl (fm_kA X 0, 20, .inl (fun _ => 0))), (q21, .inl (fm_kA X 0, 124, .inl (fun _ => 0))), (q22, .inl (fm_kA X 0, 6, .inl (upd (upd (upd (upd (upd (fun _ => 0) 0 (-1)) 1 (-1)) 2 (-1)) 3 (-1)) 4 (-1)))), (q23, .inl (fm_kA X 0, 6, .inl (fun _ => 0))), (q24, .inl (fm_kA X 1, 360, .inr (.inl (fun _ => 0))))]) rfl ?_
  refine g_iinc (v := nI 5) hB dX9_init_215 rfl (by decide) (by decide) rfl ?_
  refine g_goto (tgt := 202) hB dX9_init_218 (by decide) ?_
  refine g_iload_n hB dX9_init_202 rfl rfl ?_
  refine g_bipush (v := nI 6) hB dX9_init_203 (by decide) ?_
  refine g_icmp_ge (tgt := 221) hB dX9_init_205 (by decide) (fun h => absurd h (by decide)) (fun _ => ?_)
  refine g_aload_n hB dX9_init_208 rfl rfl ?_
  refine g_get (h0 := h0) (ci := 9) (fs := [.int 0, .ref q1, .ref q2, .int 0, .ref q3, .ref q4, .ref q5, .ref q6, .int (-1), .int 0, .ref q7, .ref q8, .int 0, .ref q9, .ref q10, .int 0, .ref q11, .int 0, .ref q12, .int 0, .ref q13, .ref q14, .int 0, .ref q15, .ref q16, .ref q17, .ref q18, .int 0, .ref q19, .ref q20, .int 0, .ref q21, .ref q22, .ref q23, .ref q24]) hB dX9_init_209 lf_X9_81 rfl ?_
  refine g_iload_n hB dX9_init_212 rfl rfl ?_
  refine g_iconst (v := -1) hB dX9_init_213 (by decide) ?_
  refine g_iast (q0 := 22) hB 5 dX9_init_214 rfl rfl (by decide) (by decide) ?_
  refine g_ws ([(h0, .inr (9, [.int 0, .ref q1, .ref q2, .int 0, .ref q3, .ref q4, .ref q5, .ref q6, .int (-1), .int 0, .ref q7, .ref q8, .int 0, .ref q9, .ref q10, .int 0, .ref q11, .int 0, .ref q12, .int 0, .ref q13, .ref q14, .int 0, .ref q15, .ref q16, .ref q17, .ref q18, .int 0, .ref q19, .ref q20, .int 0, .ref q21, .ref q22, .ref q23, .ref q24])), (q1, .inl (fm_kA X 0, 6, .inl (fun _ => 0))), (q2, .inl (fm_kA X 0, 6, .inl (fun _ => 0))), (q3, .inl (fm_kA X 0, 8, .inl (fun _ => 0))), (q4, .inl (fm_kA X 0, 8, .inl (fun _ => 0))), (q5, .inl (fm_kA X 0, 8, .inl (fun _ => 0))), (q6, .inl (fm_kA X 0, 32, .inl (fun _ => 0))), (q7, .inl (fm_kA X 0, 3, .inl (fun _ => 0))), (q8, .inl (fm_kA X 0, 3, .inl (fun _ => 0))), (q9, .inl (fm_kA X 0, 6, .inl (fun _ => 0))), (q10, .inl (fm_kA X 0, 6, .inl (fun _ => 0))), (q11, .inl (fm_kA X 0, 16, .inl (fun _ => 0))), (q12, .inl (fm_kA X 0, 8, .inl (fun _ => 0))), (q13, .inl (fm_kA X 0, 100, .inl (fun _ => 0))), (q14, .inl (fm_kA X 3, 8, .inl (fun _ => 0))), (q15, .inl (fm_kA X 1, 64, .inr (.inl (fun _ => 0)))), (q16, .inl (fm_kA X 0, 64, .inl (fun _ => 0))), (q17, .inl (fm_kA X 0, 64, .inl (fun _ => 0))), (q18, .inl (fm_kA X 0, 64, .inl (fun _ => 0))), (q19, .inl (fm_kA X 0, 64, .inl (fun _ => 0))), (q20, .inl (fm_kA X 0, 20, .inl (fun _ => 0))), (q21, .inl (fm_kA X 0, 124, .inl (fun _ => 0))), (q22, .inl (fm_kA X 0, 6, .inl (upd (upd (upd (upd (upd (upd (fun _ => 0) 0 (-1)) 1 (-1)) 2 (-1)) 3 (-1)) 4 (-1)) 5 (-1)))), (q23, .inl (fm_kA X 0, 6, .inl (fun _ => 0))), (q24, .inl (fm_kA X 1, 360, .inr (.inl (fun _ => 0))))]) rfl ?_
  refine g_iinc (v := nI 6) hB dX9_init_215 rfl (by decide) (by decide) rfl ?_
  refine g_goto (tgt := 202) hB dX9_init_218 (by decide) ?_
  refine g_iload_n hB dX9_init_202 rfl rfl ?_
  refine g_bipush (v := nI 6) hB dX9_init_203 (by decide) ?_
  refine g_icmp_ge (tgt := 221) hB dX9_init_205 (by decide) (fun _ => ?_) (fun h => absurd (by decide) h)
  exact g_ret hB (fun k => if k = 0 then h0 else if k = 1 then q1 else if k = 2 then q2 else if k = 3 then q3 else if k = 4 then q4 else if k = 5 then q5 else if k = 6 then q6 else if k = 7 then q7 else if k = 8 then q8 else if k = 9 then q9 else if k = 10 then q10 else if k = 11 then q11 else if k = 12 then q12 else if k = 13 then q13 else if k = 14 then q14 else if k = 15 then q15 else if k = 16 then q16 else if k = 17 then q17 else if k = 18 then q18 else if k = 19 then q19 else if k = 20 then q20 else if k = 21 then q21 else if k = 22 then q22 else if k = 23 then q23 else if k = 24 then q24 else 0) dX9_init_221 rfl rfl
