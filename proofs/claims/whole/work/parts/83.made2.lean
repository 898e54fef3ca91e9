/-! ===== the constructors of State, of FaultGraph ===== -/
abbrev sh6 : List fm_S := [.inl (6, [some 1, some 12, some 15, some 18]), .inl (3, [some 2, some 3, none, some 4, some 5, some 6, some 7, none, none, some 8, some 9, none, some 10, some 11]), .inr (0, 6), .inr (0, 6), .inr (0, 8), .inr (0, 8), .inr (0, 32), .inr (0, 8), .inr (0, 3), .inr (0, 3), .inr (1, 8), .inr (1, 5), .inl (4, [some 13, some 14, none]), .inr (0, 6), .inr (0, 6), .inl (4, [some 16, some 17, none]), .inr (0, 8), .inr (0, 8), .inl (4, [some 19, some 20, none]), .inr (0, 8), .inr (0, 8)]
def mk6 : fm_M := mm1 1 8 (-1)
section GCA
variable {X : fm_X} {nL ce sl : Nat} {pc : Nat} {lv : List (Option Value)} {st : List Value} {Q : State → Prop}
theorem arrV_congr (cI : ClassId) {N : Nat} {f g : Nat → Value} (h : ∀ j, j < N → f j = g j) : arrV cI N f = arrV cI N g := by
  unfold arrV
  congr 1
  congr 1
  funext j
  exact h j.1 j.2
theorem g_arr {q0 a n : Nat} {f : Nat → Option Nat} (f' : Nat → Option Nat) {ws : va_W} (ha : ws[q0]? = some (a, .inl (fm_kA X 4, n, .inr (.inr (.inr (.inr f)))))) (hf : ∀ j, j < n → f j = f' j) (k : gw X nL ce sl (iw X (ws.set q0 (a, .inl (fm_kA X 4, n, .inr (.inr (.inr (.inr f'))))))) pc lv st Q) : gw X nL ce sl (iw X ws) pc lv st Q := fun H locs hI ls hl => by
  obtain ⟨hP, hD, hS⟩ := hI
  refine k H locs ⟨fun i x hx => ?_, hD.set ha, hS⟩ ls hl
  rw [List.getElem?_set] at hx
  by_cases e : q0 = i
  · subst e
    rw [if_pos rfl] at hx
    split at hx
    · cases hx
      have h1 := hP q0 _ ha
      show H[a]? = some (vp_cell _ _)
      have h2 : H[a]? = some (vp_cell (fm_kA X 4) (n, .inr (.inr (.inr (.inr f))))) := h1
      rw [h2]
      exact congrArg some (arrV_congr (fm_kA X 4) (f := fun j => va_rf (f j)) (g := fun j => va_rf (f' j)) (fun j hj => congrArg va_rf (hf j hj)))
    · cases hx
  · rw [if_neg e] at hx
    exact hP i x hx
end GCA
theorem gi_6 {l : Launch} {kA : Nat → ClassId} {D : va_G} : gk l kA D mX6_init 2 20 154 6 [.null, .null, .null, .null] [] sh6 mk6 := by
  refine gk.of (by decide +kernel) rfl (Nat.le_of_ble_eq_true rfl) ?_
  intro X h0 e1 e2 e3 hR hin hB
  subst e1 e2 e3
  have hB : gb X cX6_init 1 RX6 none := hB
  refine g_lv [some (.ref h0)] ⟨rfl, trivial⟩ ?_
  refine g_aload_n hB dX6_init_0 rfl rfl ?_
  refine g_obj hB dX6_init_1 co_X6_3 (g_rf hR (Nat.le_of_ble_eq_true rfl) (Nat.le_of_ble_eq_true rfl)) ?_
  refine g_aload_n hB dX6_init_4 rfl rfl ?_
  refine g_new hB dX6_init_5 cn_X6_9 (g_rm hR (Nat.le_of_ble_eq_true rfl) (Nat.le_of_ble_eq_true rfl)) (fun q1 => ?_)
  refine g_dup hB dX6_init_8 rfl ?_
  refine g_initN (ce := 1) (sl := 14) (q := q1) (rest := [.ref q1, .ref h0]) (pre := (h0, .inr (6, [.null, .null, .null, .null])) :: []) hB dX6_init_9 (List.mem_of_getElem? (i := 1) rfl) cw_3 gi_3 rfl rfl (Nat.le_of_ble_eq_true rfl) (g_rf hR (Nat.le_of_ble_eq_true rfl) (Nat.le_of_ble_eq_true rfl)) (g_rm hR (Nat.le_of_ble_eq_true rfl) (Nat.le_of_ble_eq_true rfl)) (fun rh1 e1 => ?_)
  subst e1
  refine g_ws ((h0, .inr (6, [.null, .null, .null, .null])) :: rw_w rh1 (fm_kA X) mk3 0 sh3) rfl ?_
  refine g_putF (h0 := h0) (ci := 6) (fs := [.null, .null, .null, .null]) (ws := rw_w rh1 (fm_kA X) mk3 0 sh3) hB hin (v := .ref (rh1 0)) dX6_init_12 cp_X6_12 rfl rfl (Nat.le_of_ble_eq_true rfl) ?_
  refine g_ws ((h0, .inr (6, [.ref (rh1 0), .null, .null, .null])) :: rw_w rh1 (fm_kA X) mk3 0 sh3) rfl ?_
  refine g_aload_n hB dX6_init_15 rfl rfl ?_
  refine g_new hB dX6_init_16 cn_X6_18 (g_rm hR (Nat.le_of_ble_eq_true rfl) (Nat.le_of_ble_eq_true rfl)) (fun q2 => ?_)
  refine g_dup hB dX6_init_19 rfl ?_
  refine g_bipush (v := nI 6) hB dX6_init_20 (by decide) ?_
  refine g_initI (ce := 12) (sl := 104) (q := q2) (rest := [.ref q2, .ref h0]) (pre := (h0, .inr (6, [.ref (rh1 0), .null, .null, .null])) :: rw_w rh1 (fm_kA X) mk3 0 sh3) hB dX6_init_22 ci_X6_20 cw_4 (gi_4 (n := 6) (by decide)) rfl rfl (Nat.le_of_ble_eq_true rfl) (g_rf hR (Nat.le_of_ble_eq_true rfl) (Nat.le_of_ble_eq_true rfl)) (g_rm hR (Nat.le_of_ble_eq_true rfl) (Nat.le_of_ble_eq_true rfl)) (fun rh2 e2 => ?_)
  subst e2
  refine g_ws ((h0, .inr (6, [.ref (rh1 0), .null, .null, .null])) :: (rw_w rh1 (fm_kA X) mk3 0 sh3 ++ rw_w rh2 (fm_kA X) mk4 0 (sh4 6))) rfl ?_
  refine g_putF (h0 := h0) (ci := 6) (fs := [.ref (rh1 0), .null, .null, .null]) (ws := (rw_w rh1 (fm_kA X) mk3 0 sh3 ++ rw_w rh2 (fm_kA X) mk4 0 (sh4 6))) hB hin (v := .ref (rh2 0)) dX6_init_25 cp_X6_23 rfl rfl (Nat.le_of_ble_eq_true rfl) ?_
  refine g_ws ((h0, .inr (6, [.ref (rh1 0), .ref (rh2 0), .null, .null])) :: (rw_w rh1 (fm_kA X) mk3 0 sh3 ++ rw_w rh2 (fm_kA X) mk4 0 (sh4 6))) rfl ?_
  refine g_aload_n hB dX6_init_28 rfl rfl ?_
  refine g_new hB dX6_init_29 cn_X6_18 (g_rm hR (Nat.le_of_ble_eq_true rfl) (Nat.le_of_ble_eq_true rfl)) (fun q3 => ?_)
  refine g_dup hB dX6_init_32 rfl ?_
  refine g_bipush (v := nI 8) hB dX6_init_33 (by decide) ?_
  refine g_initI (ce := 15) (sl := 119) (q := q3) (rest := [.ref q3, .ref h0]) (pre := (h0, .inr (6, [.ref (rh1 0), .ref (rh2 0), .null, .null])) :: (rw_w rh1 (fm_kA X) mk3 0 sh3 ++ rw_w rh2 (fm_kA X) mk4 0 (sh4 6))) hB dX6_init_35 ci_X6_20 cw_4 (gi_4 (n := 8) (by decide)) rfl rfl (Nat.le_of_ble_eq_true rfl) (g_rf hR (Nat.le_of_ble_eq_true rfl) (Nat.le_of_ble_eq_true rfl)) (g_rm hR (Nat.le_of_ble_eq_true rfl) (Nat.le_of_ble_eq_true rfl)) (fun rh3 e3 => ?_)
  subst e3
  refine g_ws ((h0, .inr (6, [.ref (rh1 0), .ref (rh2 0), .null, .null])) :: ((rw_w rh1 (fm_kA X) mk3 0 sh3 ++ rw_w rh2 (fm_kA X) mk4 0 (sh4 6)) ++ rw_w rh3 (fm_kA X) mk4 0 (sh4 8))) rfl ?_
  refine g_putF (h0 := h0) (ci := 6) (fs := [.ref (rh1 0), .ref (rh2 0), .null, .null]) (ws := ((rw_w rh1 (fm_kA X) mk3 0 sh3 ++ rw_w rh2 (fm_kA X) mk4 0 (sh4 6)) ++ rw_w rh3 (fm_kA X) mk4 0 (sh4 8))) hB hin (v := .ref (rh3 0)) dX6_init_38 cp_X6_27 rfl rfl (Nat.le_of_ble_eq_true rfl) ?_
  refine g_ws ((h0, .inr (6, [.ref (rh1 0), .ref (rh2 0), .ref (rh3 0), .null])) :: ((rw_w rh1 (fm_kA X) mk3 0 sh3 ++ rw_w rh2 (fm_kA X) mk4 0 (sh4 6)) ++ rw_w rh3 (fm_kA X) mk4 0 (sh4 8))) rfl ?_
  refine g_aload_n hB dX6_init_41 rfl rfl ?_
  refine g_new hB dX6_init_42 cn_X6_18 (g_rm hR (Nat.le_of_ble_eq_true rfl) (Nat.le_of_ble_eq_true rfl)) (fun q4 => ?_)
  refine g_dup hB dX6_init_45 rfl ?_
  refine g_bipush (v := nI 8) hB dX6_init_46 (by decide) ?_
  refine g_initI (ce := 18) (sl := 138) (q := q4) (rest := [.ref q4, .ref h0]) (pre := (h0, .inr (6, [.ref (rh1 0), .ref (rh2 0), .ref (rh3 0), .null])) :: ((rw_w rh1 (fm_kA X) mk3 0 sh3 ++ rw_w rh2 (fm_kA X) mk4 0 (sh4 6)) ++ rw_w rh3 (fm_kA X) mk4 0 (sh4 8))) hB dX6_init_48 ci_X6_20 cw_4 (gi_4 (n := 8) (by decide)) rfl rfl (Nat.le_of_ble_eq_true rfl) (g_rf hR (Nat.le_of_ble_eq_true rfl) (Nat.le_of_ble_eq_true rfl)) (g_rm hR (Nat.le_of_ble_eq_true rfl) (Nat.le_of_ble_eq_true rfl)) (fun rh4 e4 => ?_)
  subst e4
  refine g_ws ((h0, .inr (6, [.ref (rh1 0), .ref (rh2 0), .ref (rh3 0), .null])) :: (((rw_w rh1 (fm_kA X) mk3 0 sh3 ++ rw_w rh2 (fm_kA X) mk4 0 (sh4 6)) ++ rw_w rh3 (fm_kA X) mk4 0 (sh4 8)) ++ rw_w rh4 (fm_kA X) mk4 0 (sh4 8))) rfl ?_
  refine g_putF (h0 := h0) (ci := 6) (fs := [.ref (rh1 0), .ref (rh2 0), .ref (rh3 0), .null]) (ws := (((rw_w rh1 (fm_kA X) mk3 0 sh3 ++ rw_w rh2 (fm_kA X) mk4 0 (sh4 6)) ++ rw_w rh3 (fm_kA X) mk4 0 (sh4 8)) ++ rw_w rh4 (fm_kA X) mk4 0 (sh4 8))) hB hin (v := .ref (rh4 0)) dX6_init_51 cp_X6_30 rfl rfl (Nat.le_of_ble_eq_true rfl) ?_
  refine g_ws ((h0, .inr (6, [.ref (rh1 0), .ref (rh2 0), .ref (rh3 0), .ref (rh4 0)])) :: (((rw_w rh1 (fm_kA X) mk3 0 sh3 ++ rw_w rh2 (fm_kA X) mk4 0 (sh4 6)) ++ rw_w rh3 (fm_kA X) mk4 0 (sh4 8)) ++ rw_w rh4 (fm_kA X) mk4 0 (sh4 8))) rfl ?_
  exact g_ret hB (fun k => if k = 0 then h0 else if k < 12 then rh1 (k - 1) else if k < 15 then rh2 (k - 12) else if k < 18 then rh3 (k - 15) else if k < 21 then rh4 (k - 18) else 0) dX6_init_54 rfl rfl
def mk8 : fm_M := (fun a => if a = 2 then (fun b => if b = 8 then -1 else 0) else if a = 23 then (fun b => if b = 8 then -1 else 0) else if a = 43 then (fun b => if b = 8 then -1 else 0) else if a = 69 then (fun b => if b = 0 then -1 else 0) else if a = 71 then (fun b => if b = 0 then -1 else 0) else if a = 73 then (fun b => if b = 0 then -1 else 0) else if a = 75 then (fun b => if b = 0 then -1 else 0) else if a = 77 then (fun b => if b = 0 then -1 else 0) else if a = 79 then (fun b => if b = 0 then -1 else 0) else fun _ => 0, fun _ _ => 0)
abbrev sl1 : List fm_S := [.inl (6, [some 2, some 13, some 16, some 19]), .inl (3, [some 3, some 4, none, some 5, some 6, some 7, some 8, none, none, some 9, some 10, none, some 11, some 12]), .inr (0, 6), .inr (0, 6), .inr (0, 8), .inr (0, 8), .inr (0, 32), .inr (0, 8), .inr (0, 3), .inr (0, 3), .inr (1, 8), .inr (1, 5), .inl (4, [some 14, some 15, none]), .inr (0, 6), .inr (0, 6), .inl (4, [some 17, some 18, none]), .inr (0, 8), .inr (0, 8), .inl (4, [some 20, some 21, none]), .inr (0, 8), .inr (0, 8)]
abbrev sl2 : List fm_S := [.inl (6, [some 23, some 34, some 37, some 40]), .inl (3, [some 24, some 25, none, some 26, some 27, some 28, some 29, none, none, some 30, some 31, none, some 32, some 33]), .inr (0, 6), .inr (0, 6), .inr (0, 8), .inr (0, 8), .inr (0, 32), .inr (0, 8), .inr (0, 3), .inr (0, 3), .inr (1, 8), .inr (1, 5), .inl (4, [some 35, some 36, none]), .inr (0, 6), .inr (0, 6), .inl (4, [some 38, some 39, none]), .inr (0, 8), .inr (0, 8), .inl (4, [some 41, some 42, none]), .inr (0, 8), .inr (0, 8)]
abbrev sl3 : List fm_S := [.inl (3, [some 44, some 45, none, some 46, some 47, some 48, some 49, none, none, some 50, some 51, none, some 52, some 53]), .inr (0, 6), .inr (0, 6), .inr (0, 8), .inr (0, 8), .inr (0, 32), .inr (0, 8), .inr (0, 3), .inr (0, 3), .inr (1, 8), .inr (1, 5)]
abbrev sl4 : List fm_S := [.inl (1, [none, some 55, some 56, some 57, some 58]), .inr (1, 64), .inr (0, 64), .inr (0, 64), .inr (0, 64)]
abbrev sl5 : List fm_S := [.inl (2, [some 60, none]), .inr (0, 64)]
abbrev sl6 : List fm_S := [.inl (0, [some 62]), .inr (1, 64)]
abbrev sl7 : List fm_S := [.inl (5, [none, none, none, some 64, some 65, some 66, some 67]), .inr (0, 16), .inr (0, 16), .inr (0, 16), .inr (2, 100)]
abbrev sl8 : List fm_S := [.inr (4, 6), .inl (7, [none, none, some 70]), .inr (1, 60), .inl (7, [none, none, some 72]), .inr (1, 60), .inl (7, [none, none, some 74]), .inr (1, 60), .inl (7, [none, none, some 76]), .inr (1, 60), .inl (7, [none, none, some 78]), .inr (1, 60), .inl (7, [none, none, some 80]), .inr (1, 60)]
def rhC (h0 qT : Nat) (r1 r2 r3 r4 r5 r6 r7 t1 t2 t3 t4 t5 t6 : Nat → Nat) : Nat → Nat := fun k => if k = 0 then h0 else if k < 22 then r1 (k - 1) else if k < 43 then r2 (k - 22) else if k < 54 then r3 (k - 43) else if k < 59 then r4 (k - 54) else if k < 61 then r5 (k - 59) else if k < 63 then r6 (k - 61) else if k < 68 then r7 (k - 63) else if k = 68 then qT else if k < 71 then t1 (k - 69) else if k < 73 then t2 (k - 71) else if k < 75 then t3 (k - 73) else if k < 77 then t4 (k - 75) else if k < 79 then t5 (k - 77) else if k < 81 then t6 (k - 79) else 0
theorem rw_w_app (rh : Nat → Nat) (kA : Nat → ClassId) (M : fm_M) (l2 : List fm_S) : ∀ (l1 : List fm_S) (k : Nat), rw_w rh kA M k (l1 ++ l2) = rw_w rh kA M k l1 ++ rw_w rh kA M (k + l1.length) l2 := by
  intro l1
  induction l1 with
  | nil => intro k; rfl
  | cons x l ih =>
    intro k
    rw [List.cons_append, rw_w, rw_w, ih (k + 1), List.cons_append, List.length_cons, show k + 1 + l.length = k + (l.length + 1) by omega]
section RHC
variable {kA : Nat → ClassId} {h0 qT : Nat} {r1 r2 r3 r4 r5 r6 r7 t1 t2 t3 t4 t5 t6 : Nat → Nat}
theorem rhC_1 : rw_w (rhC h0 qT r1 r2 r3 r4 r5 r6 r7 t1 t2 t3 t4 t5 t6) kA mk8 1 sl1 = rw_w r1 kA mk6 0 sh6 := rfl
theorem rhC_2 : rw_w (rhC h0 qT r1 r2 r3 r4 r5 r6 r7 t1 t2 t3 t4 t5 t6) kA mk8 22 sl2 = rw_w r2 kA mk6 0 sh6 := rfl
theorem rhC_3 : rw_w (rhC h0 qT r1 r2 r3 r4 r5 r6 r7 t1 t2 t3 t4 t5 t6) kA mk8 43 sl3 = rw_w r3 kA mk3 0 sh3 := rfl
theorem rhC_4 : rw_w (rhC h0 qT r1 r2 r3 r4 r5 r6 r7 t1 t2 t3 t4 t5 t6) kA mk8 54 sl4 = rw_w r4 kA mk1 0 sh1 := rfl
theorem rhC_5 : rw_w (rhC h0 qT r1 r2 r3 r4 r5 r6 r7 t1 t2 t3 t4 t5 t6) kA mk8 59 sl5 = rw_w r5 kA mk2 0 sh2 := rfl
theorem rhC_6 : rw_w (rhC h0 qT r1 r2 r3 r4 r5 r6 r7 t1 t2 t3 t4 t5 t6) kA mk8 61 sl6 = rw_w r6 kA mk0 0 sh0 := rfl
theorem rhC_7 : rw_w (rhC h0 qT r1 r2 r3 r4 r5 r6 r7 t1 t2 t3 t4 t5 t6) kA mk8 63 sl7 = rw_w r7 kA mk5 0 sh5 := rfl
theorem rhC_8 : rw_w (rhC h0 qT r1 r2 r3 r4 r5 r6 r7 t1 t2 t3 t4 t5 t6) kA mk8 68 sl8 = (qT, .inl (kA 4, 6, .inr (.inr (.inr (.inr (fun j => some ((rhC h0 qT r1 r2 r3 r4 r5 r6 r7 t1 t2 t3 t4 t5 t6) (68 + 1 + 2 * j)))))))) :: [(t1 0, .inr (7, [.int (-1), .int 0, .ref (t1 1)])), (t1 1, .inl (kA 1, 60, .inr (.inl (fun _ => 0)))), (t2 0, .inr (7, [.int (-1), .int 0, .ref (t2 1)])), (t2 1, .inl (kA 1, 60, .inr (.inl (fun _ => 0)))), (t3 0, .inr (7, [.int (-1), .int 0, .ref (t3 1)])), (t3 1, .inl (kA 1, 60, .inr (.inl (fun _ => 0)))), (t4 0, .inr (7, [.int (-1), .int 0, .ref (t4 1)])), (t4 1, .inl (kA 1, 60, .inr (.inl (fun _ => 0)))), (t5 0, .inr (7, [.int (-1), .int 0, .ref (t5 1)])), (t5 1, .inl (kA 1, 60, .inr (.inl (fun _ => 0)))), (t6 0, .inr (7, [.int (-1), .int 0, .ref (t6 1)])), (t6 1, .inl (kA 1, 60, .inr (.inl (fun _ => 0))))] := rfl
theorem rhC_0 : rw_w (rhC h0 qT r1 r2 r3 r4 r5 r6 r7 t1 t2 t3 t4 t5 t6) kA mk8 0 shC = (h0, .inr (8, [.ref (r1 0), .ref (r2 0), .ref (r3 0), .ref (r4 0), .ref (r5 0), .ref (r6 0), .ref (r7 0), .ref qT, .int 0])) :: ((((((((rw_w r1 kA mk6 0 sh6 ++ rw_w r2 kA mk6 0 sh6) ++ rw_w r3 kA mk3 0 sh3) ++ rw_w r4 kA mk1 0 sh1) ++ rw_w r5 kA mk2 0 sh2) ++ rw_w r6 kA mk0 0 sh0) ++ rw_w r7 kA mk5 0 sh5)) ++ ((qT, .inl (kA 4, 6, .inr (.inr (.inr (.inr (fun j => some ((rhC h0 qT r1 r2 r3 r4 r5 r6 r7 t1 t2 t3 t4 t5 t6) (68 + 1 + 2 * j)))))))) :: [(t1 0, .inr (7, [.int (-1), .int 0, .ref (t1 1)])), (t1 1, .inl (kA 1, 60, .inr (.inl (fun _ => 0)))), (t2 0, .inr (7, [.int (-1), .int 0, .ref (t2 1)])), (t2 1, .inl (kA 1, 60, .inr (.inl (fun _ => 0)))), (t3 0, .inr (7, [.int (-1), .int 0, .ref (t3 1)])), (t3 1, .inl (kA 1, 60, .inr (.inl (fun _ => 0)))), (t4 0, .inr (7, [.int (-1), .int 0, .ref (t4 1)])), (t4 1, .inl (kA 1, 60, .inr (.inl (fun _ => 0)))), (t5 0, .inr (7, [.int (-1), .int 0, .ref (t5 1)])), (t5 1, .inl (kA 1, 60, .inr (.inl (fun _ => 0)))), (t6 0, .inr (7, [.int (-1), .int 0, .ref (t6 1)])), (t6 1, .inl (kA 1, 60, .inr (.inl (fun _ => 0))))])) := by
  have e : shC = .inl (8, [some 1, some 22, some 43, some 54, some 59, some 61, some 63, some 68, none]) :: (sl1 ++ (sl2 ++ (sl3 ++ (sl4 ++ (sl5 ++ (sl6 ++ (sl7 ++ sl8))))))) := rfl
  have e0 : rw_e (rhC h0 qT r1 r2 r3 r4 r5 r6 r7 t1 t2 t3 t4 t5 t6) kA mk8 0 (.inl (8, [some 1, some 22, some 43, some 54, some 59, some 61, some 63, some 68, none])) = (h0, .inr (8, [.ref (r1 0), .ref (r2 0), .ref (r3 0), .ref (r4 0), .ref (r5 0), .ref (r6 0), .ref (r7 0), .ref qT, .int 0])) := rfl
  rw [e, rw_w, e0, rw_w_app, rw_w_app, rw_w_app, rw_w_app, rw_w_app, rw_w_app, rw_w_app]
  show _ :: (rw_w (rhC h0 qT r1 r2 r3 r4 r5 r6 r7 t1 t2 t3 t4 t5 t6) kA mk8 1 sl1 ++ (rw_w (rhC h0 qT r1 r2 r3 r4 r5 r6 r7 t1 t2 t3 t4 t5 t6) kA mk8 22 sl2 ++ (rw_w (rhC h0 qT r1 r2 r3 r4 r5 r6 r7 t1 t2 t3 t4 t5 t6) kA mk8 43 sl3 ++ (rw_w (rhC h0 qT r1 r2 r3 r4 r5 r6 r7 t1 t2 t3 t4 t5 t6) kA mk8 54 sl4 ++ (rw_w (rhC h0 qT r1 r2 r3 r4 r5 r6 r7 t1 t2 t3 t4 t5 t6) kA mk8 59 sl5 ++ (rw_w (rhC h0 qT r1 r2 r3 r4 r5 r6 r7 t1 t2 t3 t4 t5 t6) kA mk8 61 sl6 ++ (rw_w (rhC h0 qT r1 r2 r3 r4 r5 r6 r7 t1 t2 t3 t4 t5 t6) kA mk8 63 sl7 ++ rw_w (rhC h0 qT r1 r2 r3 r4 r5 r6 r7 t1 t2 t3 t4 t5 t6) kA mk8 68 sl8))))))) = _
  rw [rhC_1, rhC_2, rhC_3, rhC_4, rhC_5, rhC_6, rhC_7, rhC_8]
  simp only [List.append_assoc]
end RHC
section GCB
variable {X : fm_X} {cc : ByteArray} {nL ce sl : Nat} {own : String} {ret : Option FieldType} {pc : Nat} {lv : List (Option Value)} {st : List Value} {Q : State → Prop}
theorem l_at {α : Type} (c0 x : α) (T W2 : List α) : (c0 :: (T ++ (x :: W2)))[T.length + 1]? = some x := by simp
theorem l_up {α : Type} (c0 x y : α) (T W2 : List α) : (c0 :: (T ++ (x :: W2))).set (T.length + 1) y = c0 :: (T ++ (y :: W2)) := by simp
theorem l_bk {α : Type} (c0 x : α) (T W2 : List α) (i : Nat) : (c0 :: (T ++ (x :: W2)))[T.length + 2 + i]? = W2[i]? := by
  rw [show T.length + 2 + i = (T.length + (i + 1)) + 1 by omega, List.getElem?_cons_succ, List.getElem?_append_right (by omega), show T.length + (i + 1) - T.length = i + 1 by omega, List.getElem?_cons_succ]
theorem l_ap {α : Type} (c0 x : α) (T W2 W3 : List α) : (c0 :: (T ++ (x :: W2))) ++ W3 = c0 :: (T ++ (x :: (W2 ++ W3))) := by simp
theorem g_aastL (hB : gb X cc nL own ret) {c0 : Nat × va_E} {T1 W2 : va_W} {a n v : Nat} {f : Nat → Option Nat} {vs : List Value} {i : Int32} (A qk : Nat) (hd : decode cc pc = .ok (.aastore, 1)) (hv : W2[qk]? = some (v, .inr (7, vs))) (hi : i = nI A) (hA : A < n) (hn : n < 2 ^ 31) (k : gw X nL ce sl (iw X (c0 :: (T1 ++ ((a, .inl (fm_kA X 4, n, .inr (.inr (.inr (.inr (va_up f A (some v))))))) :: W2)))) (pc + 1) lv st Q) : gw X nL ce sl (iw X (c0 :: (T1 ++ ((a, .inl (fm_kA X 4, n, .inr (.inr (.inr (.inr f))))) :: W2)))) pc lv (.ref v :: .int i :: .ref a :: st) Q :=
  g_aast (q0 := T1.length + 1) (qk := T1.length + 2 + qk) hB A hd (l_at _ _ _ _) ((l_bk _ _ _ _ _).trans hv) hi hA hn (by rw [l_up]; exact k)
theorem g_arrL {c0 : Nat × va_E} {T1 W2 : va_W} {a n : Nat} {f : Nat → Option Nat} (f' : Nat → Option Nat) (hf : ∀ j, j < n → f j = f' j) (k : gw X nL ce sl (iw X (c0 :: (T1 ++ ((a, .inl (fm_kA X 4, n, .inr (.inr (.inr (.inr f'))))) :: W2)))) pc lv st Q) : gw X nL ce sl (iw X (c0 :: (T1 ++ ((a, .inl (fm_kA X 4, n, .inr (.inr (.inr (.inr f))))) :: W2)))) pc lv st Q :=
  g_arr (q0 := T1.length + 1) f' (l_at _ _ _ _) hf (by rw [l_up]; exact k)
end GCB
theorem gi_8t {X : fm_X} {h0 qT : Nat} {v0 v1 v2 v3 v4 v5 v6 : Value} {Q : State → Prop} (T1 : va_W) (hR : fm_R X = gR 3 80 1348) (hB : gb X cX8_init 2 RX8 none) (k : ∀ t1 t2 t3 t4 t5 t6 : Nat → Nat, gw X 2 80 1348 (iw X ((h0, .inr (8, [v0, v1, v2, v3, v4, v5, v6, .ref qT, .int 0])) :: (T1 ++ ((qT, .inl (fm_kA X 4, 6, .inr (.inr (.inr (.inr (va_up (va_up (va_up (va_up (va_up (va_up (fun _ => none) 0 (some (t1 0))) 1 (some (t2 0))) 2 (some (t3 0))) 3 (some (t4 0))) 4 (some (t5 0))) 5 (some (t6 0)))))))) :: [(t1 0, .inr (7, [.int (-1), .int 0, .ref (t1 1)])), (t1 1, .inl (fm_kA X 1, 60, .inr (.inl (fun _ => 0)))), (t2 0, .inr (7, [.int (-1), .int 0, .ref (t2 1)])), (t2 1, .inl (fm_kA X 1, 60, .inr (.inl (fun _ => 0)))), (t3 0, .inr (7, [.int (-1), .int 0, .ref (t3 1)])), (t3 1, .inl (fm_kA X 1, 60, .inr (.inl (fun _ => 0)))), (t4 0, .inr (7, [.int (-1), .int 0, .ref (t4 1)])), (t4 1, .inl (fm_kA X 1, 60, .inr (.inl (fun _ => 0)))), (t5 0, .inr (7, [.int (-1), .int 0, .ref (t5 1)])), (t5 1, .inl (fm_kA X 1, 60, .inr (.inl (fun _ => 0)))), (t6 0, .inr (7, [.int (-1), .int 0, .ref (t6 1)])), (t6 1, .inl (fm_kA X 1, 60, .inr (.inl (fun _ => 0))))])))) 117 [some (.ref h0), none] [] Q) : gw X 2 68 970 (iw X ((h0, .inr (8, [v0, v1, v2, v3, v4, v5, v6, .ref qT, .int 0])) :: (T1 ++ ((qT, .inl (fm_kA X 4, 6, .inr (.inr (.inr (.inr (fun _ => none)))))) :: [])))) 90 [some (.ref h0), none] [] Q := by
  refine g_iconst (v := nI 0) hB dX8_init_90 (by decide) ?_
  refine g_istore_n hB dX8_init_91 rfl (by decide) rfl ?_
  refine g_iload_n hB dX8_init_92 rfl rfl ?_
  refine g_bipush (v := nI 6) hB dX8_init_93 (by decide) ?_
  refine g_icmp_ge (tgt := 117) hB dX8_init_95 (by decide) (fun h => absurd h (by decide)) (fun _ => ?_)
  refine g_aload_n hB dX8_init_98 rfl rfl ?_
  refine g_get (h0 := h0) (ci := 8) (fs := [v0, v1, v2, v3, v4, v5, v6, .ref qT, .int 0]) (v := .ref qT) hB dX8_init_99 lf_X8_58 rfl ?_
  refine g_iload_n hB dX8_init_102 rfl rfl ?_
  refine g_new hB dX8_init_103 cn_X8_56 (g_rm hR (Nat.le_of_ble_eq_true rfl) (Nat.le_of_ble_eq_true rfl)) (fun q0 => ?_)
  refine g_dup hB dX8_init_106 rfl ?_
  refine g_initN (ce := 69) (sl := 973) (q := q0) (rest := [.ref q0, .int (nI 0), .ref qT]) (pre := (h0, .inr (8, [v0, v1, v2, v3, v4, v5, v6, .ref qT, .int 0])) :: (T1 ++ ((qT, .inl (fm_kA X 4, 6, .inr (.inr (.inr (.inr (fun _ => none)))))) :: []))) hB dX8_init_107 (List.mem_of_getElem? (i := 7) rfl) cw_7 gi_7 rfl rfl (Nat.le_of_ble_eq_true rfl) (g_rf hR (Nat.le_of_ble_eq_true rfl) (Nat.le_of_ble_eq_true rfl)) (g_rm hR (Nat.le_of_ble_eq_true rfl) (Nat.le_of_ble_eq_true rfl)) (fun t1 e0 => ?_)
  subst e0
  refine g_ws ((h0, .inr (8, [v0, v1, v2, v3, v4, v5, v6, .ref qT, .int 0])) :: (T1 ++ ((qT, .inl (fm_kA X 4, 6, .inr (.inr (.inr (.inr (fun _ => none)))))) :: [(t1 0, .inr (7, [.int (-1), .int 0, .ref (t1 1)])), (t1 1, .inl (fm_kA X 1, 60, .inr (.inl (fun _ => 0))))]))) (l_ap _ _ _ _ _) ?_
  refine g_aastL (T1 := T1) hB 0 0 dX8_init_110 rfl rfl (by decide) (by decide) ?_
  refine g_iinc (v := nI 1) hB dX8_init_111 rfl (by decide) (by decide) rfl ?_
  refine g_goto (tgt := 92) hB dX8_init_114 (by decide) ?_
  refine g_lv [some (.ref h0), some (.int (nI 1))] ⟨rfl, rfl, trivial⟩ ?_
  refine g_iload_n hB dX8_init_92 rfl rfl ?_
  refine g_bipush (v := nI 6) hB dX8_init_93 (by decide) ?_
  refine g_icmp_ge (tgt := 117) hB dX8_init_95 (by decide) (fun h => absurd h (by decide)) (fun _ => ?_)
  refine g_aload_n hB dX8_init_98 rfl rfl ?_
  refine g_get (h0 := h0) (ci := 8) (fs := [v0, v1, v2, v3, v4, v5, v6, .ref qT, .int 0]) (v := .ref qT) hB dX8_init_99 lf_X8_58 rfl ?_
  refine g_iload_n hB dX8_init_102 rfl rfl ?_
  refine g_new hB dX8_init_103 cn_X8_56 (g_rm hR (Nat.le_of_ble_eq_true rfl) (Nat.le_of_ble_eq_true rfl)) (fun q1 => ?_)
  refine g_dup hB dX8_init_106 rfl ?_
  refine g_initN (ce := 71) (sl := 1036) (q := q1) (rest := [.ref q1, .int (nI 1), .ref qT]) (pre := (h0, .inr (8, [v0, v1, v2, v3, v4, v5, v6, .ref qT, .int 0])) :: (T1 ++ ((qT, .inl (fm_kA X 4, 6, .inr (.inr (.inr (.inr (va_up (fun _ => none) 0 (some (t1 0)))))))) :: [(t1 0, .inr (7, [.int (-1), .int 0, .ref (t1 1)])), (t1 1, .inl (fm_kA X 1, 60, .inr (.inl (fun _ => 0))))]))) hB dX8_init_107 (List.mem_of_getElem? (i := 7) rfl) cw_7 gi_7 rfl rfl (Nat.le_of_ble_eq_true rfl) (g_rf hR (Nat.le_of_ble_eq_true rfl) (Nat.le_of_ble_eq_true rfl)) (g_rm hR (Nat.le_of_ble_eq_true rfl) (Nat.le_of_ble_eq_true rfl)) (fun t2 e1 => ?_)
  subst e1
  refine g_ws ((h0, .inr (8, [v0, v1, v2, v3, v4, v5, v6, .ref qT, .int 0])) :: (T1 ++ ((qT, .inl (fm_kA X 4, 6, .inr (.inr (.inr (.inr (va_up (fun _ => none) 0 (some (t1 0)))))))) :: [(t1 0, .inr (7, [.int (-1), .int 0, .ref (t1 1)])), (t1 1, .inl (fm_kA X 1, 60, .inr (.inl (fun _ => 0)))), (t2 0, .inr (7, [.int (-1), .int 0, .ref (t2 1)])), (t2 1, .inl (fm_kA X 1, 60, .inr (.inl (fun _ => 0))))]))) (l_ap _ _ _ _ _) ?_
  refine g_aastL (T1 := T1) hB 1 2 dX8_init_110 rfl rfl (by decide) (by decide) ?_
  refine g_iinc (v := nI 2) hB dX8_init_111 rfl (by decide) (by decide) rfl ?_
  refine g_goto (tgt := 92) hB dX8_init_114 (by decide) ?_
  refine g_lv [some (.ref h0), some (.int (nI 2))] ⟨rfl, rfl, trivial⟩ ?_
  refine g_iload_n hB dX8_init_92 rfl rfl ?_
  refine g_bipush (v := nI 6) hB dX8_init_93 (by decide) ?_
  refine g_icmp_ge (tgt := 117) hB dX8_init_95 (by decide) (fun h => absurd h (by decide)) (fun _ => ?_)
  refine g_aload_n hB dX8_init_98 rfl rfl ?_
  refine g_get (h0 := h0) (ci := 8) (fs := [v0, v1, v2, v3, v4, v5, v6, .ref qT, .int 0]) (v := .ref qT) hB dX8_init_99 lf_X8_58 rfl ?_
  refine g_iload_n hB dX8_init_102 rfl rfl ?_
  refine g_new hB dX8_init_103 cn_X8_56 (g_rm hR (Nat.le_of_ble_eq_true rfl) (Nat.le_of_ble_eq_true rfl)) (fun q2 => ?_)
  refine g_dup hB dX8_init_106 rfl ?_
  refine g_initN (ce := 73) (sl := 1099) (q := q2) (rest := [.ref q2, .int (nI 2), .ref qT]) (pre := (h0, .inr (8, [v0, v1, v2, v3, v4, v5, v6, .ref qT, .int 0])) :: (T1 ++ ((qT, .inl (fm_kA X 4, 6, .inr (.inr (.inr (.inr (va_up (va_up (fun _ => none) 0 (some (t1 0))) 1 (some (t2 0)))))))) :: [(t1 0, .inr (7, [.int (-1), .int 0, .ref (t1 1)])), (t1 1, .inl (fm_kA X 1, 60, .inr (.inl (fun _ => 0)))), (t2 0, .inr (7, [.int (-1), .int 0, .ref (t2 1)])), (t2 1, .inl (fm_kA X 1, 60, .inr (.inl (fun _ => 0))))]))) hB dX8_init_107 (List.mem_of_getElem? (i := 7) rfl) cw_7 gi_7 rfl rfl (Nat.le_of_ble_eq_true rfl) (g_rf hR (Nat.le_of_ble_eq_true rfl) (Nat.le_of_ble_eq_true rfl)) (g_rm hR (Nat.le_of_ble_eq_true rfl) (Nat.le_of_ble_eq_true rfl)) (fun t3 e2 => ?_)
  subst e2
  refine g_ws ((h0, .inr (8, [v0, v1, v2, v3, v4, v5, v6, .ref qT, .int 0])) :: (T1 ++ ((qT, .inl (fm_kA X 4, 6, .inr (.inr (.inr (.inr (va_up (va_up (fun _ => none) 0 (some (t1 0))) 1 (some (t2 0)))))))) :: [(t1 0, .inr (7, [.int (-1), .int 0, .ref (t1 1)])), (t1 1, .inl (fm_kA X 1, 60, .inr (.inl (fun _ => 0)))), (t2 0, .inr (7, [.int (-1), .int 0, .ref (t2 1)])), (t2 1, .inl (fm_kA X 1, 60, .inr (.inl (fun _ => 0)))), (t3 0, .inr (7, [.int (-1), .int 0, .ref (t3 1)])), (t3 1, .inl (fm_kA X 1, 60, .inr (.inl (fun _ => 0))))]))) (l_ap _ _ _ _ _) ?_
  refine g_aastL (T1 := T1) hB 2 4 dX8_init_110 rfl rfl (by decide) (by decide) ?_
  refine g_iinc (v := nI 3) hB dX8_init_111 rfl (by decide) (by decide) rfl ?_
  refine g_goto (tgt := 92) hB dX8_init_114 (by decide) ?_
  refine g_lv [some (.ref h0), some (.int (nI 3))] ⟨rfl, rfl, trivial⟩ ?_
  refine g_iload_n hB dX8_init_92 rfl rfl ?_
  refine g_bipush (v := nI 6) hB dX8_init_93 (by decide) ?_
  refine g_icmp_ge (tgt := 117) hB dX8_init_95 (by decide) (fun h => absurd h (by decide)) (fun _ => ?_)
  refine g_aload_n hB dX8_init_98 rfl rfl ?_
  refine g_get (h0 := h0) (ci := 8) (fs := [v0, v1, v2, v3, v4, v5, v6, .ref qT, .int 0]) (v := .ref qT) hB dX8_init_99 lf_X8_58 rfl ?_
  refine g_iload_n hB dX8_init_102 rfl rfl ?_
  refine g_new hB dX8_init_103 cn_X8_56 (g_rm hR (Nat.le_of_ble_eq_true rfl) (Nat.le_of_ble_eq_true rfl)) (fun q3 => ?_)
  refine g_dup hB dX8_init_106 rfl ?_
  refine g_initN (ce := 75) (sl := 1162) (q := q3) (rest := [.ref q3, .int (nI 3), .ref qT]) (pre := (h0, .inr (8, [v0, v1, v2, v3, v4, v5, v6, .ref qT, .int 0])) :: (T1 ++ ((qT, .inl (fm_kA X 4, 6, .inr (.inr (.inr (.inr (va_up (va_up (va_up (fun _ => none) 0 (some (t1 0))) 1 (some (t2 0))) 2 (some (t3 0)))))))) :: [(t1 0, .inr (7, [.int (-1), .int 0, .ref (t1 1)])), (t1 1, .inl (fm_kA X 1, 60, .inr (.inl (fun _ => 0)))), (t2 0, .inr (7, [.int (-1), .int 0, .ref (t2 1)])), (t2 1, .inl (fm_kA X 1, 60, .inr (.inl (fun _ => 0)))), (t3 0, .inr (7, [.int (-1), .int 0, .ref (t3 1)])), (t3 1, .inl (fm_kA X 1, 60, .inr (.inl (fun _ => 0))))]))) hB dX8_init_107 (List.mem_of_getElem? (i := 7) rfl) cw_7 gi_7 rfl rfl (Nat.le_of_ble_eq_true rfl) (g_rf hR (Nat.le_of_ble_eq_true rfl) (Nat.le_of_ble_eq_true rfl)) (g_rm hR (Nat.le_of_ble_eq_true rfl) (Nat.le_of_ble_eq_true rfl)) (fun t4 e3 => ?_)
  subst e3
  refine g_ws ((h0, .inr (8, [v0, v1, v2, v3, v4, v5, v6, .ref qT, .int 0])) :: (T1 ++ ((qT, .inl (fm_kA X 4, 6, .inr (.inr (.inr (.inr (va_up (va_up (va_up (fun _ => none) 0 (some (t1 0))) 1 (some (t2 0))) 2 (some (t3 0)))))))) :: [(t1 0, .inr (7, [.int (-1), .int 0, .ref (t1 1)])), (t1 1, .inl (fm_kA X 1, 60, .inr (.inl (fun _ => 0)))), (t2 0, .inr (7, [.int (-1), .int 0, .ref (t2 1)])), (t2 1, .inl (fm_kA X 1, 60, .inr (.inl (fun _ => 0)))), (t3 0, .inr (7, [.int (-1), .int 0, .ref (t3 1)])), (t3 1, .inl (fm_kA X 1, 60, .inr (.inl (fun _ => 0)))), (t4 0, .inr (7, [.int (-1), .int 0, .ref (t4 1)])), (t4 1, .inl (fm_kA X 1, 60, .inr (.inl (fun _ => 0))))]))) (l_ap _ _ _ _ _) ?_
  refine g_aastL (T1 := T1) hB 3 6 dX8_init_110 rfl rfl (by decide) (by decide) ?_
  refine g_iinc (v := nI 4) hB dX8_init_111 rfl (by decide) (by decide) rfl ?_
  refine g_goto (tgt := 92) hB dX8_init_114 (by decide) ?_
  refine g_lv [some (.ref h0), some (.int (nI 4))] ⟨rfl, rfl, trivial⟩ ?_
  refine g_iload_n hB dX8_init_92 rfl rfl ?_
  refine g_bipush (v := nI 6) hB dX8_init_93 (by decide) ?_
  refine g_icmp_ge (tgt := 117) hB dX8_init_95 (by decide) (fun h => absurd h (by decide)) (fun _ => ?_)
  refine g_aload_n hB dX8_init_98 rfl rfl ?_
  refine g_get (h0 := h0) (ci := 8) (fs := [v0, v1, v2, v3, v4, v5, v6, .ref qT, .int 0]) (v := .ref qT) hB dX8_init_99 lf_X8_58 rfl ?_
  refine g_iload_n hB dX8_init_102 rfl rfl ?_
  refine g_new hB dX8_init_103 cn_X8_56 (g_rm hR (Nat.le_of_ble_eq_true rfl) (Nat.le_of_ble_eq_true rfl)) (fun q4 => ?_)
  refine g_dup hB dX8_init_106 rfl ?_
  refine g_initN (ce := 77) (sl := 1225) (q := q4) (rest := [.ref q4, .int (nI 4), .ref qT]) (pre := (h0, .inr (8, [v0, v1, v2, v3, v4, v5, v6, .ref qT, .int 0])) :: (T1 ++ ((qT, .inl (fm_kA X 4, 6, .inr (.inr (.inr (.inr (va_up (va_up (va_up (va_up (fun _ => none) 0 (some (t1 0))) 1 (some (t2 0))) 2 (some (t3 0))) 3 (some (t4 0)))))))) :: [(t1 0, .inr (7, [.int (-1), .int 0, .ref (t1 1)])), (t1 1, .inl (fm_kA X 1, 60, .inr (.inl (fun _ => 0)))), (t2 0, .inr (7, [.int (-1), .int 0, .ref (t2 1)])), (t2 1, .inl (fm_kA X 1, 60, .inr (.inl (fun _ => 0)))), (t3 0, .inr (7, [.int (-1), .int 0, .ref (t3 1)])), (t3 1, .inl (fm_kA X 1, 60, .inr (.inl (fun _ => 0)))), (t4 0, .inr (7, [.int (-1), .int 0, .ref (t4 1)])), (t4 1, .inl (fm_kA X 1, 60, .inr (.inl (fun _ => 0))))]))) hB dX8_init_107 (List.mem_of_getElem? (i := 7) rfl) cw_7 gi_7 rfl rfl (Nat.le_of_ble_eq_true rfl) (g_rf hR (Nat.le_of_ble_eq_true rfl) (Nat.le_of_ble_eq_true rfl)) (g_rm hR (Nat.le_of_ble_eq_true rfl) (Nat.le_of_ble_eq_true rfl)) (fun t5 e4 => ?_)
  subst e4
  refine g_ws ((h0, .inr (8, [v0, v1, v2, v3, v4, v5, v6, .ref qT, .int 0])) :: (T1 ++ ((qT, .inl (fm_kA X 4, 6, .inr (.inr (.inr (.inr (va_up (va_up (va_up (va_up (fun _ => none) 0 (some (t1 0))) 1 (some (t2 0))) 2 (some (t3 0))) 3 (some (t4 0)))))))) :: [(t1 0, .inr (7, [.int (-1), .int 0, .ref (t1 1)])), (t1 1, .inl (fm_kA X 1, 60, .inr (.inl (fun _ => 0)))), (t2 0, .inr (7, [.int (-1), .int 0, .ref (t2 1)])), (t2 1, .inl (fm_kA X 1, 60, .inr (.inl (fun _ => 0)))), (t3 0, .inr (7, [.int (-1), .int 0, .ref (t3 1)])), (t3 1, .inl (fm_kA X 1, 60, .inr (.inl (fun _ => 0)))), (t4 0, .inr (7, [.int (-1), .int 0, .ref (t4 1)])), (t4 1, .inl (fm_kA X 1, 60, .inr (.inl (fun _ => 0)))), (t5 0, .inr (7, [.int (-1), .int 0, .ref (t5 1)])), (t5 1, .inl (fm_kA X 1, 60, .inr (.inl (fun _ => 0))))]))) (l_ap _ _ _ _ _) ?_
  refine g_aastL (T1 := T1) hB 4 8 dX8_init_110 rfl rfl (by decide) (by decide) ?_
  refine g_iinc (v := nI 5) hB dX8_init_111 rfl (by decide) (by decide) rfl ?_
  refine g_goto (tgt := 92) hB dX8_init_114 (by decide) ?_
  refine g_lv [some (.ref h0), some (.int (nI 5))] ⟨rfl, rfl, trivial⟩ ?_
  refine g_iload_n hB dX8_init_92 rfl rfl ?_
  refine g_bipush (v := nI 6) hB dX8_init_93 (by decide) ?_
  refine g_icmp_ge (tgt := 117) hB dX8_init_95 (by decide) (fun h => absurd h (by decide)) (fun _ => ?_)
  refine g_aload_n hB dX8_init_98 rfl rfl ?_
  refine g_get (h0 := h0) (ci := 8) (fs := [v0, v1, v2, v3, v4, v5, v6, .ref qT, .int 0]) (v := .ref qT) hB dX8_init_99 lf_X8_58 rfl ?_
  refine g_iload_n hB dX8_init_102 rfl rfl ?_
  refine g_new hB dX8_init_103 cn_X8_56 (g_rm hR (Nat.le_of_ble_eq_true rfl) (Nat.le_of_ble_eq_true rfl)) (fun q5 => ?_)
  refine g_dup hB dX8_init_106 rfl ?_
  refine g_initN (ce := 79) (sl := 1288) (q := q5) (rest := [.ref q5, .int (nI 5), .ref qT]) (pre := (h0, .inr (8, [v0, v1, v2, v3, v4, v5, v6, .ref qT, .int 0])) :: (T1 ++ ((qT, .inl (fm_kA X 4, 6, .inr (.inr (.inr (.inr (va_up (va_up (va_up (va_up (va_up (fun _ => none) 0 (some (t1 0))) 1 (some (t2 0))) 2 (some (t3 0))) 3 (some (t4 0))) 4 (some (t5 0)))))))) :: [(t1 0, .inr (7, [.int (-1), .int 0, .ref (t1 1)])), (t1 1, .inl (fm_kA X 1, 60, .inr (.inl (fun _ => 0)))), (t2 0, .inr (7, [.int (-1), .int 0, .ref (t2 1)])), (t2 1, .inl (fm_kA X 1, 60, .inr (.inl (fun _ => 0)))), (t3 0, .inr (7, [.int (-1), .int 0, .ref (t3 1)])), (t3 1, .inl (fm_kA X 1, 60, .inr (.inl (fun _ => 0)))), (t4 0, .inr (7, [.int (-1), .int 0, .ref (t4 1)])), (t4 1, .inl (fm_kA X 1, 60, .inr (.inl (fun _ => 0)))), (t5 0, .inr (7, [.int (-1), .int 0, .ref (t5 1)])), (t5 1, .inl (fm_kA X 1, 60, .inr (.inl (fun _ => 0))))]))) hB dX8_init_107 (List.mem_of_getElem? (i := 7) rfl) cw_7 gi_7 rfl rfl (Nat.le_of_ble_eq_true rfl) (g_rf hR (Nat.le_of_ble_eq_true rfl) (Nat.le_of_ble_eq_true rfl)) (g_rm hR (Nat.le_of_ble_eq_true rfl) (Nat.le_of_ble_eq_true rfl)) (fun t6 e5 => ?_)
  subst e5
  refine g_ws ((h0, .inr (8, [v0, v1, v2, v3, v4, v5, v6, .ref qT, .int 0])) :: (T1 ++ ((qT, .inl (fm_kA X 4, 6, .inr (.inr (.inr (.inr (va_up (va_up (va_up (va_up (va_up (fun _ => none) 0 (some (t1 0))) 1 (some (t2 0))) 2 (some (t3 0))) 3 (some (t4 0))) 4 (some (t5 0)))))))) :: [(t1 0, .inr (7, [.int (-1), .int 0, .ref (t1 1)])), (t1 1, .inl (fm_kA X 1, 60, .inr (.inl (fun _ => 0)))), (t2 0, .inr (7, [.int (-1), .int 0, .ref (t2 1)])), (t2 1, .inl (fm_kA X 1, 60, .inr (.inl (fun _ => 0)))), (t3 0, .inr (7, [.int (-1), .int 0, .ref (t3 1)])), (t3 1, .inl (fm_kA X 1, 60, .inr (.inl (fun _ => 0)))), (t4 0, .inr (7, [.int (-1), .int 0, .ref (t4 1)])), (t4 1, .inl (fm_kA X 1, 60, .inr (.inl (fun _ => 0)))), (t5 0, .inr (7, [.int (-1), .int 0, .ref (t5 1)])), (t5 1, .inl (fm_kA X 1, 60, .inr (.inl (fun _ => 0)))), (t6 0, .inr (7, [.int (-1), .int 0, .ref (t6 1)])), (t6 1, .inl (fm_kA X 1, 60, .inr (.inl (fun _ => 0))))]))) (l_ap _ _ _ _ _) ?_
  refine g_aastL (T1 := T1) hB 5 10 dX8_init_110 rfl rfl (by decide) (by decide) ?_
  refine g_iinc (v := nI 6) hB dX8_init_111 rfl (by decide) (by decide) rfl ?_
  refine g_goto (tgt := 92) hB dX8_init_114 (by decide) ?_
  refine g_lv [some (.ref h0), some (.int (nI 6))] ⟨rfl, rfl, trivial⟩ ?_
  refine g_iload_n hB dX8_init_92 rfl rfl ?_
  refine g_bipush (v := nI 6) hB dX8_init_93 (by decide) ?_
  refine g_icmp_ge (tgt := 117) hB dX8_init_95 (by decide) (fun _ => ?_) (fun h => absurd (by decide) h)
  refine g_lv [some (.ref h0), none] ⟨rfl, trivial⟩ ?_
  exact k t1 t2 t3 t4 t5 t6
theorem gi_8 {l : Launch} {kA : Nat → ClassId} {D : va_G} : gk l kA D mX8_init 3 80 1348 8 [.null, .null, .null, .null, .null, .null, .null, .null, .int 0] [] shC mk8 := by
  refine gk.of (by decide +kernel) rfl (Nat.le_of_ble_eq_true rfl) ?_
  intro X h0 e1 e2 e3 hR hin hB
  subst e1 e2 e3
  have hB : gb X cX8_init 2 RX8 none := hB
  refine g_lv [some (.ref h0), none] ⟨rfl, trivial⟩ ?_
  refine g_aload_n hB dX8_init_0 rfl rfl ?_
  refine g_obj hB dX8_init_1 co_X8_5 (g_rf hR (Nat.le_of_ble_eq_true rfl) (Nat.le_of_ble_eq_true rfl)) ?_
  refine g_aload_n hB dX8_init_4 rfl rfl ?_
  refine g_new hB dX8_init_5 cn_X8_11 (g_rm hR (Nat.le_of_ble_eq_true rfl) (Nat.le_of_ble_eq_true rfl)) (fun q1 => ?_)
  refine g_dup hB dX8_init_8 rfl ?_
  refine g_initN (ce := 1) (sl := 4) (q := q1) (rest := [.ref q1, .ref h0]) (pre := (h0, .inr (8, [.null, .null, .null, .null, .null, .null, .null, .null, .int 0])) :: []) hB dX8_init_9 (List.mem_of_getElem? (i := 0) rfl) cw_6 gi_6 rfl rfl (Nat.le_of_ble_eq_true rfl) (g_rf hR (Nat.le_of_ble_eq_true rfl) (Nat.le_of_ble_eq_true rfl)) (g_rm hR (Nat.le_of_ble_eq_true rfl) (Nat.le_of_ble_eq_true rfl)) (fun rh1 e1 => ?_)
  subst e1
  refine g_ws ((h0, .inr (8, [.null, .null, .null, .null, .null, .null, .null, .null, .int 0])) :: rw_w rh1 (fm_kA X) mk6 0 sh6) rfl ?_
  refine g_putF (h0 := h0) (ci := 8) (fs := [.null, .null, .null, .null, .null, .null, .null, .null, .int 0]) (ws := rw_w rh1 (fm_kA X) mk6 0 sh6) hB hin (v := .ref (rh1 0)) dX8_init_12 cp_X8_14 rfl rfl (Nat.le_of_ble_eq_true rfl) ?_
  refine g_ws ((h0, .inr (8, [.ref (rh1 0), .null, .null, .null, .null, .null, .null, .null, .int 0])) :: rw_w rh1 (fm_kA X) mk6 0 sh6) rfl ?_
  refine g_aload_n hB dX8_init_15 rfl rfl ?_
  refine g_new hB dX8_init_16 cn_X8_11 (g_rm hR (Nat.le_of_ble_eq_true rfl) (Nat.le_of_ble_eq_true rfl)) (fun q2 => ?_)
  refine g_dup hB dX8_init_19 rfl ?_
  refine g_initN (ce := 22) (sl := 162) (q := q2) (rest := [.ref q2, .ref h0]) (pre := (h0, .inr (8, [.ref (rh1 0), .null, .null, .null, .null, .null, .null, .null, .int 0])) :: rw_w rh1 (fm_kA X) mk6 0 sh6) hB dX8_init_20 (List.mem_of_getElem? (i := 0) rfl) cw_6 gi_6 rfl rfl (Nat.le_of_ble_eq_true rfl) (g_rf hR (Nat.le_of_ble_eq_true rfl) (Nat.le_of_ble_eq_true rfl)) (g_rm hR (Nat.le_of_ble_eq_true rfl) (Nat.le_of_ble_eq_true rfl)) (fun rh2 e2 => ?_)
  subst e2
  refine g_ws ((h0, .inr (8, [.ref (rh1 0), .null, .null, .null, .null, .null, .null, .null, .int 0])) :: (rw_w rh1 (fm_kA X) mk6 0 sh6 ++ rw_w rh2 (fm_kA X) mk6 0 sh6)) rfl ?_
  refine g_putF (h0 := h0) (ci := 8) (fs := [.ref (rh1 0), .null, .null, .null, .null, .null, .null, .null, .int 0]) (ws := (rw_w rh1 (fm_kA X) mk6 0 sh6 ++ rw_w rh2 (fm_kA X) mk6 0 sh6)) hB hin (v := .ref (rh2 0)) dX8_init_23 cp_X8_18 rfl rfl (Nat.le_of_ble_eq_true rfl) ?_
  refine g_ws ((h0, .inr (8, [.ref (rh1 0), .ref (rh2 0), .null, .null, .null, .null, .null, .null, .int 0])) :: (rw_w rh1 (fm_kA X) mk6 0 sh6 ++ rw_w rh2 (fm_kA X) mk6 0 sh6)) rfl ?_
  refine g_aload_n hB dX8_init_26 rfl rfl ?_
  refine g_new hB dX8_init_27 cn_X8_21 (g_rm hR (Nat.le_of_ble_eq_true rfl) (Nat.le_of_ble_eq_true rfl)) (fun q3 => ?_)
  refine g_dup hB dX8_init_30 rfl ?_
  refine g_initN (ce := 43) (sl := 330) (q := q3) (rest := [.ref q3, .ref h0]) (pre := (h0, .inr (8, [.ref (rh1 0), .ref (rh2 0), .null, .null, .null, .null, .null, .null, .int 0])) :: (rw_w rh1 (fm_kA X) mk6 0 sh6 ++ rw_w rh2 (fm_kA X) mk6 0 sh6)) hB dX8_init_31 (List.mem_of_getElem? (i := 2) rfl) cw_3 gi_3 rfl rfl (Nat.le_of_ble_eq_true rfl) (g_rf hR (Nat.le_of_ble_eq_true rfl) (Nat.le_of_ble_eq_true rfl)) (g_rm hR (Nat.le_of_ble_eq_true rfl) (Nat.le_of_ble_eq_true rfl)) (fun rh3 e3 => ?_)
  subst e3
  refine g_ws ((h0, .inr (8, [.ref (rh1 0), .ref (rh2 0), .null, .null, .null, .null, .null, .null, .int 0])) :: ((rw_w rh1 (fm_kA X) mk6 0 sh6 ++ rw_w rh2 (fm_kA X) mk6 0 sh6) ++ rw_w rh3 (fm_kA X) mk3 0 sh3)) rfl ?_
  refine g_putF (h0 := h0) (ci := 8) (fs := [.ref (rh1 0), .ref (rh2 0), .null, .null, .null, .null, .null, .null, .int 0]) (ws := ((rw_w rh1 (fm_kA X) mk6 0 sh6 ++ rw_w rh2 (fm_kA X) mk6 0 sh6) ++ rw_w rh3 (fm_kA X) mk3 0 sh3)) hB hin (v := .ref (rh3 0)) dX8_init_34 cp_X8_24 rfl rfl (Nat.le_of_ble_eq_true rfl) ?_
  refine g_ws ((h0, .inr (8, [.ref (rh1 0), .ref (rh2 0), .ref (rh3 0), .null, .null, .null, .null, .null, .int 0])) :: ((rw_w rh1 (fm_kA X) mk6 0 sh6 ++ rw_w rh2 (fm_kA X) mk6 0 sh6) ++ rw_w rh3 (fm_kA X) mk3 0 sh3)) rfl ?_
  refine g_aload_n hB dX8_init_37 rfl rfl ?_
  refine g_new hB dX8_init_38 cn_X8_28 (g_rm hR (Nat.le_of_ble_eq_true rfl) (Nat.le_of_ble_eq_true rfl)) (fun q4 => ?_)
  refine g_dup hB dX8_init_41 rfl ?_
  refine g_initN (ce := 54) (sl := 422) (q := q4) (rest := [.ref q4, .ref h0]) (pre := (h0, .inr (8, [.ref (rh1 0), .ref (rh2 0), .ref (rh3 0), .null, .null, .null, .null, .null, .int 0])) :: ((rw_w rh1 (fm_kA X) mk6 0 sh6 ++ rw_w rh2 (fm_kA X) mk6 0 sh6) ++ rw_w rh3 (fm_kA X) mk3 0 sh3)) hB dX8_init_42 (List.mem_of_getElem? (i := 3) rfl) cw_1 gi_1 rfl rfl (Nat.le_of_ble_eq_true rfl) (g_rf hR (Nat.le_of_ble_eq_true rfl) (Nat.le_of_ble_eq_true rfl)) (g_rm hR (Nat.le_of_ble_eq_true rfl) (Nat.le_of_ble_eq_true rfl)) (fun rh4 e4 => ?_)
  subst e4
  refine g_ws ((h0, .inr (8, [.ref (rh1 0), .ref (rh2 0), .ref (rh3 0), .null, .null, .null, .null, .null, .int 0])) :: (((rw_w rh1 (fm_kA X) mk6 0 sh6 ++ rw_w rh2 (fm_kA X) mk6 0 sh6) ++ rw_w rh3 (fm_kA X) mk3 0 sh3) ++ rw_w rh4 (fm_kA X) mk1 0 sh1)) rfl ?_
  refine g_putF (h0 := h0) (ci := 8) (fs := [.ref (rh1 0), .ref (rh2 0), .ref (rh3 0), .null, .null, .null, .null, .null, .int 0]) (ws := (((rw_w rh1 (fm_kA X) mk6 0 sh6 ++ rw_w rh2 (fm_kA X) mk6 0 sh6) ++ rw_w rh3 (fm_kA X) mk3 0 sh3) ++ rw_w rh4 (fm_kA X) mk1 0 sh1)) hB hin (v := .ref (rh4 0)) dX8_init_45 cp_X8_31 rfl rfl (Nat.le_of_ble_eq_true rfl) ?_
  refine g_ws ((h0, .inr (8, [.ref (rh1 0), .ref (rh2 0), .ref (rh3 0), .ref (rh4 0), .null, .null, .null, .null, .int 0])) :: (((rw_w rh1 (fm_kA X) mk6 0 sh6 ++ rw_w rh2 (fm_kA X) mk6 0 sh6) ++ rw_w rh3 (fm_kA X) mk3 0 sh3) ++ rw_w rh4 (fm_kA X) mk1 0 sh1)) rfl ?_
  refine g_aload_n hB dX8_init_48 rfl rfl ?_
  refine g_new hB dX8_init_49 cn_X8_35 (g_rm hR (Nat.le_of_ble_eq_true rfl) (Nat.le_of_ble_eq_true rfl)) (fun q5 => ?_)
  refine g_dup hB dX8_init_52 rfl ?_
  refine g_initN (ce := 59) (sl := 680) (q := q5) (rest := [.ref q5, .ref h0]) (pre := (h0, .inr (8, [.ref (rh1 0), .ref (rh2 0), .ref (rh3 0), .ref (rh4 0), .null, .null, .null, .null, .int 0])) :: (((rw_w rh1 (fm_kA X) mk6 0 sh6 ++ rw_w rh2 (fm_kA X) mk6 0 sh6) ++ rw_w rh3 (fm_kA X) mk3 0 sh3) ++ rw_w rh4 (fm_kA X) mk1 0 sh1)) hB dX8_init_53 (List.mem_of_getElem? (i := 4) rfl) cw_2 gi_2 rfl rfl (Nat.le_of_ble_eq_true rfl) (g_rf hR (Nat.le_of_ble_eq_true rfl) (Nat.le_of_ble_eq_true rfl)) (g_rm hR (Nat.le_of_ble_eq_true rfl) (Nat.le_of_ble_eq_true rfl)) (fun rh5 e5 => ?_)
  subst e5
  refine g_ws ((h0, .inr (8, [.ref (rh1 0), .ref (rh2 0), .ref (rh3 0), .ref (rh4 0), .null, .null, .null, .null, .int 0])) :: ((((rw_w rh1 (fm_kA X) mk6 0 sh6 ++ rw_w rh2 (fm_kA X) mk6 0 sh6) ++ rw_w rh3 (fm_kA X) mk3 0 sh3) ++ rw_w rh4 (fm_kA X) mk1 0 sh1) ++ rw_w rh5 (fm_kA X) mk2 0 sh2)) rfl ?_
  refine g_putF (h0 := h0) (ci := 8) (fs := [.ref (rh1 0), .ref (rh2 0), .ref (rh3 0), .ref (rh4 0), .null, .null, .null, .null, .int 0]) (ws := ((((rw_w rh1 (fm_kA X) mk6 0 sh6 ++ rw_w rh2 (fm_kA X) mk6 0 sh6) ++ rw_w rh3 (fm_kA X) mk3 0 sh3) ++ rw_w rh4 (fm_kA X) mk1 0 sh1) ++ rw_w rh5 (fm_kA X) mk2 0 sh2)) hB hin (v := .ref (rh5 0)) dX8_init_56 cp_X8_38 rfl rfl (Nat.le_of_ble_eq_true rfl) ?_
  refine g_ws ((h0, .inr (8, [.ref (rh1 0), .ref (rh2 0), .ref (rh3 0), .ref (rh4 0), .ref (rh5 0), .null, .null, .null, .int 0])) :: ((((rw_w rh1 (fm_kA X) mk6 0 sh6 ++ rw_w rh2 (fm_kA X) mk6 0 sh6) ++ rw_w rh3 (fm_kA X) mk3 0 sh3) ++ rw_w rh4 (fm_kA X) mk1 0 sh1) ++ rw_w rh5 (fm_kA X) mk2 0 sh2)) rfl ?_
  refine g_aload_n hB dX8_init_59 rfl rfl ?_
  refine g_new hB dX8_init_60 cn_X8_42 (g_rm hR (Nat.le_of_ble_eq_true rfl) (Nat.le_of_ble_eq_true rfl)) (fun q6 => ?_)
  refine g_dup hB dX8_init_63 rfl ?_
  refine g_initN (ce := 61) (sl := 745) (q := q6) (rest := [.ref q6, .ref h0]) (pre := (h0, .inr (8, [.ref (rh1 0), .ref (rh2 0), .ref (rh3 0), .ref (rh4 0), .ref (rh5 0), .null, .null, .null, .int 0])) :: ((((rw_w rh1 (fm_kA X) mk6 0 sh6 ++ rw_w rh2 (fm_kA X) mk6 0 sh6) ++ rw_w rh3 (fm_kA X) mk3 0 sh3) ++ rw_w rh4 (fm_kA X) mk1 0 sh1) ++ rw_w rh5 (fm_kA X) mk2 0 sh2)) hB dX8_init_64 (List.mem_of_getElem? (i := 5) rfl) cw_0 gi_0 rfl rfl (Nat.le_of_ble_eq_true rfl) (g_rf hR (Nat.le_of_ble_eq_true rfl) (Nat.le_of_ble_eq_true rfl)) (g_rm hR (Nat.le_of_ble_eq_true rfl) (Nat.le_of_ble_eq_true rfl)) (fun rh6 e6 => ?_)
  subst e6
  refine g_ws ((h0, .inr (8, [.ref (rh1 0), .ref (rh2 0), .ref (rh3 0), .ref (rh4 0), .ref (rh5 0), .null, .null, .null, .int 0])) :: (((((rw_w rh1 (fm_kA X) mk6 0 sh6 ++ rw_w rh2 (fm_kA X) mk6 0 sh6) ++ rw_w rh3 (fm_kA X) mk3 0 sh3) ++ rw_w rh4 (fm_kA X) mk1 0 sh1) ++ rw_w rh5 (fm_kA X) mk2 0 sh2) ++ rw_w rh6 (fm_kA X) mk0 0 sh0)) rfl ?_
  refine g_putF (h0 := h0) (ci := 8) (fs := [.ref (rh1 0), .ref (rh2 0), .ref (rh3 0), .ref (rh4 0), .ref (rh5 0), .null, .null, .null, .int 0]) (ws := (((((rw_w rh1 (fm_kA X) mk6 0 sh6 ++ rw_w rh2 (fm_kA X) mk6 0 sh6) ++ rw_w rh3 (fm_kA X) mk3 0 sh3) ++ rw_w rh4 (fm_kA X) mk1 0 sh1) ++ rw_w rh5 (fm_kA X) mk2 0 sh2) ++ rw_w rh6 (fm_kA X) mk0 0 sh0)) hB hin (v := .ref (rh6 0)) dX8_init_67 cp_X8_45 rfl rfl (Nat.le_of_ble_eq_true rfl) ?_
  refine g_ws ((h0, .inr (8, [.ref (rh1 0), .ref (rh2 0), .ref (rh3 0), .ref (rh4 0), .ref (rh5 0), .ref (rh6 0), .null, .null, .int 0])) :: (((((rw_w rh1 (fm_kA X) mk6 0 sh6 ++ rw_w rh2 (fm_kA X) mk6 0 sh6) ++ rw_w rh3 (fm_kA X) mk3 0 sh3) ++ rw_w rh4 (fm_kA X) mk1 0 sh1) ++ rw_w rh5 (fm_kA X) mk2 0 sh2) ++ rw_w rh6 (fm_kA X) mk0 0 sh0)) rfl ?_
  refine g_aload_n hB dX8_init_70 rfl rfl ?_
  refine g_new hB dX8_init_71 cn_X8_49 (g_rm hR (Nat.le_of_ble_eq_true rfl) (Nat.le_of_ble_eq_true rfl)) (fun q7 => ?_)
  refine g_dup hB dX8_init_74 rfl ?_
  refine g_initN (ce := 63) (sl := 816) (q := q7) (rest := [.ref q7, .ref h0]) (pre := (h0, .inr (8, [.ref (rh1 0), .ref (rh2 0), .ref (rh3 0), .ref (rh4 0), .ref (rh5 0), .ref (rh6 0), .null, .null, .int 0])) :: (((((rw_w rh1 (fm_kA X) mk6 0 sh6 ++ rw_w rh2 (fm_kA X) mk6 0 sh6) ++ rw_w rh3 (fm_kA X) mk3 0 sh3) ++ rw_w rh4 (fm_kA X) mk1 0 sh1) ++ rw_w rh5 (fm_kA X) mk2 0 sh2) ++ rw_w rh6 (fm_kA X) mk0 0 sh0)) hB dX8_init_75 (List.mem_of_getElem? (i := 6) rfl) cw_5 gi_5 rfl rfl (Nat.le_of_ble_eq_true rfl) (g_rf hR (Nat.le_of_ble_eq_true rfl) (Nat.le_of_ble_eq_true rfl)) (g_rm hR (Nat.le_of_ble_eq_true rfl) (Nat.le_of_ble_eq_true rfl)) (fun rh7 e7 => ?_)
  subst e7
  refine g_ws ((h0, .inr (8, [.ref (rh1 0), .ref (rh2 0), .ref (rh3 0), .ref (rh4 0), .ref (rh5 0), .ref (rh6 0), .null, .null, .int 0])) :: ((((((rw_w rh1 (fm_kA X) mk6 0 sh6 ++ rw_w rh2 (fm_kA X) mk6 0 sh6) ++ rw_w rh3 (fm_kA X) mk3 0 sh3) ++ rw_w rh4 (fm_kA X) mk1 0 sh1) ++ rw_w rh5 (fm_kA X) mk2 0 sh2) ++ rw_w rh6 (fm_kA X) mk0 0 sh0) ++ rw_w rh7 (fm_kA X) mk5 0 sh5)) rfl ?_
  refine g_putF (h0 := h0) (ci := 8) (fs := [.ref (rh1 0), .ref (rh2 0), .ref (rh3 0), .ref (rh4 0), .ref (rh5 0), .ref (rh6 0), .null, .null, .int 0]) (ws := ((((((rw_w rh1 (fm_kA X) mk6 0 sh6 ++ rw_w rh2 (fm_kA X) mk6 0 sh6) ++ rw_w rh3 (fm_kA X) mk3 0 sh3) ++ rw_w rh4 (fm_kA X) mk1 0 sh1) ++ rw_w rh5 (fm_kA X) mk2 0 sh2) ++ rw_w rh6 (fm_kA X) mk0 0 sh0) ++ rw_w rh7 (fm_kA X) mk5 0 sh5)) hB hin (v := .ref (rh7 0)) dX8_init_78 cp_X8_52 rfl rfl (Nat.le_of_ble_eq_true rfl) ?_
  refine g_ws ((h0, .inr (8, [.ref (rh1 0), .ref (rh2 0), .ref (rh3 0), .ref (rh4 0), .ref (rh5 0), .ref (rh6 0), .ref (rh7 0), .null, .int 0])) :: ((((((rw_w rh1 (fm_kA X) mk6 0 sh6 ++ rw_w rh2 (fm_kA X) mk6 0 sh6) ++ rw_w rh3 (fm_kA X) mk3 0 sh3) ++ rw_w rh4 (fm_kA X) mk1 0 sh1) ++ rw_w rh5 (fm_kA X) mk2 0 sh2) ++ rw_w rh6 (fm_kA X) mk0 0 sh0) ++ rw_w rh7 (fm_kA X) mk5 0 sh5)) rfl ?_
  refine g_aload_n hB dX8_init_81 rfl rfl ?_
  refine g_bipush (v := nI 6) hB dX8_init_82 (by decide) ?_
  refine g_newT hB 6 dX8_init_84 cx_X8_56 rfl (by decide) (g_rm hR (Nat.le_of_ble_eq_true rfl) (Nat.le_of_ble_eq_true rfl)) (fun qT => ?_)
  refine g_ws ((h0, .inr (8, [.ref (rh1 0), .ref (rh2 0), .ref (rh3 0), .ref (rh4 0), .ref (rh5 0), .ref (rh6 0), .ref (rh7 0), .null, .int 0])) :: (((((((rw_w rh1 (fm_kA X) mk6 0 sh6 ++ rw_w rh2 (fm_kA X) mk6 0 sh6) ++ rw_w rh3 (fm_kA X) mk3 0 sh3) ++ rw_w rh4 (fm_kA X) mk1 0 sh1) ++ rw_w rh5 (fm_kA X) mk2 0 sh2) ++ rw_w rh6 (fm_kA X) mk0 0 sh0) ++ rw_w rh7 (fm_kA X) mk5 0 sh5) ++ [(qT, .inl (fm_kA X 4, 6, .inr (.inr (.inr (.inr (fun _ => none))))))])) rfl ?_
  refine g_putF (h0 := h0) (ci := 8) (fs := [.ref (rh1 0), .ref (rh2 0), .ref (rh3 0), .ref (rh4 0), .ref (rh5 0), .ref (rh6 0), .ref (rh7 0), .null, .int 0]) (ws := (((((((rw_w rh1 (fm_kA X) mk6 0 sh6 ++ rw_w rh2 (fm_kA X) mk6 0 sh6) ++ rw_w rh3 (fm_kA X) mk3 0 sh3) ++ rw_w rh4 (fm_kA X) mk1 0 sh1) ++ rw_w rh5 (fm_kA X) mk2 0 sh2) ++ rw_w rh6 (fm_kA X) mk0 0 sh0) ++ rw_w rh7 (fm_kA X) mk5 0 sh5) ++ [(qT, .inl (fm_kA X 4, 6, .inr (.inr (.inr (.inr (fun _ => none))))))])) hB hin (v := .ref qT) dX8_init_87 cp_X8_58 rfl rfl (Nat.le_of_ble_eq_true rfl) ?_
  refine g_ws ((h0, .inr (8, [.ref (rh1 0), .ref (rh2 0), .ref (rh3 0), .ref (rh4 0), .ref (rh5 0), .ref (rh6 0), .ref (rh7 0), .ref qT, .int 0])) :: (((((((rw_w rh1 (fm_kA X) mk6 0 sh6 ++ rw_w rh2 (fm_kA X) mk6 0 sh6) ++ rw_w rh3 (fm_kA X) mk3 0 sh3) ++ rw_w rh4 (fm_kA X) mk1 0 sh1) ++ rw_w rh5 (fm_kA X) mk2 0 sh2) ++ rw_w rh6 (fm_kA X) mk0 0 sh0) ++ rw_w rh7 (fm_kA X) mk5 0 sh5) ++ [(qT, .inl (fm_kA X 4, 6, .inr (.inr (.inr (.inr (fun _ => none))))))])) rfl ?_
  refine g_lv [some (.ref h0), none] ⟨rfl, trivial⟩ ?_
  refine gi_8t (((((((rw_w rh1 (fm_kA X) mk6 0 sh6 ++ rw_w rh2 (fm_kA X) mk6 0 sh6) ++ rw_w rh3 (fm_kA X) mk3 0 sh3) ++ rw_w rh4 (fm_kA X) mk1 0 sh1) ++ rw_w rh5 (fm_kA X) mk2 0 sh2) ++ rw_w rh6 (fm_kA X) mk0 0 sh0) ++ rw_w rh7 (fm_kA X) mk5 0 sh5)) hR hB (fun t1 t2 t3 t4 t5 t6 => ?_)
  refine g_arrL (T1 := ((((((rw_w rh1 (fm_kA X) mk6 0 sh6 ++ rw_w rh2 (fm_kA X) mk6 0 sh6) ++ rw_w rh3 (fm_kA X) mk3 0 sh3) ++ rw_w rh4 (fm_kA X) mk1 0 sh1) ++ rw_w rh5 (fm_kA X) mk2 0 sh2) ++ rw_w rh6 (fm_kA X) mk0 0 sh0) ++ rw_w rh7 (fm_kA X) mk5 0 sh5)) (fun j => some ((rhC h0 qT rh1 rh2 rh3 rh4 rh5 rh6 rh7 t1 t2 t3 t4 t5 t6) (68 + 1 + 2 * j))) (fun j hj => ?_) ?_
  · rcases (show j = 0 ∨ j = 1 ∨ j = 2 ∨ j = 3 ∨ j = 4 ∨ j = 5 by omega) with rfl | rfl | rfl | rfl | rfl | rfl <;> rfl
  · exact g_ret hB (rhC h0 qT rh1 rh2 rh3 rh4 rh5 rh6 rh7 t1 t2 t3 t4 t5 t6) dX8_init_117 rfl rhC_0.symm
