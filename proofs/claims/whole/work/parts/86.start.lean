/-! THE CLAIM OUT OF ONE WALK OF THE LAW'S BODY. Your part is whole_start (and what it stands on); all else here is the same for every law, but numbers. -/
def R_law : String := "FaultGraphLaw"
def lw_P (b : Addr) (xs : List Int32) (args : Array Value) (s : State) : Prop := args = #[.ref b] ∧ s.IntsAt b xs ∧ xs.length ≤ 3072 ∧ (Jvm.Cond.and given_1 narrow_1).before args s = true
def lw_Q (_ : Array Value) (s : State) (o : Outcome) (t : State) : Prop := o = .returned (some (.int 1)) ∧ Framed s o t [] 600000 7302250
def lw_Z (below : List Frame) (a : Array Value) (s : State) : State → Prop := fun t => ∃ o, t.status = .running ∧ Ended t below o ∧ lw_Q a s o t
/-- the law's own end, with 1 on the stack, nothing written that was there before, its room as the claim has it -/
theorem lw_ret {p : Program} {l : Launch} {e : Env} {s : State} {m : MethodId} {below : List Frame} {meth : Method} {c : Code} {b : Nat} (hx : p.tables.exec = Jvm.exec) (hb : c.code = code) (hr : meth.sig.returnType = ret) (hlocks : meth.locks = false) {pc : Nat} {H : Heap} {ls : Array Slot} (hdg : decode code pc = .ok (.ireturn, 1)) : W p l e room_1 s m #[Value.ref b] below meth c H [] 600000 7302250 (lw_Z below #[Value.ref b] s) (F0 m pc ls [.int 1]) := by
  intro T hT X
  obtain ⟨fs, hret, hrun, hended, hW, hframe⟩ := X.leave (v := some (.int 1)) (hlocks := hlocks) (fun h => by rw [hr] at h; cases h)
  have hmeth' : T.vm.method? m = some meth := X.method'
  refine ⟨T.setFrames fs, ?_, .returned (some (.int 1)), hrun, hended, rfl, ⟨_, rfl⟩, hW, hframe⟩
  jvm_step X.here [X.here.top, hx, hb, hdg, hmeth', hr, ret, narrow_b1]
  (try refine ⟨rfl, ?_⟩); (try refine ⟨rfl, ?_⟩)
  first | (intro acts; rw [hret _ acts rfl rfl rfl]) | rw [hret _ _ rfl rfl rfl]
  exact Steps.refl _
/-- what holds at the law's entry: the machine, the code, the tables' words (any of lw_tbl by 'hts w (by decide +kernel)'), the script of L ints xs at the cell b, what the Statement gives of the start (any of its parts by flat_of_before) -/
def lw_At (p : Program) (s : State) (m : MethodId) (meth : Method) (c : Code) (b L : Nat) (xs : Nat → Int32) : Prop :=
  p.tables.exec = Jvm.exec ∧ c.code = code ∧ meth.sig.returnType = ret ∧ c.maxLocals = 4 ∧ s.vm.findClass R_law = some m.cls ∧ (∀ w ∈ lw_tbl, w.before #[Value.ref b] s = true) ∧ va_X b L xs s s.heap ∧ b < s.heap.size ∧ meth.locks = false ∧ (Jvm.Cond.and given_1 narrow_1).before #[Value.ref b] s = true
/-! ===== the start: no parts, no gates ===== -/
def fm_P0 : fm_P := fun _ _ => 0
def fm_Z0 : fm_Z := (fm_P0, none, fun _ => 0, 0, fun _ => 0, fun _ => 0, fun _ _ => 0)
theorem wz_0 : fm_WZ fm_Z0 := by
  refine ⟨⟨⟨by show 0 ≤ 6; omega, by show 0 ≤ 8; omega, by show 0 ≤ 3; omega, by show 0 ≤ 0; omega, fun _ => by show 0 ≤ 100; omega, fun _ => by show 0 ≤ 2; omega, fun _ => by show 0 ≤ 5; omega, fun _ => by show 0 ≤ 4; omega, fun g i h _ => absurd (show g < 0 from h) (by omega), ⟨fun j h => absurd (show j < 0 from h) (by omega), fun i j h _ _ => absurd (show i < 0 from h) (by omega), fun j h => absurd (show j < 0 from h) (by omega)⟩, fun _ => by show 0 ≤ 100; omega, fun c h => absurd (show c < 0 from h) (by omega)⟩, ⟨by show 0 ≤ 6; omega, by show 0 ≤ 8; omega, by show 0 ≤ 8; omega, fun j h => absurd (show j < 0 from h) (by omega), fun j h => absurd (show j < 0 from h) (by omega), fun j h => absurd (show j < 0 from h) (by omega)⟩⟩, fun R hR => (by cases hR), fun j _ => ⟨by show 0 ≤ 5; omega, by show 0 ≤ 60; omega, fun _ => rfl⟩⟩
theorem cr_0 : fm_CR fm_Z0 mk8 := by
  refine ⟨⟨⟨rfl, fun j _ => rfl, fun j _ => rfl, rfl, fun j _ => rfl, fun j _ => rfl, fun j _ => rfl, fun j _ => rfl, by decide, rfl, fun j _ => rfl, fun j _ => rfl⟩, rfl, fun j _ => rfl, fun j _ => rfl, rfl, fun j _ => rfl, fun j _ => rfl, rfl, fun j _ => rfl⟩, rfl, ⟨rfl, by show 0 ≤ 100; omega, fun j h => absurd (show j < 0 from h) (by omega)⟩, fun j hj => ?_⟩
  rcases (show j = 0 ∨ j = 1 ∨ j = 2 ∨ j = 3 ∨ j = 4 ∨ j = 5 by omega) with rfl | rfl | rfl | rfl | rfl | rfl <;> exact ⟨by decide, rfl, fun i _ => rfl⟩
theorem mr_0 : fm_MR fm_Z0 mk9 := by
  refine ⟨⟨⟨rfl, fun j _ => rfl, fun j _ => rfl, rfl, fun j _ => rfl, fun j _ => rfl, fun j _ => rfl, fun j _ => rfl, by decide, rfl, fun j _ => rfl, fun j _ => rfl⟩, rfl, fun j _ => rfl, fun j _ => rfl, rfl, fun j _ => rfl, fun j _ => rfl, rfl, fun j _ => rfl⟩, rfl, ⟨rfl, by show 0 ≤ 100; omega, fun j h => absurd (show j < 0 from h) (by omega)⟩, fun j hj => ?_⟩
  rcases (show j = 0 ∨ j = 1 ∨ j = 2 ∨ j = 3 ∨ j = 4 ∨ j = 5 by omega) with rfl | rfl | rfl | rfl | rfl | rfl <;> exact ⟨by decide, rfl, fun i _ => rfl⟩
theorem fm_tb_in {w : Cond} (h : w ∈ fm_tb) : w ∈ lw_tbl := (List.mem_filter.mp h).1
theorem st_arr {args : Array Value} {s : State} {ty : FieldType} (h : (Cond.arrayClass ty).before args s = true) : ∃ cA : ClassId, ArrOfT s cA ty ∧ s.vm.findClass ("[" ++ ty.toString) = some cA := by
  obtain ⟨cA, kA, comp, h1, h2, h3⟩ := Cond.arrayClass_spec h
  exact ⟨cA, fun n z => ⟨fun k h => (by cases h), kA, h2, comp, h3⟩, h1⟩
theorem dd_of {A : Nat → Prop} {sh : List fm_S} {rh : Nat → Nat} {kA : Nat → ClassId} {M : fm_M} (h : va_D A (fm_w sh rh kA M)) : fm_Dd sh rh A := ⟨fun i j x y hx hy e => h.1 i j _ _ (fm_w_get hx) (fm_w_get hy) (by rw [fm_e_fst, fm_e_fst]; exact e), fun i x hx => by have := h.2 i _ (fm_w_get hx); rw [fm_e_fst] at this; exact this⟩
theorem va_D.l1 {A : Nat → Prop} {w1 w2 : va_W} (h : va_D A (w1 ++ w2)) : va_D A w1 := ⟨fun i j p q hp hq e => h.1 i j p q (by rw [List.getElem?_append_left (List.getElem?_eq_some_iff.mp hp).1]; exact hp) (by rw [List.getElem?_append_left (List.getElem?_eq_some_iff.mp hq).1]; exact hq) e, fun i p hp => h.2 i p (by rw [List.getElem?_append_left (List.getElem?_eq_some_iff.mp hp).1]; exact hp)⟩
theorem ap_r {α : Type} {w1 w2 : List α} {j : Nat} {q : α} (h : w2[j]? = some q) : (w1 ++ w2)[w1.length + j]? = some q := by rw [List.getElem?_append_right (by omega), Nat.add_sub_cancel_left]; exact h
theorem va_D.l2 {A : Nat → Prop} {w1 w2 : va_W} (h : va_D A (w1 ++ w2)) : va_D A w2 := ⟨fun i j p q hp hq e => by have := h.1 _ _ p q (ap_r hp) (ap_r hq) e; omega, fun i p hp => h.2 _ p (ap_r hp)⟩
theorem ap_of {A : Nat → Prop} {sh sh2 : List fm_S} {rh rh2 : Nat → Nat} {kA : Nat → ClassId} {M M2 : fm_M} (h : va_D A (fm_w sh rh kA M ++ fm_w sh2 rh2 kA M2)) : ∀ (i j : Nat) (x y : fm_S), sh[i]? = some x → sh2[j]? = some y → rh i ≠ rh2 j := by
  intro i j x y hx hy e
  have h1 := fm_w_get (rh := rh) (kA := kA) (M := M) hx
  have h2 := fm_w_get (rh := rh2) (kA := kA) (M := M2) hy
  have hlt := (List.getElem?_eq_some_iff.mp h1).1
  have := h.1 i ((fm_w sh rh kA M).length + j) _ _ (by rw [List.getElem?_append_left hlt]; exact h1) (ap_r h2) (by rw [fm_e_fst, fm_e_fst]; exact e)
  omega
theorem va_P.l1 {D : va_G} {cl : List vw_C} {w1 w2 : va_W} {H : Heap} (h : va_P D cl (w1 ++ w2) H) : va_P D cl w1 H := fun i p hp => h i p (by rw [List.getElem?_append_left (List.getElem?_eq_some_iff.mp hp).1]; exact hp)
theorem va_P.l2 {D : va_G} {cl : List vw_C} {w1 w2 : va_W} {H : Heap} (h : va_P D cl (w1 ++ w2) H) : va_P D cl w2 H := fun i p hp => h _ p (ap_r hp)
theorem st_G {args : Array Value} {s : State} (hts : ∀ w ∈ lw_tbl, w.before args s = true) (hgv : (Jvm.Cond.and given_1 narrow_1).before args s = true) : fm_G (fun q => s.heap.size ≤ q) s s.heap := by
  have hs := flat_of_before _ hgv
  have hA : ∀ a : Nat, a < s.heap.size → ¬ s.heap.size ≤ a := fun a h => Nat.not_le.mpr h
  have harr : (Cond.arrayOf (.static "FaultGraph$Plant" "PART_TABLES" "[J") .long).before args s = true := hs _ (by decide +kernel)
  have hlen := va_eqt (z := 6) (t := .length (.static "FaultGraph$Plant" "PART_TABLES" "[J")) (hs _ (by decide +kernel))
  have he0 := va_eqtl (z := -6148914691236517206) (t := .elem (.static "FaultGraph$Plant" "PART_TABLES" "[J") (.int 0)) (hs _ (by decide +kernel))
  have he1 := va_eqtl (z := -3689348814741910324) (t := .elem (.static "FaultGraph$Plant" "PART_TABLES" "[J") (.int 1)) (hs _ (by decide +kernel))
  have he2 := va_eqtl (z := -1085102592571150096) (t := .elem (.static "FaultGraph$Plant" "PART_TABLES" "[J") (.int 2)) (hs _ (by decide +kernel))
  have he3 := va_eqtl (z := -71777214294589696) (t := .elem (.static "FaultGraph$Plant" "PART_TABLES" "[J") (.int 3)) (hs _ (by decide +kernel))
  have he4 := va_eqtl (z := -281470681808896) (t := .elem (.static "FaultGraph$Plant" "PART_TABLES" "[J") (.int 4)) (hs _ (by decide +kernel))
  have he5 := va_eqtl (z := -4294967296) (t := .elem (.static "FaultGraph$Plant" "PART_TABLES" "[J") (.int 5)) (hs _ (by decide +kernel))
  obtain ⟨t, ht, hT⟩ := va_Tof (tm := .static "FaultGraph$Plant" "PART_TABLES" "[J") (N := 6) (f := fun j => .long (fm_PT j)) (A := fun q => s.heap.size ≤ q) (by decide) harr hlen (fun j hj => by
    rcases (show j = 0 ∨ j = 1 ∨ j = 2 ∨ j = 3 ∨ j = 4 ∨ j = 5 by omega) with rfl | rfl | rfl | rfl | rfl | rfl
    · exact he0
    · exact he1
    · exact he2
    · exact he3
    · exact he4
    · exact he5) hA
  exact ⟨⟨t, va_Zof (hts _ (List.mem_of_getElem? (i := 500) (by decide +kernel))) (hts _ (List.mem_of_getElem? (i := 62) (by decide +kernel))) ht hA, hT⟩, va_Nw.of rfl (hts _ (List.mem_of_getElem? (i := 630) (by decide +kernel))), va_Nw.of rfl (hts _ (List.mem_of_getElem? (i := 596) (by decide +kernel)))⟩
theorem st_N {args : Array Value} {s : State} (hts : ∀ w ∈ lw_tbl, w.before args s = true) : gN s := by
  refine ⟨fun q hq => ?_, va_AO.of (hts _ (List.mem_of_getElem? (i := 279) (by decide +kernel)))⟩
  simp only [gn_l, List.mem_cons, List.not_mem_nil, or_false] at hq
  rcases hq with rfl | rfl | rfl | rfl | rfl | rfl | rfl | rfl
  · exact va_Nw.of rfl (hts _ (List.mem_of_getElem? (i := 83) (by decide +kernel)))
  · exact va_Nw.of rfl (hts _ (List.mem_of_getElem? (i := 89) (by decide +kernel)))
  · exact va_Nw.of rfl (hts _ (List.mem_of_getElem? (i := 195) (by decide +kernel)))
  · exact va_Nw.of rfl (hts _ (List.mem_of_getElem? (i := 198) (by decide +kernel)))
  · exact va_Nw.of rfl (hts _ (List.mem_of_getElem? (i := 220) (by decide +kernel)))
  · exact va_Nw.of rfl (hts _ (List.mem_of_getElem? (i := 235) (by decide +kernel)))
  · exact va_Nw.of rfl (hts _ (List.mem_of_getElem? (i := 245) (by decide +kernel)))
  · exact va_Nw.of rfl (hts _ (List.mem_of_getElem? (i := 281) (by decide +kernel)))
theorem st_K {args : Array Value} {s : State} (hts : ∀ w ∈ lw_tbl, w.before args s = true) : ∃ (D : va_G) (kA : Nat → ClassId), va_K D vwCl (fm_tys kA) s := by
  obtain ⟨c0, i0, k0⟩ := u_known (C := RX0) (T := TX0) (N := 1) (n := 1) hts (fun w hw => fm_tb_in (inX0 w hw)) (hts (.instantiable RX0 1) (List.mem_of_getElem? (i := 234) (by decide +kernel)))
  obtain ⟨c1, i1, k1⟩ := u_known (C := RX1) (T := TX1) (N := 5) (n := 5) hts (fun w hw => fm_tb_in (inX1 w hw)) (hts (.instantiable RX1 5) (List.mem_of_getElem? (i := 197) (by decide +kernel)))
  obtain ⟨c2, i2, k2⟩ := u_known (C := RX2) (T := TX2) (N := 2) (n := 2) hts (fun w hw => fm_tb_in (inX2 w hw)) (hts (.instantiable RX2 2) (List.mem_of_getElem? (i := 219) (by decide +kernel)))
  obtain ⟨c3, i3, k3⟩ := u_known (C := RX3) (T := TX3) (N := 14) (n := 14) hts (fun w hw => fm_tb_in (inX3 w hw)) (hts (.instantiable RX3 14) (List.mem_of_getElem? (i := 88) (by decide +kernel)))
  obtain ⟨c4, i4, k4⟩ := u_known (C := RX4) (T := TX4) (N := 3) (n := 3) hts (fun w hw => fm_tb_in (inX4 w hw)) (hts (.instantiable RX4 3) (List.mem_of_getElem? (i := 156) (by decide +kernel)))
  obtain ⟨c5, i5, k5⟩ := u_known (C := RX5) (T := TX5) (N := 7) (n := 7) hts (fun w hw => fm_tb_in (inX5 w hw)) (hts (.instantiable RX5 7) (List.mem_of_getElem? (i := 244) (by decide +kernel)))
  obtain ⟨c6, i6, k6⟩ := u_known (C := RX6) (T := TX6) (N := 4) (n := 4) hts (fun w hw => fm_tb_in (inX6 w hw)) (hts (.instantiable RX6 4) (List.mem_of_getElem? (i := 82) (by decide +kernel)))
  obtain ⟨c7, i7, k7⟩ := u_known (C := RX7) (T := TX7) (N := 3) (n := 3) hts (fun w hw => fm_tb_in (inX7 w hw)) (hts (.instantiable RX7 3) (List.mem_of_getElem? (i := 280) (by decide +kernel)))
  obtain ⟨c8, i8, k8⟩ := u_known (C := RX8) (T := TX8) (N := 9) (n := 9) hts (fun w hw => fm_tb_in (inX8 w hw)) (hts (.instantiable RX8 9) (List.mem_of_getElem? (i := 74) (by decide +kernel)))
  obtain ⟨c9, i9, k9⟩ := u_known (C := RX9) (T := TX9) (N := 35) (n := 35) hts (fun w hw => fm_tb_in (inX9 w hw)) (hts (.instantiable RX9 35) (List.mem_of_getElem? (i := 798) (by decide +kernel)))
  obtain ⟨a0, p0, r0⟩ := st_arr (hts _ (fm_tb_in wa_0))
  obtain ⟨a1, p1, r1⟩ := st_arr (hts _ (fm_tb_in wa_1))
  obtain ⟨a2, p2, r2⟩ := st_arr (hts _ (fm_tb_in wa_2))
  obtain ⟨a3, p3, r3⟩ := st_arr (hts _ (fm_tb_in wa_3))
  obtain ⟨co, a4, ko, g1, g2, g3, g4, g5⟩ := Cond.arrayOver_spec (hts (.arrayOver (.object "FaultGraph$Tape")) (List.mem_of_getElem? (i := 279) (by decide +kernel)))
  refine ⟨(fun k => if k = 0 then c0 else if k = 1 then c1 else if k = 2 then c2 else if k = 3 then c3 else if k = 4 then c4 else if k = 5 then c5 else if k = 6 then c6 else if k = 7 then c7 else if k = 8 then c8 else c9, fun k => if k = 0 then i0 else if k = 1 then i1 else if k = 2 then i2 else if k = 3 then i3 else if k = 4 then i4 else if k = 5 then i5 else if k = 6 then i6 else if k = 7 then i7 else if k = 8 then i8 else i9), (fun k => if k = 0 then a0 else if k = 1 then a1 else if k = 2 then a2 else if k = 3 then a3 else a4), ?_, ?_⟩
  · intro k q hq
    match k, hq with
    | 0, hq => cases hq; exact k0
    | 1, hq => cases hq; exact k1
    | 2, hq => cases hq; exact k2
    | 3, hq => cases hq; exact k3
    | 4, hq => cases hq; exact k4
    | 5, hq => cases hq; exact k5
    | 6, hq => cases hq; exact k6
    | 7, hq => cases hq; exact k7
    | 8, hq => cases hq; exact k8
    | 9, hq => cases hq; exact k9
    | k + 10, hq => simp at hq
  · intro k q hq
    match k, hq with
    | 0, hq => cases hq; exact ⟨p0, r0⟩
    | 1, hq => cases hq; exact ⟨p1, r1⟩
    | 2, hq => cases hq; exact ⟨p2, r2⟩
    | 3, hq => cases hq; exact ⟨p3, r3⟩
    | 4, hq => cases hq; exact ⟨fun n z => ⟨fun k h => (by cases h), ko, g3, co, g4⟩, ko, co, g3, g4, g1, g5⟩
    | k + 5, hq => simp [fm_tys] at hq
set_option maxHeartbeats 4000000 in
/-- THE LAW, from its entry -/
theorem whole_start {p : Program} {e : Env} {s : State} {m : MethodId} {below : List Frame} {meth : Method} {c : Code} (l : Launch) (hflags : l.flags = flags0) {b L : Nat} {xs : Nat → Int32} (hL : L ≤ 3072) (C0 : lw_At p s m meth c b L xs) : W p l e room_1 s m #[Value.ref b] below meth c s.heap [] 0 0 (lw_Z below #[Value.ref b] s) (entryFrame m ([Value.ref b] : List Value).toArray 4) := by
  obtain ⟨hx, hb, hr, hml, hown, hts, hX, hbl, hlocks, hgv⟩ := id C0
  obtain ⟨D, kA, hK⟩ := st_K hts
  have hN := st_N hts
  have hG := st_G hts hgv
  have hl0 := lv_entry ([.ref b]) (n := 4) (Nat.le_of_ble_eq_true rfl)
  rw [lg_entry_eq]
  generalize (lg_sl ([.ref b]) ++ List.replicate (4 - (lg_sl ([.ref b])).length) Slot.unset).toArray = ls at hl0 ⊢
  obtain ⟨X, hXe⟩ : ∃ X : fm_X, X = (p, l, e, room_1, s, m, #[Value.ref b], below, meth, c, fun _ => 0, kA, D, fun q => s.heap.size ≤ q) := ⟨_, rfl⟩
  have hB : gb X cL_law 4 RL (some .boolean) := by
    rw [hXe]
    exact ⟨hx, hb, hml, hown, fun w hw => hts w (fm_tb_in hw), hr, hlocks, hK, fun q hq => hq, hN⟩
  have hR : fm_R X = room_1 := by rw [hXe]
  have kend : ∀ (rC rM : Nat → Nat) (MC MM : fm_M) (lv : List (Option Value)), gw X 4 106 2446 (il X rC rM MC MM) 1386 lv [] (lw_Z below #[Value.ref b] s) := by
    rw [hXe]
    intro rC rM MC MM lv H locs hI ls hl
    refine lv_iconst (v := 1) hx hb dL_law_1386 (by decide) ?_
    refine va_forget (fun q hq => hI.2.2.2.2 q hq) ?_
    refine W.widen (k := 600000) (n := 7302250) (Nat.le_of_ble_eq_true rfl) (Nat.le_of_ble_eq_true rfl) ?_
    exact lw_ret hx hb hr hlocks dL_law_1387
  have main : gw X 4 0 0 (iw X []) 0 [some (.ref b), none, none, none] [] (lw_Z below #[Value.ref b] s) := by
    have rm : ∀ {x y : Nat}, x ≤ 600000 → y ≤ 7302250 → x ≤ (fm_R X).cells ∧ y ≤ (fm_R X).slots := fun h1 h2 => by rw [hR]; exact ⟨h1, h2⟩
    have rf : ∀ {x y : Nat}, x ≤ 2048 → y ≤ 84000 → x ≤ (fm_R X).frames ∧ y ≤ (fm_R X).locals := fun h1 h2 => by rw [hR]; exact ⟨h1, h2⟩
    refine g_new hB dL_law_0 cn_L_7 (rm (Nat.le_of_ble_eq_true rfl) (Nat.le_of_ble_eq_true rfl)) (fun q0 => ?_)
    refine g_dup hB dL_law_3 rfl ?_
    refine g_initI (ce := 1) (sl := 9) (q := q0) (rest := [.ref q0]) (pre := []) hB dL_law_4 ci_L_9 cw_8 gi_8 rfl rfl (Nat.le_of_ble_eq_true rfl) (rf (Nat.le_of_ble_eq_true rfl) (Nat.le_of_ble_eq_true rfl)) (rm (Nat.le_of_ble_eq_true rfl) (Nat.le_of_ble_eq_true rfl)) (fun rC eC => ?_)
    subst eC
    refine g_astore_n hB dL_law_7 rfl (by decide) rfl ?_
    refine g_new hB dL_law_8 cn_L_10 (rm (Nat.le_of_ble_eq_true rfl) (Nat.le_of_ble_eq_true rfl)) (fun q1 => ?_)
    refine g_dup hB dL_law_11 rfl ?_
    refine g_initI (ce := 82) (sl := 1392) (q := q1) (rest := [.ref q1]) (pre := [] ++ rw_w rC (fm_kA X) mk8 0 shC) hB dL_law_12 ci_L_12 cw_9 gi_9 rfl rfl (Nat.le_of_ble_eq_true rfl) (rf (Nat.le_of_ble_eq_true rfl) (Nat.le_of_ble_eq_true rfl)) (rm (Nat.le_of_ble_eq_true rfl) (Nat.le_of_ble_eq_true rfl)) (fun rM eM => ?_)
    subst eM
    refine g_astore_n hB dL_law_15 rfl (by decide) rfl ?_
    refine g_iconst (v := nI 0) hB dL_law_16 (by decide) ?_
    refine g_istore_n hB dL_law_17 rfl (by decide) rfl ?_
    refine g_lv [some (.ref b), some (.ref (rC 0)), some (.ref (rM 0)), some (.int (nI 0))] ⟨rfl, rfl, rfl, rfl, trivial⟩ ?_
    intro H locs hI ls hl
    obtain ⟨hP, hD, hS⟩ := hI
    rw [List.nil_append, rw_w_eq, rw_w_eq] at hP hD
    have hP : va_P (fm_Dg X) vwCl (fm_w shC rC (fm_kA X) mk8 ++ fm_w shM rM (fm_kA X) mk9) H := hP
    have hD : va_D (fm_A X) (fm_w shC rC (fm_kA X) mk8 ++ fm_w shM rM (fm_kA X) mk9) := hD
    have hF : fl X rC rM b L xs := by
      refine ⟨dd_of hD.l1, dd_of hD.l2, ap_of hD, ?_, ?_, ?_, ?_, hL, hR⟩
      · rw [hXe]; exact hG
      · rw [hXe]; exact hX
      · rw [hXe]; exact hbl
      · rw [hXe]; exact Nat.not_le.mpr hbl
    exact law_loop hB hF (kend rC rM) (L + 1) 0 fm_Z0 mk8 mk9 (by omega) (Nat.zero_le _) cr_0 mr_0 wz_0 H locs ⟨hP.l1, hP.l2, hS⟩ ls hl
  rw [hXe] at main
  refine main s.heap [] ⟨fun k q h => by simp at h, ⟨fun i j p q h => by simp at h, fun k q h => by simp at h⟩, va_S.rf⟩ ls ⟨hl0.2.1, hl0.1, fun i v hi => ?_⟩
  match i, hi with
  | 0, hi =>
    cases hi
    exact hl0.2.2 (0, .ref b) (by simp [lv_args])
  | 1, hi => cases hi
  | 2, hi => cases hi
  | 3, hi => cases hi
  | i + 4, hi => simp at hi
