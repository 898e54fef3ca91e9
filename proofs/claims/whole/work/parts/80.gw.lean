/-! ===== rows over any picture of the heap: of constructors, which make cells, and of the law ===== -/
def gw (X : fm_X) (nL ce sl : Nat) (I : Heap → List Loc → Prop) (pc : Nat) (lv : List (Option Value)) (st : List Value) (Q : State → Prop) : Prop :=
  ∀ (H : Heap) (locs : List Loc), I H locs → ∀ ls : Array Slot, fm_lv ls nL lv → W (fm_p X) (fm_l X) (fm_en X) (fm_R X) (fm_s X) (fm_m X) (fm_ar X) (fm_bl X) (fm_me X) (fm_c X) H locs ce sl Q (F0 (fm_m X) pc ls st)
/-- the constructors' links that go by the nest -/
def gn_l : List (String × Nat × MethodName) := [(RX8, 13, yX6_init), (RX6, 11, yX3_init), (RX8, 23, yX3_init), (RX8, 30, yX1_init), (RX8, 37, yX2_init), (RX8, 44, yX0_init), (RX8, 51, yX5_init), (RX8, 62, yX7_init)]
def gN (U : State) : Prop := (∀ q ∈ gn_l, va_Nw (.methodLinkNest q.1 q.2.1 q.2.2 "FaultGraph") U) ∧ va_AO "FaultGraph$Tape" U
theorem gN.warm {s U : State} (hW : s.WarmedH U.vm) (h : gN s) : gN U := ⟨fun q hq => va_Nw.warmM hW (h.1 q hq), va_AO.moved hW.alike h.2⟩
theorem gN.same {u U : State} (hvm : u.vm = U.vm) (h : gN u) : gN U := ⟨fun q hq => (h.1 q hq).same rfl hvm, va_AO.moved (by rw [hvm]; exact Vm.Alike.refl U.vm) h.2⟩
def gb (X : fm_X) (cc : ByteArray) (nL : Nat) (own : String) (ret : Option FieldType) : Prop :=
  (fm_p X).tables.exec = Jvm.exec ∧ (fm_c X).code = cc ∧ (fm_c X).maxLocals = nL ∧ (fm_s X).vm.findClass own = some (fm_m X).cls ∧ (∀ w ∈ fm_tb, w.before (fm_ar X) (fm_s X) = true) ∧ (fm_me X).sig.returnType = ret ∧ (fm_me X).locks = false ∧ va_K (fm_Dg X) vwCl (fm_tys (fm_kA X)) (fm_s X) ∧ (∀ q, (fm_s X).heap.size ≤ q → fm_A X q) ∧ gN (fm_s X)
section GWR
variable {X : fm_X} {cc : ByteArray} {nL ce sl : Nat} {I : Heap → List Loc → Prop} {own : String} {ret : Option FieldType} {pc : Nat} {lv : List (Option Value)} {st : List Value} {Q : State → Prop}
theorem gb.x (h : gb X cc nL own ret) : (fm_p X).tables.exec = Jvm.exec := h.1
theorem gb.b (h : gb X cc nL own ret) : (fm_c X).code = cc := h.2.1
theorem gb.ml (h : gb X cc nL own ret) : (fm_c X).maxLocals = nL := h.2.2.1
theorem gb.ow (h : gb X cc nL own ret) : (fm_s X).vm.findClass own = some (fm_m X).cls := h.2.2.2.1
theorem gb.tb (h : gb X cc nL own ret) : ∀ w ∈ fm_tb, w.before (fm_ar X) (fm_s X) = true := h.2.2.2.2.1
theorem gb.re (h : gb X cc nL own ret) : (fm_me X).sig.returnType = ret := h.2.2.2.2.2.1
theorem gb.lk (h : gb X cc nL own ret) : (fm_me X).locks = false := h.2.2.2.2.2.2.1
theorem gb.K (h : gb X cc nL own ret) : va_K (fm_Dg X) vwCl (fm_tys (fm_kA X)) (fm_s X) := h.2.2.2.2.2.2.2.1
theorem gb.A (h : gb X cc nL own ret) : ∀ q, (fm_s X).heap.size ≤ q → fm_A X q := h.2.2.2.2.2.2.2.2.1
theorem gb.N (h : gb X cc nL own ret) : gN (fm_s X) := h.2.2.2.2.2.2.2.2.2
theorem g_lv (lv' : List (Option Value)) (h : fm_sub lv lv') (k : gw X nL ce sl I pc lv' st Q) : gw X nL ce sl I pc lv st Q := fun H locs hI ls hl => k H locs hI ls ⟨hl.1, hl.2.1, fun j w hj => hl.2.2 j w (fm_sub_at lv lv' h j w hj)⟩
theorem g_eqi {x : Int32} (y : Int32) (h : x = y) (k : gw X nL ce sl I pc lv (.int y :: st) Q) : gw X nL ce sl I pc lv (.int x :: st) Q := by rw [h]; exact k
theorem g_eql {x : Int64} (y : Int64) (h : x = y) (k : gw X nL ce sl I pc lv (.long y :: st) Q) : gw X nL ce sl I pc lv (.long x :: st) Q := by rw [h]; exact k
theorem g_iconst (hB : gb X cc nL own ret) {n : Int} {v : Int32} (hd : decode cc pc = .ok (.iconst n, 1)) (hv : Int32.ofInt n = v) (k : gw X nL ce sl I (pc + 1) lv (.int v :: st) Q) : gw X nL ce sl I pc lv (st) Q := fun H locs hI ls hl => lv_iconst hB.x hB.b hd hv (k H locs hI ls hl)
theorem g_bipush (hB : gb X cc nL own ret) {n : Int} {v : Int32} (hd : decode cc pc = .ok (.bipush n, 2)) (hv : (Int8.ofInt n).toInt32 = v) (k : gw X nL ce sl I (pc + 2) lv (.int v :: st) Q) : gw X nL ce sl I pc lv (st) Q := fun H locs hI ls hl => lv_bipush hB.x hB.b hd hv (k H locs hI ls hl)
theorem g_sipush (hB : gb X cc nL own ret) {n : Int} {v : Int32} (hd : decode cc pc = .ok (.sipush n, 3)) (hv : (Int16.ofInt n).toInt32 = v) (k : gw X nL ce sl I (pc + 3) lv (.int v :: st) Q) : gw X nL ce sl I pc lv (st) Q := fun H locs hI ls hl => lv_sipush hB.x hB.b hd hv (k H locs hI ls hl)
theorem g_iload_n (hB : gb X cc nL own ret) {kk : Fin 4} {i : Nat} {x : Int32} (hd : decode cc pc = .ok (.iload_n kk, 1)) (hi : (kk : Nat) = i) (hx : lv[i]? = some (some (.int x))) (k : gw X nL ce sl I (pc + 1) lv (.int x :: st) Q) : gw X nL ce sl I pc lv (st) Q := fun H locs hI ls hl => lv_iload_n hB.x hB.b hd hi (hl.2.2 _ _ hx) (k H locs hI ls hl)
theorem g_aload_n (hB : gb X cc nL own ret) {kk : Fin 4} {i : Nat} {x : Nat} (hd : decode cc pc = .ok (.aload_n kk, 1)) (hi : (kk : Nat) = i) (hx : lv[i]? = some (some (.ref x))) (k : gw X nL ce sl I (pc + 1) lv (.ref x :: st) Q) : gw X nL ce sl I pc lv (st) Q := fun H locs hI ls hl => lv_aload_n hB.x hB.b hd hi (hl.2.2 _ _ hx) (k H locs hI ls hl)
theorem g_istore_n (hB : gb X cc nL own ret) {kk : Fin 4} {i : Nat} {x : Int32} (hd : decode cc pc = .ok (.istore_n kk, 1)) (hi : (kk : Nat) = i) (hn : i < nL) (hk : fm_ok lv i = true) (k : gw X nL ce sl I (pc + 1) (lv.set i (some (.int x))) st Q) : gw X nL ce sl I pc lv (.int x :: st) Q := fun H locs hI ls hl => lv_istore_n hB.x hB.b hd hi (fm_has hl) hn rfl (fun ls' h' => k H locs hI ls' (fm_lv_1 hk h'))
theorem g_astore_n (hB : gb X cc nL own ret) {kk : Fin 4} {i : Nat} {x : Nat} (hd : decode cc pc = .ok (.astore_n kk, 1)) (hi : (kk : Nat) = i) (hn : i < nL) (hk : fm_ok lv i = true) (k : gw X nL ce sl I (pc + 1) (lv.set i (some (.ref x))) st Q) : gw X nL ce sl I pc lv (.ref x :: st) Q := fun H locs hI ls hl => lv_astore_n hB.x hB.b hd hi (fm_has hl) hn rfl (fun ls' h' => k H locs hI ls' (fm_lv_1 hk h'))
theorem g_iinc (hB : gb X cc nL own ret) {i : Nat} {n : Int} {x v : Int32} (hd : decode cc pc = .ok (.iinc i n, 3)) (hx : lv[i]? = some (some (.int x))) (hv : x + Int32.ofInt n = v) (hn : i < nL) (hk : fm_ok lv i = true) (k : gw X nL ce sl I (pc + 3) (lv.set i (some (.int v))) st Q) : gw X nL ce sl I pc lv st Q := fun H locs hI ls hl => by
  obtain ⟨q, hq⟩ := List.mem_iff_getElem?.mp (fm_pairs_in.mpr hx)
  exact lv_iinc hB.x hB.b hd (fm_has hl) hq hv hn rfl (fun ls' h' => k H locs hI ls' (fm_lv_1 hk h'))
theorem g_iadd (hB : gb X cc nL own ret) {x y : Int32} (hd : decode cc pc = .ok (.iadd, 1))  (k : gw X nL ce sl I (pc + 1) lv (.int (x + y) :: st) Q) : gw X nL ce sl I pc lv (.int y :: .int x :: st) Q := fun H locs hI ls hl => lv_iadd hB.x hB.b hd  (k H locs hI ls hl)
theorem g_isub (hB : gb X cc nL own ret) {x y : Int32} (hd : decode cc pc = .ok (.isub, 1))  (k : gw X nL ce sl I (pc + 1) lv (.int (x - y) :: st) Q) : gw X nL ce sl I pc lv (.int y :: .int x :: st) Q := fun H locs hI ls hl => lv_isub hB.x hB.b hd  (k H locs hI ls hl)
theorem g_iand (hB : gb X cc nL own ret) {x y : Int32} (hd : decode cc pc = .ok (.iand, 1))  (k : gw X nL ce sl I (pc + 1) lv (.int (x &&& y) :: st) Q) : gw X nL ce sl I pc lv (.int y :: .int x :: st) Q := fun H locs hI ls hl => lv_iand hB.x hB.b hd  (k H locs hI ls hl)
theorem g_land (hB : gb X cc nL own ret) {x y : Int64} (hd : decode cc pc = .ok (.land, 1))  (k : gw X nL ce sl I (pc + 1) lv (.long (x &&& y) :: st) Q) : gw X nL ce sl I pc lv (.long y :: .long x :: st) Q := fun H locs hI ls hl => lv_land hB.x hB.b hd  (k H locs hI ls hl)
theorem g_lor (hB : gb X cc nL own ret) {x y : Int64} (hd : decode cc pc = .ok (.lor, 1))  (k : gw X nL ce sl I (pc + 1) lv (.long (x ||| y) :: st) Q) : gw X nL ce sl I pc lv (.long y :: .long x :: st) Q := fun H locs hI ls hl => lv_lor hB.x hB.b hd  (k H locs hI ls hl)
theorem g_lshl (hB : gb X cc nL own ret) {x v : Int64} {y : Int32} (hd : decode cc pc = .ok (.lshl, 1)) (hv : x <<< (y.toInt64 &&& 63) = v) (k : gw X nL ce sl I (pc + 1) lv (.long v :: st) Q) : gw X nL ce sl I pc lv (.int y :: .long x :: st) Q := fun H locs hI ls hl => lv_lshl hB.x hB.b hd hv (k H locs hI ls hl)
theorem g_i2l (hB : gb X cc nL own ret) {x : Int32} {v : Int64} (hd : decode cc pc = .ok (.i2l, 1)) (hv : x.toInt64 = v) (k : gw X nL ce sl I (pc + 1) lv (.long v :: st) Q) : gw X nL ce sl I pc lv (.int x :: st) Q := fun H locs hI ls hl => lv_i2l hB.x hB.b hd hv (k H locs hI ls hl)
theorem g_lcmp (hB : gb X cc nL own ret) {x y : Int64} (hd : decode cc pc = .ok (.lcmp, 1))  (k : gw X nL ce sl I (pc + 1) lv (.int (lg_cmp x y) :: st) Q) : gw X nL ce sl I pc lv (.long y :: .long x :: st) Q := fun H locs hI ls hl => W.lcmp hB.x hB.b hd  (k H locs hI ls hl)
theorem g_dup (hB : gb X cc nL own ret) {va : Value} (hd : decode cc pc = .ok (.dup, 1)) (hc : va.category = 1) (k : gw X nL ce sl I (pc + 1) lv (va :: va :: st) Q) : gw X nL ce sl I pc lv (va :: st) Q := fun H locs hI ls hl => lv_dup hB.x hB.b hd hc (k H locs hI ls hl)
theorem g_if_eq (hB : gb X cc nL own ret) {x : Int32} {off : Int} {tgt : Nat} (hd : decode cc pc = .ok (.ifCond .eq off, 3)) (ht : (pc : Int) + off = (tgt : Int)) (kt : x = 0 → gw X nL ce sl I tgt lv st Q) (kf : ¬ (x = 0) → gw X nL ce sl I (pc + 3) lv st Q) : gw X nL ce sl I pc lv (.int x :: st) Q := fun H locs hI ls hl => lv_if_eq hB.x hB.b hd ht (fun h => kt (by first | exact h | simpa using h) H locs hI ls hl) (fun h => kf (by first | exact h | simpa using h) H locs hI ls hl)
theorem g_if_ne (hB : gb X cc nL own ret) {x : Int32} {off : Int} {tgt : Nat} (hd : decode cc pc = .ok (.ifCond .ne off, 3)) (ht : (pc : Int) + off = (tgt : Int)) (kt : ¬ x = 0 → gw X nL ce sl I tgt lv st Q) (kf : ¬ (¬ x = 0) → gw X nL ce sl I (pc + 3) lv st Q) : gw X nL ce sl I pc lv (.int x :: st) Q := fun H locs hI ls hl => lv_if_ne hB.x hB.b hd ht (fun h => kt (by first | exact h | simpa using h) H locs hI ls hl) (fun h => kf (by first | exact h | simpa using h) H locs hI ls hl)
theorem g_icmp_eq (hB : gb X cc nL own ret) {x y : Int32} {off : Int} {tgt : Nat} (hd : decode cc pc = .ok (.if_icmp .eq off, 3)) (ht : (pc : Int) + off = (tgt : Int)) (kt : x = y → gw X nL ce sl I tgt lv st Q) (kf : ¬ (x = y) → gw X nL ce sl I (pc + 3) lv st Q) : gw X nL ce sl I pc lv (.int y :: .int x :: st) Q := fun H locs hI ls hl => lv_icmp_eq hB.x hB.b hd ht (fun h => kt (by first | exact h | simpa using h) H locs hI ls hl) (fun h => kf (by first | exact h | simpa using h) H locs hI ls hl)
theorem g_icmp_ne (hB : gb X cc nL own ret) {x y : Int32} {off : Int} {tgt : Nat} (hd : decode cc pc = .ok (.if_icmp .ne off, 3)) (ht : (pc : Int) + off = (tgt : Int)) (kt : ¬ x = y → gw X nL ce sl I tgt lv st Q) (kf : ¬ (¬ x = y) → gw X nL ce sl I (pc + 3) lv st Q) : gw X nL ce sl I pc lv (.int y :: .int x :: st) Q := fun H locs hI ls hl => lv_icmp_ne hB.x hB.b hd ht (fun h => kt (by first | exact h | simpa using h) H locs hI ls hl) (fun h => kf (by first | exact h | simpa using h) H locs hI ls hl)
theorem g_icmp_ge (hB : gb X cc nL own ret) {x y : Int32} {off : Int} {tgt : Nat} (hd : decode cc pc = .ok (.if_icmp .ge off, 3)) (ht : (pc : Int) + off = (tgt : Int)) (kt : y ≤ x → gw X nL ce sl I tgt lv st Q) (kf : ¬ (y ≤ x) → gw X nL ce sl I (pc + 3) lv st Q) : gw X nL ce sl I pc lv (.int y :: .int x :: st) Q := fun H locs hI ls hl => lv_icmp_ge hB.x hB.b hd ht (fun h => kt (by first | exact h | simpa using h) H locs hI ls hl) (fun h => kf (by first | exact h | simpa using h) H locs hI ls hl)
theorem g_icmp_gt (hB : gb X cc nL own ret) {x y : Int32} {off : Int} {tgt : Nat} (hd : decode cc pc = .ok (.if_icmp .gt off, 3)) (ht : (pc : Int) + off = (tgt : Int)) (kt : y < x → gw X nL ce sl I tgt lv st Q) (kf : ¬ (y < x) → gw X nL ce sl I (pc + 3) lv st Q) : gw X nL ce sl I pc lv (.int y :: .int x :: st) Q := fun H locs hI ls hl => lv_icmp_gt hB.x hB.b hd ht (fun h => kt (by first | exact h | simpa using h) H locs hI ls hl) (fun h => kf (by first | exact h | simpa using h) H locs hI ls hl)
theorem g_goto (hB : gb X cc nL own ret) {off : Int} {tgt : Nat} (hd : decode cc pc = .ok (.goto off, 3)) (ht : (pc : Int) + off = (tgt : Int)) (k : gw X nL ce sl I tgt lv st Q) : gw X nL ce sl I pc lv st Q := fun H locs hI ls hl => lv_goto hB.x hB.b hd ht (k H locs hI ls hl)
theorem g_tableIn (hB : gb X cc nL own ret) {dflt lo hi : Int} {offs : Array Int} {len : Nat} {x : Int32} {off : Int} {tgt : Nat} (hd : decode cc pc = .ok (.tableswitch dflt lo hi offs, len)) (h1 : ¬ x.toInt < lo) (h2 : ¬ hi < x.toInt) (ho : offs[(x.toInt - lo).toNat]? = some off) (ht : (pc : Int) + off = (tgt : Int)) (k : gw X nL ce sl I tgt lv st Q) : gw X nL ce sl I pc lv (.int x :: st) Q := fun H locs hI ls hl => lv_tableIn hB.x hB.b hd h1 h2 ho ht (k H locs hI ls hl)
theorem g_tableOut (hB : gb X cc nL own ret) {dflt lo hi : Int} {offs : Array Int} {len : Nat} {x : Int32} {tgt : Nat} (hd : decode cc pc = .ok (.tableswitch dflt lo hi offs, len)) (h : x.toInt < lo ∨ hi < x.toInt) (ht : (pc : Int) + dflt = (tgt : Int)) (k : gw X nL ce sl I tgt lv st Q) : gw X nL ce sl I pc lv (.int x :: st) Q := fun H locs hI ls hl => lv_tableOut hB.x hB.b hd h ht (k H locs hI ls hl)
theorem g_ldc2 (hB : gb X cc nL own ret) {index : Nat} {v : Int64} (hd : decode cc pc = .ok (.ldc2_w index, 3)) (hc : Cond.constantLong own index v ∈ fm_tb) (k : gw X nL ce sl I (pc + 3) lv (.long v :: st) Q) : gw X nL ce sl I pc lv st Q := fun H locs hI ls hl => lv_ldc2 hB.x hB.b hB.ow (hB.tb _ hc) hd (k H locs hI ls hl)
/-- a world in the shape of cells, row by row -/
def rw_fs (rh : Nat → Nat) (M : fm_M) (k : Nat) : Nat → List (Option Nat) → List Value
  | _, [] => []
  | j, o :: l => fm_fv rh M k j o :: rw_fs rh M k (j + 1) l
def rw_e (rh : Nat → Nat) (kA : Nat → ClassId) (M : fm_M) (k : Nat) (x : fm_S) : Nat × va_E := match x with
  | .inl q => (rh k, .inr (q.1, rw_fs rh M k 0 q.2))
  | .inr q => (rh k, .inl (kA q.1, q.2, fm_ac rh M k q.1))
def rw_w (rh : Nat → Nat) (kA : Nat → ClassId) (M : fm_M) : Nat → List fm_S → va_W
  | _, [] => []
  | k, x :: l => rw_e rh kA M k x :: rw_w rh kA M (k + 1) l
theorem rw_fs_eq (rh : Nat → Nat) (M : fm_M) (k : Nat) : ∀ (l : List (Option Nat)) (j : Nat), rw_fs rh M k j l = l.mapIdx (fun i o => fm_fv rh M k (j + i) o) := by
  intro l
  induction l with
  | nil => intro j; rfl
  | cons o l ih =>
    intro j
    rw [rw_fs, List.mapIdx_cons, ih (j + 1), Nat.add_zero]
    congr 1
    apply List.ext_getElem?
    intro i
    rw [List.getElem?_mapIdx, List.getElem?_mapIdx, show j + 1 + i = j + (i + 1) by omega]
theorem rw_e_eq (rh : Nat → Nat) (kA : Nat → ClassId) (M : fm_M) (k : Nat) (x : fm_S) : rw_e rh kA M k x = fm_e rh kA M k x := by
  cases x with
  | inl q =>
    show (rh k, Sum.inr (q.1, rw_fs rh M k 0 q.2)) = (rh k, Sum.inr (q.1, q.2.mapIdx (fm_fv rh M k)))
    rw [rw_fs_eq]
    simp only [Nat.zero_add]
  | inr q => rfl
theorem rw_w_at (rh : Nat → Nat) (kA : Nat → ClassId) (M : fm_M) : ∀ (l : List fm_S) (k i : Nat), (rw_w rh kA M k l)[i]? = (l[i]?).map (fm_e rh kA M (k + i)) := by
  intro l
  induction l with
  | nil => intro k i; simp [rw_w]
  | cons x l ih =>
    intro k i
    cases i with
    | zero => simp [rw_w, rw_e_eq]
    | succ i => simp only [rw_w, List.getElem?_cons_succ, ih, show k + 1 + i = k + (i + 1) by omega]
theorem rw_w_eq (rh : Nat → Nat) (kA : Nat → ClassId) (M : fm_M) (l : List fm_S) : rw_w rh kA M 0 l = fm_w l rh kA M := by
  apply List.ext_getElem?
  intro i
  rw [rw_w_at]
  unfold fm_w
  rw [List.getElem?_mapIdx, Nat.zero_add]
/-- the world ws, its cells apart -/
def iw (X : fm_X) (ws : va_W) : Heap → List Loc → Prop := fun H locs => va_P (fm_Dg X) vwCl ws H ∧ va_D (fm_A X) ws ∧ va_S (fm_A X) (fm_s X).heap H locs
def gk_N (own : String) (idx ci n : Nat) (fs : List Value) : Prop := ∃ (C : String) (T : u_T) (ty : Nat → FieldType), vwCl[ci]? = some (C, T, n) ∧ (∀ w ∈ u_ws C T n, w ∈ fm_tb) ∧ (∀ k, k < n → parseFieldDescriptor (T k).2.2.1 = some (ty k)) ∧ Cond.classLink own idx C ∈ fm_tb ∧ Cond.instantiable C n ∈ fm_tb ∧ Cond.initialized C ∈ fm_tb ∧ ∀ j, j < n → defaultValue (ty j) = vp_V fs j
theorem g_new (hB : gb X cc nL own ret) {idx ci n : Nat} {fs : List Value} {ws : va_W} (hd : decode cc pc = .ok (.new idx, 3)) (hf : gk_N own idx ci n fs) (hc : ce + 1 ≤ (fm_R X).cells ∧ sl + n ≤ (fm_R X).slots) (k : ∀ q : Nat, gw X nL (ce + 1) (sl + n) (iw X (ws ++ [(q, .inr (ci, fs))])) (pc + 3) lv (.ref q :: st) Q) : gw X nL ce sl (iw X ws) pc lv st Q := fun H locs hI ls hl => by
  obtain ⟨hP, hD, hS⟩ := hI
  obtain ⟨C, T, ty, h1, h2, h3, h4, h5, h6, h7⟩ := hf
  exact va_new hB.x hB.b hB.tb h2 ty h3 hB.ow (hB.tb _ h4) (hB.tb _ h5) (hB.tb _ h6) hB.K hP hD hS hB.A h1 h7 hc.1 hc.2 hd (fun q H1 hP1 hD1 hS1 => k q H1 locs ⟨hP1, hD1, hS1⟩ ls hl)
theorem wa_0 : Cond.arrayClass .int ∈ fm_tb := fm_at 153 (by decide +kernel) (by decide +kernel)
theorem wa_1 : Cond.arrayClass .long ∈ fm_tb := fm_at 154 (by decide +kernel) (by decide +kernel)
theorem wa_2 : Cond.arrayClass .byte ∈ fm_tb := fm_at 277 (by decide +kernel) (by decide +kernel)
theorem wa_3 : Cond.arrayClass .boolean ∈ fm_tb := fm_at 909 (by decide +kernel) (by decide +kernel)
theorem g_newI (hB : gb X cc nL own ret) {n : Int32} {ws : va_W} (N : Nat) (hd : decode cc pc = .ok (.newarray .int, 2)) (hn : n = nI N) (hN : N ≤ 1000) (hc : ce + 1 ≤ (fm_R X).cells ∧ sl + N ≤ (fm_R X).slots) (k : ∀ q : Nat, gw X nL (ce + 1) (sl + N) (iw X (ws ++ [(q, .inl (fm_kA X 0, N, .inl (fun _ => 0)))])) (pc + 2) lv (.ref q :: st) Q) : gw X nL ce sl (iw X ws) pc lv (.int n :: st) Q := fun H locs hI ls hl => by
  obtain ⟨hP, hD, hS⟩ := hI
  subst hn
  refine va_newa (atype := .int) (ty := .int) (a0 := (N, .inl (fun _ => 0))) hB.x hB.b (hB.tb _ wa_0) rfl hB.K hP hD hS hB.A (fun cA => rfl) (nI_pos (by omega)) (nI_clamp (by omega)) (by show N * 4 ≤ 536870912; omega) hc.1 hc.2 hd (fun q cA H1 hK1 hP1 hD1 hS1 => ?_)
  have a1 : (fm_s X).vm.findClass ("[" ++ FieldType.int.toString) = some cA := (hK1.2 5 (cA, .int) rfl).2
  have a2 : (fm_s X).vm.findClass ("[" ++ FieldType.int.toString) = some (fm_kA X 0) := (hB.K.2 0 (fm_kA X 0, .int) rfl).2
  have e : cA = fm_kA X 0 := Option.some.inj (a1.symm.trans a2)
  rw [e] at hP1 hD1
  exact k q H1 locs ⟨hP1, hD1, hS1⟩ ls hl
theorem g_newL (hB : gb X cc nL own ret) {n : Int32} {ws : va_W} (N : Nat) (hd : decode cc pc = .ok (.newarray .long, 2)) (hn : n = nI N) (hN : N ≤ 1000) (hc : ce + 1 ≤ (fm_R X).cells ∧ sl + N ≤ (fm_R X).slots) (k : ∀ q : Nat, gw X nL (ce + 1) (sl + N) (iw X (ws ++ [(q, .inl (fm_kA X 1, N, .inr (.inl (fun _ => 0))))])) (pc + 2) lv (.ref q :: st) Q) : gw X nL ce sl (iw X ws) pc lv (.int n :: st) Q := fun H locs hI ls hl => by
  obtain ⟨hP, hD, hS⟩ := hI
  subst hn
  refine va_newa (atype := .long) (ty := .long) (a0 := (N, .inr (.inl (fun _ => 0)))) hB.x hB.b (hB.tb _ wa_1) rfl hB.K hP hD hS hB.A (fun cA => rfl) (nI_pos (by omega)) (nI_clamp (by omega)) (by show N * 8 ≤ 536870912; omega) hc.1 hc.2 hd (fun q cA H1 hK1 hP1 hD1 hS1 => ?_)
  have a1 : (fm_s X).vm.findClass ("[" ++ FieldType.long.toString) = some cA := (hK1.2 5 (cA, .long) rfl).2
  have a2 : (fm_s X).vm.findClass ("[" ++ FieldType.long.toString) = some (fm_kA X 1) := (hB.K.2 1 (fm_kA X 1, .long) rfl).2
  have e : cA = fm_kA X 1 := Option.some.inj (a1.symm.trans a2)
  rw [e] at hP1 hD1
  exact k q H1 locs ⟨hP1, hD1, hS1⟩ ls hl
theorem g_newB (hB : gb X cc nL own ret) {n : Int32} {ws : va_W} (N : Nat) (hd : decode cc pc = .ok (.newarray .byte, 2)) (hn : n = nI N) (hN : N ≤ 1000) (hc : ce + 1 ≤ (fm_R X).cells ∧ sl + N ≤ (fm_R X).slots) (k : ∀ q : Nat, gw X nL (ce + 1) (sl + N) (iw X (ws ++ [(q, .inl (fm_kA X 2, N, .inl (fun _ => 0)))])) (pc + 2) lv (.ref q :: st) Q) : gw X nL ce sl (iw X ws) pc lv (.int n :: st) Q := fun H locs hI ls hl => by
  obtain ⟨hP, hD, hS⟩ := hI
  subst hn
  refine va_newa (atype := .byte) (ty := .byte) (a0 := (N, .inl (fun _ => 0))) hB.x hB.b (hB.tb _ wa_2) rfl hB.K hP hD hS hB.A (fun cA => rfl) (nI_pos (by omega)) (nI_clamp (by omega)) (by show N * 1 ≤ 536870912; omega) hc.1 hc.2 hd (fun q cA H1 hK1 hP1 hD1 hS1 => ?_)
  have a1 : (fm_s X).vm.findClass ("[" ++ FieldType.byte.toString) = some cA := (hK1.2 5 (cA, .byte) rfl).2
  have a2 : (fm_s X).vm.findClass ("[" ++ FieldType.byte.toString) = some (fm_kA X 2) := (hB.K.2 2 (fm_kA X 2, .byte) rfl).2
  have e : cA = fm_kA X 2 := Option.some.inj (a1.symm.trans a2)
  rw [e] at hP1 hD1
  exact k q H1 locs ⟨hP1, hD1, hS1⟩ ls hl
theorem g_newZ (hB : gb X cc nL own ret) {n : Int32} {ws : va_W} (N : Nat) (hd : decode cc pc = .ok (.newarray .boolean, 2)) (hn : n = nI N) (hN : N ≤ 1000) (hc : ce + 1 ≤ (fm_R X).cells ∧ sl + N ≤ (fm_R X).slots) (k : ∀ q : Nat, gw X nL (ce + 1) (sl + N) (iw X (ws ++ [(q, .inl (fm_kA X 3, N, .inl (fun _ => 0)))])) (pc + 2) lv (.ref q :: st) Q) : gw X nL ce sl (iw X ws) pc lv (.int n :: st) Q := fun H locs hI ls hl => by
  obtain ⟨hP, hD, hS⟩ := hI
  subst hn
  refine va_newa (atype := .boolean) (ty := .boolean) (a0 := (N, .inl (fun _ => 0))) hB.x hB.b (hB.tb _ wa_3) rfl hB.K hP hD hS hB.A (fun cA => rfl) (nI_pos (by omega)) (nI_clamp (by omega)) (by show N * 1 ≤ 536870912; omega) hc.1 hc.2 hd (fun q cA H1 hK1 hP1 hD1 hS1 => ?_)
  have a1 : (fm_s X).vm.findClass ("[" ++ FieldType.boolean.toString) = some cA := (hK1.2 5 (cA, .boolean) rfl).2
  have a2 : (fm_s X).vm.findClass ("[" ++ FieldType.boolean.toString) = some (fm_kA X 3) := (hB.K.2 3 (fm_kA X 3, .boolean) rfl).2
  have e : cA = fm_kA X 3 := Option.some.inj (a1.symm.trans a2)
  rw [e] at hP1 hD1
  exact k q H1 locs ⟨hP1, hD1, hS1⟩ ls hl
theorem g_newT (hB : gb X cc nL own ret) {idx : Nat} {n : Int32} {ws : va_W} (N : Nat) (hd : decode cc pc = .ok (.anewarray idx, 3)) (hf : Cond.classLink own idx "FaultGraph$Tape" ∈ fm_tb) (hn : n = nI N) (hN : N ≤ 1000) (hc : ce + 1 ≤ (fm_R X).cells ∧ sl + N ≤ (fm_R X).slots) (k : ∀ q : Nat, gw X nL (ce + 1) (sl + N) (iw X (ws ++ [(q, .inl (fm_kA X 4, N, .inr (.inr (.inr (.inr (fun _ => none))))))])) (pc + 3) lv (.ref q :: st) Q) : gw X nL ce sl (iw X ws) pc lv (.int n :: st) Q := fun H locs hI ls hl => by
  obtain ⟨hP, hD, hS⟩ := hI
  subst hn
  refine va_newq hB.x hB.b hB.ow (hB.tb _ hf) hB.N.2 hB.K hP hD hS hB.A (nI_pos (by omega)) (nI_clamp (by omega)) (by omega) hc.1 hc.2 hd (fun q cA H1 hK1 hP1 hD1 hS1 => ?_)
  obtain ⟨kA1, c1, -, -, -, a1⟩ := (hK1.2 5 (cA, .object "FaultGraph$Tape") rfl).2
  obtain ⟨kA2, c2, -, -, -, a2⟩ := (hB.K.2 4 (fm_kA X 4, .object "FaultGraph$Tape") rfl).2
  have e : cA = fm_kA X 4 := Option.some.inj (a1.symm.trans a2)
  rw [e] at hP1 hD1
  exact k q H1 locs ⟨hP1, hD1, hS1⟩ ls hl
def gk_P (own : String) (idx ci j : Nat) (fin : Bool) (ty : FieldType) : Prop := ∃ (C : String) (T : u_T) (N : Nat) (ty0 : Nat → FieldType), vwCl[ci]? = some (C, T, N) ∧ (∀ w ∈ u_ws C T N, w ∈ fm_tb) ∧ j < N ∧ Cond.fieldLink own idx (T j).1 (T j).2.1 (T j).2.2.1 ∈ fm_tb ∧ (∀ k, k < N → parseFieldDescriptor (T k).2.2.1 = some (ty0 k)) ∧ (∀ a, a < N → ∀ b, b < N → a ≠ b → (T a).2.1 ≠ (T b).2.1) ∧ (T j).2.2.2 = fin ∧ parseFieldDescriptor (T j).2.2.1 = some ty ∧ (T j).1 = own
theorem g_putF (hB : gb X cc nL own ret) (hin : (fm_me X).name = "<init>") {idx ci j h0 : Nat} {ty : FieldType} {v : Value} {fs : List Value} {ws : va_W} (hd : decode cc pc = .ok (.putfield idx, 3)) (hf : gk_P own idx ci j true ty) (hn : narrow ty v = v) (hfit : fits ty v = true) (hl0 : j < fs.length) (k : gw X nL ce sl (iw X ((h0, .inr (ci, fs.set j v)) :: ws)) (pc + 3) lv st Q) : gw X nL ce sl (iw X ((h0, .inr (ci, fs)) :: ws)) pc lv (v :: .ref h0 :: st) Q := fun H locs hI ls hl => by
  obtain ⟨hP, hD, hS⟩ := hI
  obtain ⟨C, T, N, ty0, h1, h2, h3, h4, h5, h6, h7, h8, h9⟩ := hf
  exact va_putF hB.x hB.b hB.tb h2 ty0 h5 h6 hB.ow hB.K hP hD hS 0 rfl h1 j h3 (hB.tb _ h4) (fun _ h => h) h7 hin h9 h8 hn hfit hl0 hd (fun H1 locs1 hP1 hD1 hS1 => k H1 locs1 ⟨hP1, hD1, hS1⟩ ls hl)
theorem g_putN (hB : gb X cc nL own ret) {idx ci j h0 : Nat} {ty : FieldType} {v : Value} {fs : List Value} {ws : va_W} (hd : decode cc pc = .ok (.putfield idx, 3)) (hf : gk_P own idx ci j false ty) (hn : narrow ty v = v) (hfit : fits ty v = true) (hl0 : j < fs.length) (k : gw X nL ce sl (iw X ((h0, .inr (ci, fs.set j v)) :: ws)) (pc + 3) lv st Q) : gw X nL ce sl (iw X ((h0, .inr (ci, fs)) :: ws)) pc lv (v :: .ref h0 :: st) Q := fun H locs hI ls hl => by
  obtain ⟨hP, hD, hS⟩ := hI
  obtain ⟨C, T, N, ty0, h1, h2, h3, h4, h5, h6, h7, h8, h9⟩ := hf
  exact va_put hB.x hB.b hB.tb h2 ty0 h5 h6 hB.ow hB.K hP hD hS 0 rfl h1 j h3 (hB.tb _ h4) (fun _ h => h) h7 h8 hn hfit hl0 hd (fun H1 locs1 hP1 hD1 hS1 => k H1 locs1 ⟨hP1, hD1, hS1⟩ ls hl)
theorem g_get (hB : gb X cc nL own ret) {idx ci j h0 : Nat} {v : Value} {fs : List Value} {ws : va_W} (hd : decode cc pc = .ok (.getfield idx, 3)) (hf : fm_lkF own idx ci j) (hv : fs[j]? = some v) (k : gw X nL ce sl (iw X ((h0, .inr (ci, fs)) :: ws)) (pc + 3) lv (v :: st) Q) : gw X nL ce sl (iw X ((h0, .inr (ci, fs)) :: ws)) pc lv (.ref h0 :: st) Q := fun H locs hI ls hl => by
  obtain ⟨C, T, N, h1, h2, h3, h4⟩ := hf
  exact va_get (tys := fm_tys (fm_kA X)) hB.x hB.b hB.tb h2 hB.ow hB.K hI.1 0 rfl h1 j h3 (hB.tb _ h4) (fun _ h => h) hv hd (k H locs hI ls hl)
theorem g_iast (hB : gb X cc nL own ret) {q0 a n : Nat} {f : Nat → Int32} {i x : Int32} {ws : va_W} (A : Nat) (hd : decode cc pc = .ok (.iastore, 1)) (ha : ws[q0]? = some (a, .inl (fm_kA X 0, n, .inl f))) (hi : i = nI A) (hA : A < n) (hn : n < 2 ^ 31) (k : gw X nL ce sl (iw X (ws.set q0 (a, .inl (fm_kA X 0, n, .inl (upd f A x))))) (pc + 1) lv st Q) : gw X nL ce sl (iw X ws) pc lv (.int x :: .int i :: .ref a :: st) Q := fun H locs hI ls hl => by
  obtain ⟨hP, hD, hS⟩ := hI
  subst hi
  have h1 := va_iast (p := fm_p X) (l := fm_l X) (e := fm_en X) (R := fm_R X) (m := fm_m X) (args := fm_ar X) (below := fm_bl X) (meth := fm_me X) (cells := ce) (slots := sl) (Q := Q) (ls := ls) (rest := st) (x := x) (D := fm_Dg X) (tys := fm_tys (fm_kA X)) hB.x hB.b hB.K hP hD hS q0 0 ha rfl (vp_in_nI hA hn) hd
  rw [nI_clamp (Nat.lt_trans hA hn)] at h1
  exact h1 (fun H1 locs1 hP1 hD1 hS1 => k H1 locs1 ⟨hP1, hD1, hS1⟩ ls hl)
theorem g_aast (hB : gb X cc nL own ret) {q0 qk a n v : Nat} {f : Nat → Option Nat} {vs : List Value} {i : Int32} {ws : va_W} (A : Nat) (hd : decode cc pc = .ok (.aastore, 1)) (ha : ws[q0]? = some (a, .inl (fm_kA X 4, n, .inr (.inr (.inr (.inr f)))))) (hv : ws[qk]? = some (v, .inr (7, vs))) (hi : i = nI A) (hA : A < n) (hn : n < 2 ^ 31) (k : gw X nL ce sl (iw X (ws.set q0 (a, .inl (fm_kA X 4, n, .inr (.inr (.inr (.inr (va_up f A (some v))))))))) (pc + 1) lv st Q) : gw X nL ce sl (iw X ws) pc lv (.ref v :: .int i :: .ref a :: st) Q := fun H locs hI ls hl => by
  obtain ⟨hP, hD, hS⟩ := hI
  subst hi
  have h1 := va_astq (p := fm_p X) (l := fm_l X) (e := fm_en X) (R := fm_R X) (m := fm_m X) (args := fm_ar X) (below := fm_bl X) (meth := fm_me X) (cells := ce) (slots := sl) (Q := Q) (ls := ls) (rest := st) (D := fm_Dg X) (tys := fm_tys (fm_kA X)) (r := (RX7, TX7, 3)) hB.x hB.b hB.K hP hD hS q0 4 qk 7 ha rfl hv rfl (vp_in_nI hA hn) hd
  rw [nI_clamp (Nat.lt_trans hA hn)] at h1
  exact h1 (fun H1 locs1 hP1 hD1 hS1 => k H1 locs1 ⟨hP1, hD1, hS1⟩ ls hl)
theorem wo_i : Cond.instanceMethod Lib.objectInit ∈ fm_tb := fm_at 79 (by decide +kernel) (by decide +kernel)
theorem wo_c : Cond.code Lib.objectInit ⟨#[0xb1]⟩ 1 none ∈ fm_tb := fm_at 80 (by decide +kernel) (by decide +kernel)
theorem g_obj (hB : gb X cc nL own ret) {idx a : Nat} (hd : decode cc pc = .ok (.invokespecial idx, 3)) (hf : Cond.methodLink own idx Lib.objectInit ∈ fm_tb) (hR : 1 ≤ (fm_R X).frames ∧ 12 ≤ (fm_R X).locals) (k : gw X nL ce sl I (pc + 3) lv [] Q) : gw X nL ce sl I pc lv [.ref a] Q := fun H locs hI ls hl =>
  W.objInit hB.x hB.b hB.ow (hB.tb _ hf) (hB.tb _ wo_i) (hB.tb _ wo_c) rfl (by rw [hB.ml]; exact hl.2.1) rfl hd hR.1 hR.2 (k H locs hI ls hl)
theorem g_max (hB : gb X cc nL own ret) {idx : Nat} {x y : Int32} (hd : decode cc pc = .ok (.invokestatic idx, 3)) (h1 : Cond.methodLink own idx Lib.Math.max.name ∈ fm_tb) (h2 : Cond.static Lib.Math.max.name ∈ fm_tb) (h3 : Cond.initialized "java/lang/Math" ∈ fm_tb) (h4 : Cond.code Lib.Math.max.name Lib.Math.max.code 2 (some .int) ∈ fm_tb) (hcat : (st.map fun v => v.category).sum ≤ 8) (hR : 1 ≤ (fm_R X).frames ∧ 21 ≤ (fm_R X).locals) (kk : gw X nL ce sl I (pc + 3) lv (.int (if x < y then y else x) :: st) Q) (hc : ce ≤ (fm_R X).cells ∧ sl ≤ (fm_R X).slots) : gw X nL ce sl I pc lv (.int y :: .int x :: st) Q := fun H locs hI ls hl =>
  va_mmax hB.x hB.b (by rw [hB.ml, hl.2.1]) hB.ow (hB.tb _ h1) (hB.tb _ h2) (hB.tb _ h3) (hB.tb _ h4) hR.1 (Nat.le_trans (Nat.add_le_add_right hcat 13) hR.2) hc.1 hc.2 hd (kk H locs hI ls hl)
/-- a constructor's contract: h0 is its object, as it was made; behind it the object and the cells that it made, in shape, with the memory M -/
def gR (h nc ns : Nat) : Room := { frames := h, cells := nc, slots := ns, locals := 64 * h }
def gPc (kA : Nat → ClassId) (D : va_G) (ci h0 sz : Nat) (fs As : List Value) : Array Value → State → Prop := va_Pc (.ref h0 :: As) (fun U => U.heap.size = sz ∧ va_P D vwCl [(h0, .inr (ci, fs))] U.heap ∧ va_K D vwCl (fm_tys kA) U ∧ gN U)
def gA (h0 sz : Nat) : Nat → Prop := fun q => q = h0 ∨ sz ≤ q
def gQc (kA : Nat → ClassId) (D : va_G) (A : Nat → Prop) (h0 : Nat) (sh : List fm_S) (M : fm_M) : Array Value → State → Outcome → State → Prop := fun _ st oc t => (oc = .returned none ∧ ∃ rh : Nat → Nat, rh 0 = h0 ∧ va_P D vwCl (rw_w rh kA M 0 sh) t.heap ∧ va_D A (rw_w rh kA M 0 sh)) ∧ va_F A st t
def gk (l : Launch) (kA : Nat → ClassId) (D : va_G) (mt : MethodName × ByteArray × Nat × Option FieldType) (h nc ns ci : Nat) (fs As : List Value) (sh : List fm_S) (M : fm_M) : Prop :=
  ∀ h0 sz : Nat, Met l mt.1 (fm_ws mt.1 mt.2.1 mt.2.2.1 mt.2.2.2) (gR h nc ns) (gPc kA D ci h0 sz fs As) (gQc kA D (gA h0 sz) h0 sh M) nc ns (gA h0 sz)
def gQ (X : fm_X) (h0 nc ns : Nat) (sh : List fm_S) (M : fm_M) : State → Prop := MQ (fm_bl X) (gQc (fm_kA X) (fm_Dg X) (fm_A X) h0 sh M) (fm_ar X) (fm_s X) nc ns (fm_A X)
theorem gk.of {l : Launch} {kA : Nat → ClassId} {D : va_G} {y : MethodName} {n h nc ns ci : Nat} {fs As : List Value} {sh : List fm_S} {M : fm_M} (hy : plainName y.cls = true) (hyn : y.name = "<init>") (hla : (lg_sl (.ref 0 :: As)).length ≤ n)
    (body : ∀ (X : fm_X) (h0 : Nat), fm_l X = l → fm_kA X = kA → fm_Dg X = D → fm_R X = gR h nc ns → (fm_me X).name = "<init>" → gb X cc n y.cls none → gw X n 0 0 (iw X [(h0, .inr (ci, fs))]) 0 (fm_l0 (.ref h0 :: As)) [] (gQ X h0 nc ns sh M)) : gk l kA D (y, cc, n, none) h nc ns ci fs As sh M := by
  intro h0 sz
  refine Met.ofW (cc := cc) (maxL := n) (ret := none) hy rfl ?_
  intro p e s m args below meth c s₁ B hml hv
  obtain ⟨rfl, hsz, hP, hK, hN⟩ := hv
  have hts := atoms_spec (ws := fm_ws y cc n none) B.pre
  have hown : s.vm.findClass y.cls = some m.cls := findClass_of_methodNamed B.named
  have hin : meth.name = "<init>" := (name_of_methodNamed B.named B.method).1.trans hyn
  subst hsz
  have hla : (lg_sl (.ref h0 :: As)).length ≤ n := hla
  have hl0 := lv_entry (.ref h0 :: As) (n := n) hla
  rw [lg_entry_eq]
  generalize (lg_sl (.ref h0 :: As) ++ List.replicate (n - (lg_sl (.ref h0 :: As)).length) Slot.unset).toArray = ls at hl0 ⊢
  have hb := body (p, l, e, gR h nc ns, s, m, (Value.ref h0 :: As).toArray, below, meth, c, fun _ => 0, kA, D, gA h0 s.heap.size) h0 rfl rfl rfl rfl hin
    ⟨B.exec, B.bytes, hml, hown, fun w hw => hts w (List.mem_cons_of_mem _ hw), B.returns, B.notSynchronized, hK, fun q hq => Or.inr hq, hN⟩
  refine hb s.heap [] ⟨hP, ⟨fun i j x y hx hy _ => ?_, fun k q hk => ?_⟩, va_S.rf⟩ ls ⟨hl0.2.1, hl0.1, fun i v hi => hl0.2.2 (i, v) (by have := fm_l0_in (.ref h0 :: As) 0 i v hi; simpa using this)⟩
  · have h1 := (List.getElem?_eq_some_iff.mp hx).1
    have h2 := (List.getElem?_eq_some_iff.mp hy).1
    simp at h1 h2
    omega
  · have h1 := (List.getElem?_eq_some_iff.mp hk).1
    have h2 : k = 0 := by simp at h1; omega
    subst h2
    have h3 := Option.some.inj hk
    rw [← h3]
    exact Or.inl rfl
theorem g_ret {h0 : Nat} {ws : va_W} {sh : List fm_S} {M : fm_M} (hB : gb X cc nL own none) (rh : Nat → Nat) (hd : decode cc pc = .ok (.return_, 1)) (h0e : rh 0 = h0) (hw : ws = rw_w rh (fm_kA X) M 0 sh) : gw X nL ce sl (iw X ws) pc lv [] (gQ X h0 ce sl sh M) := fun H locs hI ls hl => by
  obtain ⟨hP, hD, hS⟩ := hI
  subst hw
  exact W.vret hB.x hB.b hB.re (fun t ht _ => ⟨⟨rfl, rh, h0e, by rw [ht]; exact hP, hD⟩, hS.F ht⟩) hS.2.2 hd hB.lk
theorem g_blind {kA : Nat → ClassId} {D : va_G} {ci h0 sz : Nat} {fs As : List Value} : FrameBlind (gPc kA D ci h0 sz fs As) := by
  intro a U g mk h
  obtain ⟨h1, h2, h3, h4, h5⟩ := h
  exact ⟨h1, h2, h3, va_K.moved (u := U) (U := U.calling g mk a) (Vm.Alike.refl U.vm) h4, gN.same (u := U) (U := U.calling g mk a) rfl h5⟩
theorem g_core (hB : gb X cc nL own ret) {q nc ns : Nat} {ci : Nat} {fs : List Value} {sh : List fm_S} {M : fm_M} {pre : va_W} {rest st0 : List Value} {a : Array Value} {H : Heap} {locs : List Loc} {ls : Array Slot} (hI : iw X (pre ++ [(q, .inr (ci, fs))]) H locs) (hl : fm_lv ls nL lv)
    (hr : va_Run (fm_p X) (fm_l X) (fm_en X) (fm_R X) (fm_s X) (fm_m X) (fm_ar X) (fm_bl X) (fm_me X) (fm_c X) H locs ce sl nc ns (F0 (fm_m X) pc ls st0) rest (gQc (fm_kA X) (fm_Dg X) (gA q H.size) q sh M a) (gA q H.size))
    (k : ∀ rh : Nat → Nat, rh 0 = q → gw X nL (ce + nc) (sl + ns) (iw X (pre ++ rw_w rh (fm_kA X) M 0 sh)) (pc + 3) lv rest Q) : W (fm_p X) (fm_l X) (fm_en X) (fm_R X) (fm_s X) (fm_m X) (fm_ar X) (fm_bl X) (fm_me X) (fm_c X) H locs ce sl Q (F0 (fm_m X) pc ls st0) := by
  intro T hT Xs
  obtain ⟨hP, hD, hS⟩ := hI
  obtain ⟨v, st₀, t, T', L, h0, X', hL, e1, e2, ⟨⟨hv, rh, hr0, hPb, hDb⟩, hz, hk⟩, stp⟩ := hr T hT Xs
  cases hv
  rw [h0] at hz hk
  have hlast : (pre ++ [(q, (Sum.inr (ci, fs) : va_E))])[pre.length]? = some (q, Sum.inr (ci, fs)) := by simp
  have hAq : fm_A X q := hD.2 pre.length _ hlast
  have hsub : ∀ z, gA q H.size z → fm_A X z := fun z hz2 => by
    rcases hz2 with rfl | h
    · exact hAq
    · exact hB.A z (Nat.le_trans hS.1 h)
  have hpre : ∀ (i : Nat) (x : Nat × va_E), pre[i]? = some x → (pre ++ [(q, (Sum.inr (ci, fs) : va_E))])[i]? = some x ∧ ¬ gA q H.size x.1 ∧ x.1 < H.size := fun i x hx => by
    have hi := (List.getElem?_eq_some_iff.mp hx).1
    have h1 : (pre ++ [(q, (Sum.inr (ci, fs) : va_E))])[i]? = some x := by rw [List.getElem?_append_left hi]; exact hx
    have h2 := (hP i x h1).lt
    refine ⟨h1, fun h => ?_, h2⟩
    rcases h with h | h
    · have := hD.1 i pre.length x _ h1 hlast h
      omega
    · omega
  have hP2 : va_P (fm_Dg X) vwCl (pre ++ rw_w rh (fm_kA X) M 0 sh) T'.heap := va_P.app (fun i x hx => by
    obtain ⟨g1, g2, g3⟩ := hpre i x hx
    exact (hP i x g1).kept (by rw [e1]; exact hk x.1 g3 g2)) (by rw [e1]; exact hPb)
  have hD2 : va_D (fm_A X) (pre ++ rw_w rh (fm_kA X) M 0 sh) := va_D.app ⟨fun i j x y hx hy e => hD.1 i j x y (hpre i x hx).1 (hpre j y hy).1 e, fun i x hx => hD.2 i x (hpre i x hx).1⟩ (hDb.weaken (fun _ x _ h => hsub x.1 h)) (fun i j x y hx hy e => (hpre i x hx).2.1 (by rw [e]; exact hDb.2 j y hy))
  obtain ⟨t2, a1, b1⟩ := k rh hr0 T'.heap (locs ++ L) ⟨hP2, hD2, ⟨Nat.le_trans hS.1 (by rw [e1]; exact hz), fun z h1 h2 => by
      rw [e1, hk z (Nat.lt_of_lt_of_le h1 hS.1) (fun w => h2 (hsub z w))]
      exact hS.2.1 z h1 h2, fun z hz2 => by
      rcases List.mem_append.mp hz2 with h | h
      · exact hS.2.2 z h
      · exact hsub _ (hL z h)⟩⟩ ls hl T' rfl X'
  exact ⟨t2, stp t2 a1, b1⟩
def gk_W (mt : MethodName × ByteArray × Nat × Option FieldType) (nA : Nat) : Prop := Cond.initialized mt.1.cls ∈ fm_tb ∧ Cond.code mt.1 mt.2.1 mt.2.2.1 none ∈ fm_tb ∧ Cond.instanceMethod mt.1 ∈ fm_tb ∧ mt.1.name = "<init>" ∧ mt.2.2.2 = none ∧ (mt.1.cls ≠ "java/lang/invoke/MethodHandle" ∧ mt.1.cls ≠ "java/lang/invoke/VarHandle" ∧ (parseMethodDescriptor mt.1.desc).map (fun d => d.parameters.length) = some nA)
theorem g_pre (hB : gb X cc nL own ret) {q ci : Nat} {fs As : List Value} {pre : va_W} {H : Heap} {locs : List Loc} (hI : iw X (pre ++ [(q, .inr (ci, fs))]) H locs) : ∀ U : State, U.heap = H → (fm_s X).WarmedH U.vm → gPc (fm_kA X) (fm_Dg X) ci q H.size fs As (Value.ref q :: As).toArray U := by
  intro U hU hW
  refine ⟨rfl, by rw [hU], fun i x hx => ?_, va_K.moved hW.alike hB.K, hB.N.warm hW⟩
  rw [hU]
  have h1 := (List.getElem?_eq_some_iff.mp hx).1
  have h2 : i = 0 := by simp at h1; omega
  subst h2
  exact hI.1 pre.length x (by rw [List.getElem?_append_right (Nat.le_refl _), Nat.sub_self]; exact hx)
theorem g_initN (hB : gb X cc nL own ret) {idx nA h nc ns ci q : Nat} {fs As rest : List Value} {sh : List fm_S} {M : fm_M} {y : MethodName} {cy : ByteArray} {ny : Nat} {pre : va_W} (hd : decode cc pc = .ok (.invokespecial idx, 3)) (hf : (own, idx, y) ∈ gn_l) (hw : gk_W (y, cy, ny, none) nA) (hC : gk (fm_l X) (fm_kA X) (fm_Dg X) (y, cy, ny, none) h nc ns ci fs As sh M) (hA : As.length = nA) (hst : st = As.reverse ++ .ref q :: rest) (hcat : (rest.map fun v => v.category).sum ≤ 8) (hR : h + 1 ≤ (fm_R X).frames ∧ 8 + (ny + 11) + 64 * h ≤ (fm_R X).locals) (hc : ce + nc ≤ (fm_R X).cells ∧ sl + ns ≤ (fm_R X).slots)
    (k : ∀ rh : Nat → Nat, rh 0 = q → gw X nL (ce + nc) (sl + ns) (iw X (pre ++ rw_w rh (fm_kA X) M 0 sh)) (pc + 3) lv rest Q) : gw X nL ce sl (iw X (pre ++ [(q, .inr (ci, fs))])) pc lv st Q := fun H locs hI ls hl => by
  subst hst
  obtain ⟨w1, w2, w3, w4, -, w5⟩ := hw
  exact g_core hB hI hl (va_runIN (cc := cc) (nL := nL) (own := own) (Ts := fm_tb) (As := As) (rest := rest) (b := q) (n := nA) ⟨hB.x, hB.b, hB.ml, hB.ow, hB.tb⟩ (hC q H.size) ⟨va_cnB nA hB.tb (fm_good w2) rfl rfl rfl (hB.N.1 _ hf) (hB.tb _ w1) w5 hR, w4, hB.tb _ w3⟩ ⟨g_blind, g_pre hB hI⟩ rfl hA hl.2.1 rfl (lv_room hcat) hd hc) k
theorem g_initI (hB : gb X cc nL own ret) {idx nA h nc ns ci q : Nat} {fs As rest : List Value} {sh : List fm_S} {M : fm_M} {y : MethodName} {cy : ByteArray} {ny : Nat} {pre : va_W} (hd : decode cc pc = .ok (.invokespecial idx, 3)) (hf : Cond.methodLink own idx y ∈ fm_tb) (hw : gk_W (y, cy, ny, none) nA) (hC : gk (fm_l X) (fm_kA X) (fm_Dg X) (y, cy, ny, none) h nc ns ci fs As sh M) (hA : As.length = nA) (hst : st = As.reverse ++ .ref q :: rest) (hcat : (rest.map fun v => v.category).sum ≤ 8) (hR : h + 1 ≤ (fm_R X).frames ∧ 8 + (ny + 11) + 64 * h ≤ (fm_R X).locals) (hc : ce + nc ≤ (fm_R X).cells ∧ sl + ns ≤ (fm_R X).slots)
    (k : ∀ rh : Nat → Nat, rh 0 = q → gw X nL (ce + nc) (sl + ns) (iw X (pre ++ rw_w rh (fm_kA X) M 0 sh)) (pc + 3) lv rest Q) : gw X nL ce sl (iw X (pre ++ [(q, .inr (ci, fs))])) pc lv st Q := fun H locs hI ls hl => by
  subst hst
  obtain ⟨w1, w2, w3, w4, -, w5⟩ := hw
  exact g_core hB hI hl (va_runI (cc := cc) (nL := nL) (own := own) (Ts := fm_tb) (As := As) (rest := rest) (b := q) (n := nA) ⟨hB.x, hB.b, hB.ml, hB.ow, hB.tb⟩ (hC q H.size) (cwI nA hB.tb (fm_good w2) rfl rfl rfl (hB.tb _ w1) (hB.tb _ hf) (hB.tb _ w3) w4 w5 hR) ⟨g_blind, g_pre hB hI⟩ rfl hA hl.2.1 rfl (lv_room hcat) hd hc) k

end GWR
