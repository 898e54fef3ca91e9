/-! ===== rows: one instruction each, over fm_W ===== -/
section FMR
variable {sh : List fm_S} {X : fm_X} {cc : ByteArray} {nL : Nat} {own : String} {ret : Option FieldType} {pc : Nat} {lv : List (Option Value)} {st : List Value} {M : fm_M} {Q : State → Prop}
theorem fm_B.x (h : fm_B sh X cc nL own ret) : (fm_p X).tables.exec = Jvm.exec := h.1
theorem fm_B.b (h : fm_B sh X cc nL own ret) : (fm_c X).code = cc := h.2.1
theorem fm_B.ml (h : fm_B sh X cc nL own ret) : (fm_c X).maxLocals = nL := h.2.2.1
theorem fm_B.ow (h : fm_B sh X cc nL own ret) : (fm_s X).vm.findClass own = some (fm_m X).cls := h.2.2.2.1
theorem fm_B.tb (h : fm_B sh X cc nL own ret) : ∀ w ∈ fm_tb, w.before (fm_ar X) (fm_s X) = true := h.2.2.2.2.1
theorem fm_B.re (h : fm_B sh X cc nL own ret) : (fm_me X).sig.returnType = ret := h.2.2.2.2.2.1
theorem fm_B.lk (h : fm_B sh X cc nL own ret) : (fm_me X).locks = false := h.2.2.2.2.2.2.1
theorem fm_B.K (h : fm_B sh X cc nL own ret) : va_K (fm_Dg X) vwCl (fm_tys (fm_kA X)) (fm_s X) := h.2.2.2.2.2.2.2.1
theorem fm_B.D (h : fm_B sh X cc nL own ret) : fm_Dd sh (fm_rh X) (fm_A X) := h.2.2.2.2.2.2.2.2.1
theorem fm_B.G (h : fm_B sh X cc nL own ret) : fm_G (fm_A X) (fm_s X) (fm_s X).heap := h.2.2.2.2.2.2.2.2.2.1
theorem fm_B.A (h : fm_B sh X cc nL own ret) : ∀ q, (fm_s X).heap.size ≤ q → fm_A X q := h.2.2.2.2.2.2.2.2.2.2

theorem fr_iconst (hB : fm_B sh X cc nL own ret) {n : Int} {v : Int32} (hd : decode cc pc = .ok (.iconst n, 1)) (hv : Int32.ofInt n = v) (k : fm_W sh X nL (pc + 1) lv (.int v :: st) M Q) : fm_W sh X nL pc lv (st) M Q := fun H locs hP hS ls hl => lv_iconst hB.x hB.b hd hv (k H locs hP hS ls hl)
theorem fr_bipush (hB : fm_B sh X cc nL own ret) {n : Int} {v : Int32} (hd : decode cc pc = .ok (.bipush n, 2)) (hv : (Int8.ofInt n).toInt32 = v) (k : fm_W sh X nL (pc + 2) lv (.int v :: st) M Q) : fm_W sh X nL pc lv (st) M Q := fun H locs hP hS ls hl => lv_bipush hB.x hB.b hd hv (k H locs hP hS ls hl)
theorem fr_sipush (hB : fm_B sh X cc nL own ret) {n : Int} {v : Int32} (hd : decode cc pc = .ok (.sipush n, 3)) (hv : (Int16.ofInt n).toInt32 = v) (k : fm_W sh X nL (pc + 3) lv (.int v :: st) M Q) : fm_W sh X nL pc lv (st) M Q := fun H locs hP hS ls hl => lv_sipush hB.x hB.b hd hv (k H locs hP hS ls hl)
theorem fr_lconst (hB : fm_B sh X cc nL own ret) {n : Fin 2} {v : Int64} (hd : decode cc pc = .ok (.lconst n, 1)) (hv : Int64.ofNat (n : Nat) = v) (k : fm_W sh X nL (pc + 1) lv (.long v :: st) M Q) : fm_W sh X nL pc lv (st) M Q := fun H locs hP hS ls hl => lv_lconst hB.x hB.b hd hv (k H locs hP hS ls hl)
theorem fr_iload_n (hB : fm_B sh X cc nL own ret) {kk : Fin 4} {i : Nat} {x : Int32} (hd : decode cc pc = .ok (.iload_n kk, 1)) (hi : (kk : Nat) = i) (hx : lv[i]? = some (some (.int x))) (k : fm_W sh X nL (pc + 1) lv (.int x :: st) M Q) : fm_W sh X nL pc lv (st) M Q := fun H locs hP hS ls hl => lv_iload_n hB.x hB.b hd hi (hl.2.2 _ _ hx) (k H locs hP hS ls hl)
theorem fr_iload (hB : fm_B sh X cc nL own ret) {i : Nat} {x : Int32} (hd : decode cc pc = .ok (.iload i, 2)) (hx : lv[i]? = some (some (.int x))) (k : fm_W sh X nL (pc + 2) lv (.int x :: st) M Q) : fm_W sh X nL pc lv (st) M Q := fun H locs hP hS ls hl => lv_iload hB.x hB.b hd (hl.2.2 _ _ hx) (k H locs hP hS ls hl)
theorem fr_lload_n (hB : fm_B sh X cc nL own ret) {kk : Fin 4} {i : Nat} {x : Int64} (hd : decode cc pc = .ok (.lload_n kk, 1)) (hi : (kk : Nat) = i) (hx : lv[i]? = some (some (.long x))) (k : fm_W sh X nL (pc + 1) lv (.long x :: st) M Q) : fm_W sh X nL pc lv (st) M Q := fun H locs hP hS ls hl => lv_lload_n hB.x hB.b hd hi (hl.2.2 _ _ hx) (k H locs hP hS ls hl)
theorem fr_lload (hB : fm_B sh X cc nL own ret) {i : Nat} {x : Int64} (hd : decode cc pc = .ok (.lload i, 2)) (hx : lv[i]? = some (some (.long x))) (k : fm_W sh X nL (pc + 2) lv (.long x :: st) M Q) : fm_W sh X nL pc lv (st) M Q := fun H locs hP hS ls hl => lv_lload hB.x hB.b hd (hl.2.2 _ _ hx) (k H locs hP hS ls hl)
theorem fr_aload_n (hB : fm_B sh X cc nL own ret) {kk : Fin 4} {i : Nat} {x : Nat} (hd : decode cc pc = .ok (.aload_n kk, 1)) (hi : (kk : Nat) = i) (hx : lv[i]? = some (some (.ref x))) (k : fm_W sh X nL (pc + 1) lv (.ref x :: st) M Q) : fm_W sh X nL pc lv (st) M Q := fun H locs hP hS ls hl => lv_aload_n hB.x hB.b hd hi (hl.2.2 _ _ hx) (k H locs hP hS ls hl)
theorem fr_aload (hB : fm_B sh X cc nL own ret) {i : Nat} {x : Nat} (hd : decode cc pc = .ok (.aload i, 2)) (hx : lv[i]? = some (some (.ref x))) (k : fm_W sh X nL (pc + 2) lv (.ref x :: st) M Q) : fm_W sh X nL pc lv (st) M Q := fun H locs hP hS ls hl => lv_aload hB.x hB.b hd (hl.2.2 _ _ hx) (k H locs hP hS ls hl)
theorem fr_aload_nN (hB : fm_B sh X cc nL own ret) {kk : Fin 4} {i : Nat} (hd : decode cc pc = .ok (.aload_n kk, 1)) (hi : (kk : Nat) = i) (hx : lv[i]? = some (some .null)) (k : fm_W sh X nL (pc + 1) lv (.null :: st) M Q) : fm_W sh X nL pc lv (st) M Q := fun H locs hP hS ls hl => lv_aload_nN hB.x hB.b hd hi (hl.2.2 _ _ hx) (k H locs hP hS ls hl)
theorem fr_aloadN (hB : fm_B sh X cc nL own ret) {i : Nat} (hd : decode cc pc = .ok (.aload i, 2)) (hx : lv[i]? = some (some .null)) (k : fm_W sh X nL (pc + 2) lv (.null :: st) M Q) : fm_W sh X nL pc lv (st) M Q := fun H locs hP hS ls hl => lv_aloadN hB.x hB.b hd (hl.2.2 _ _ hx) (k H locs hP hS ls hl)
def fm_pairs (lv : List (Option Value)) : List (Nat × Value) := lv.zipIdx.filterMap (fun q => q.1.map (fun v => (q.2, v)))
theorem fm_pairs_in {lv : List (Option Value)} {i : Nat} {v : Value} : (i, v) ∈ fm_pairs lv ↔ lv[i]? = some (some v) := by
  unfold fm_pairs
  rw [List.mem_filterMap]
  constructor
  · rintro ⟨⟨o, j⟩, h1, h2⟩
    have h3 := List.mem_zipIdx_iff_getElem?.mp h1
    cases o with
    | none => simp at h2
    | some w =>
      simp only [Option.map_some, Option.some.injEq, Prod.mk.injEq] at h2
      obtain ⟨rfl, rfl⟩ := h2
      exact h3
  · intro h
    exact ⟨(some v, i), List.mem_zipIdx_iff_getElem?.mpr h, rfl⟩
theorem fm_has {ls : Array Slot} {nL : Nat} {lv : List (Option Value)} (h : fm_lv ls nL lv) : lv_has ls nL (fm_pairs lv) := ⟨h.2.1, h.1, fun q hq => h.2.2 q.1 q.2 (fm_pairs_in.mp hq)⟩
def fm_ok (lv : List (Option Value)) (i : Nat) : Bool := match i with
  | 0 => true
  | j + 1 => match lv[j]? with
    | some (some v) => v.category == 1
    | _ => true
theorem fm_ok_of {lv : List (Option Value)} {i j : Nat} {v : Value} (h : fm_ok lv i = true) (hj : lv[j]? = some (some v)) (e : j + 1 = i) : v.category = 1 := by
  subst e
  simp only [fm_ok, hj, beq_iff_eq] at h
  exact h
theorem fm_lv_1 {ls : Array Slot} {nL : Nat} {lv : List (Option Value)} {i : Nat} {v : Value} (hk : fm_ok lv i = true) (h : lv_has ls nL ((i, v) :: (fm_pairs lv).filter (fun q => !(q.1 == i) && !(q.1 + 1 == i && q.2.category == 2)))) : fm_lv ls nL (lv.set i (some v)) := by
  refine ⟨h.2.1, h.1, fun j w hj => ?_⟩
  rw [List.getElem?_set] at hj
  by_cases e : i = j
  · subst e
    rw [if_pos rfl] at hj
    split at hj
    · cases hj
      exact h.2.2 (i, v) List.mem_cons_self
    · cases hj
  · rw [if_neg e] at hj
    refine h.2.2 (j, w) (List.mem_cons_of_mem _ (List.mem_filter.mpr ⟨fm_pairs_in.mpr hj, ?_⟩))
    have h1 : ¬ (j = i) := fun q => e q.symm
    by_cases e2 : j + 1 = i
    · have := fm_ok_of hk hj e2
      simp [h1, this]
    · simp [h1, e2]
theorem fm_lv_2 {ls : Array Slot} {nL : Nat} {lv : List (Option Value)} {i : Nat} {v : Value} (hk : fm_ok lv i = true) (h : lv_has ls nL ((i, v) :: (fm_pairs lv).filter (fun q => !(q.1 == i) && (!(q.1 == i + 1) && !(q.1 + 1 == i && q.2.category == 2))))) : fm_lv ls nL ((lv.set i (some v)).set (i + 1) none) := by
  refine ⟨h.2.1, h.1, fun j w hj => ?_⟩
  rw [List.getElem?_set] at hj
  by_cases e3 : i + 1 = j
  · rw [if_pos e3] at hj
    split at hj <;> cases hj
  · rw [if_neg e3, List.getElem?_set] at hj
    by_cases e : i = j
    · subst e
      rw [if_pos rfl] at hj
      split at hj
      · cases hj
        exact h.2.2 (i, v) List.mem_cons_self
      · cases hj
    · rw [if_neg e] at hj
      refine h.2.2 (j, w) (List.mem_cons_of_mem _ (List.mem_filter.mpr ⟨fm_pairs_in.mpr hj, ?_⟩))
      have h1 : ¬ (j = i) := fun q => e q.symm
      have h2 : ¬ (j = i + 1) := fun q => e3 q.symm
      by_cases e2 : j + 1 = i
      · have := fm_ok_of hk hj e2
        simp [h1, h2, this]
      · simp [h1, h2, e2]
theorem fr_forget (i : Nat) (k : fm_W sh X nL pc (lv.set i none) st M Q) : fm_W sh X nL pc lv st M Q := fun H locs hP hS ls hl => k H locs hP hS ls ⟨hl.1, hl.2.1, fun j w hj => by
  rw [List.getElem?_set] at hj
  by_cases e : i = j
  · rw [if_pos e] at hj
    split at hj <;> cases hj
  · rw [if_neg e] at hj
    exact hl.2.2 j w hj⟩
/-- locals of which more is known may stand where fewer are asked -/
theorem fr_locals {lv' : List (Option Value)} (h : ∀ (i : Nat) (v : Value), lv'[i]? = some (some v) → lv[i]? = some (some v)) (k : fm_W sh X nL pc lv' st M Q) : fm_W sh X nL pc lv st M Q := fun H locs hP hS ls hl => k H locs hP hS ls ⟨hl.1, hl.2.1, fun j w hj => hl.2.2 j w (h j w hj)⟩
/-- may the first list stand where the second is asked: place by place, none asks nothing -/
def fm_sub : List (Option Value) → List (Option Value) → Prop
  | _, [] => True
  | [], none :: b => fm_sub [] b
  | [], some _ :: _ => False
  | _ :: a, none :: b => fm_sub a b
  | x :: a, some v :: b => x = some v ∧ fm_sub a b
theorem fm_sub_at : ∀ (a b : List (Option Value)), fm_sub a b → ∀ (i : Nat) (v : Value), b[i]? = some (some v) → a[i]? = some (some v)
  | a, [], _, i, v, h => by simp at h
  | [], none :: b, hs, i, v, h => by
    match i, h with
    | 0, h => simp at h
    | i + 1, h => have := fm_sub_at [] b hs i v (by simpa using h); simp at this
  | [], some _ :: _, hs, i, v, h => by cases hs
  | x :: a, none :: b, hs, i, v, h => by
    match i, h with
    | 0, h => simp at h
    | i + 1, h => exact (by simpa using fm_sub_at a b hs i v (by simpa using h))
  | x :: a, some w :: b, hs, i, v, h => by
    match i, h with
    | 0, h => simp at h; subst h; simp [hs.1]
    | i + 1, h => exact (by simpa using fm_sub_at a b hs.2 i v (by simpa using h))
theorem fr_lv (lv' : List (Option Value)) (h : fm_sub lv lv') (k : fm_W sh X nL pc lv' st M Q) : fm_W sh X nL pc lv st M Q := fr_locals (fm_sub_at lv lv' h) k
theorem fr_topi {x : Int32} (k : ∀ y : Int32, y = x → fm_W sh X nL pc lv (.int y :: st) M Q) : fm_W sh X nL pc lv (.int x :: st) M Q := k x rfl
theorem fr_topl {x : Int64} (k : ∀ y : Int64, y = x → fm_W sh X nL pc lv (.long y :: st) M Q) : fm_W sh X nL pc lv (.long x :: st) M Q := k x rfl
theorem fr_eqi {x : Int32} (y : Int32) (h : x = y) (k : fm_W sh X nL pc lv (.int y :: st) M Q) : fm_W sh X nL pc lv (.int x :: st) M Q := by rw [h]; exact k
theorem fr_eql {x : Int64} (y : Int64) (h : x = y) (k : fm_W sh X nL pc lv (.long y :: st) M Q) : fm_W sh X nL pc lv (.long x :: st) M Q := by rw [h]; exact k
theorem fr_mem (M' : fm_M) (h : M = M') (k : fm_W sh X nL pc lv st M' Q) : fm_W sh X nL pc lv st M Q := by rw [h]; exact k
theorem fr_istore_n (hB : fm_B sh X cc nL own ret) {kk : Fin 4} {i : Nat} {x : Int32} (hd : decode cc pc = .ok (.istore_n kk, 1)) (hi : (kk : Nat) = i) (hn : i < nL) (hk : fm_ok lv i = true) (k : fm_W sh X nL (pc + 1) (lv.set i (some (.int x))) st M Q) : fm_W sh X nL pc lv (.int x :: st) M Q := fun H locs hP hS ls hl => lv_istore_n hB.x hB.b hd hi (fm_has hl) hn rfl (fun ls' h' => k H locs hP hS ls' (fm_lv_1 hk h'))
theorem fr_istore (hB : fm_B sh X cc nL own ret) {i : Nat} {x : Int32} (hd : decode cc pc = .ok (.istore i, 2)) (hn : i < nL) (hk : fm_ok lv i = true) (k : fm_W sh X nL (pc + 2) (lv.set i (some (.int x))) st M Q) : fm_W sh X nL pc lv (.int x :: st) M Q := fun H locs hP hS ls hl => lv_istore hB.x hB.b hd (fm_has hl) hn rfl (fun ls' h' => k H locs hP hS ls' (fm_lv_1 hk h'))
theorem fr_lstore_n (hB : fm_B sh X cc nL own ret) {kk : Fin 4} {i : Nat} {x : Int64} (hd : decode cc pc = .ok (.lstore_n kk, 1)) (hi : (kk : Nat) = i) (hn : i + 1 < nL) (hk : fm_ok lv i = true) (k : fm_W sh X nL (pc + 1) ((lv.set i (some (.long x))).set (i + 1) none) st M Q) : fm_W sh X nL pc lv (.long x :: st) M Q := fun H locs hP hS ls hl => lv_lstore_n hB.x hB.b hd hi (fm_has hl) hn rfl (fun ls' h' => k H locs hP hS ls' (fm_lv_2 hk h'))
theorem fr_lstore (hB : fm_B sh X cc nL own ret) {i : Nat} {x : Int64} (hd : decode cc pc = .ok (.lstore i, 2)) (hn : i + 1 < nL) (hk : fm_ok lv i = true) (k : fm_W sh X nL (pc + 2) ((lv.set i (some (.long x))).set (i + 1) none) st M Q) : fm_W sh X nL pc lv (.long x :: st) M Q := fun H locs hP hS ls hl => lv_lstore hB.x hB.b hd (fm_has hl) hn rfl (fun ls' h' => k H locs hP hS ls' (fm_lv_2 hk h'))
theorem fr_astore_n (hB : fm_B sh X cc nL own ret) {kk : Fin 4} {i : Nat} {x : Nat} (hd : decode cc pc = .ok (.astore_n kk, 1)) (hi : (kk : Nat) = i) (hn : i < nL) (hk : fm_ok lv i = true) (k : fm_W sh X nL (pc + 1) (lv.set i (some (.ref x))) st M Q) : fm_W sh X nL pc lv (.ref x :: st) M Q := fun H locs hP hS ls hl => lv_astore_n hB.x hB.b hd hi (fm_has hl) hn rfl (fun ls' h' => k H locs hP hS ls' (fm_lv_1 hk h'))
theorem fr_astore (hB : fm_B sh X cc nL own ret) {i : Nat} {x : Nat} (hd : decode cc pc = .ok (.astore i, 2)) (hn : i < nL) (hk : fm_ok lv i = true) (k : fm_W sh X nL (pc + 2) (lv.set i (some (.ref x))) st M Q) : fm_W sh X nL pc lv (.ref x :: st) M Q := fun H locs hP hS ls hl => lv_astore hB.x hB.b hd (fm_has hl) hn rfl (fun ls' h' => k H locs hP hS ls' (fm_lv_1 hk h'))
theorem fr_astore_nN (hB : fm_B sh X cc nL own ret) {kk : Fin 4} {i : Nat} (hd : decode cc pc = .ok (.astore_n kk, 1)) (hi : (kk : Nat) = i) (hn : i < nL) (hk : fm_ok lv i = true) (k : fm_W sh X nL (pc + 1) (lv.set i (some .null)) st M Q) : fm_W sh X nL pc lv (.null :: st) M Q := fun H locs hP hS ls hl => lv_astore_nN hB.x hB.b hd hi (fm_has hl) hn rfl (fun ls' h' => k H locs hP hS ls' (fm_lv_1 hk h'))
theorem fr_astoreN (hB : fm_B sh X cc nL own ret) {i : Nat} (hd : decode cc pc = .ok (.astore i, 2)) (hn : i < nL) (hk : fm_ok lv i = true) (k : fm_W sh X nL (pc + 2) (lv.set i (some .null)) st M Q) : fm_W sh X nL pc lv (.null :: st) M Q := fun H locs hP hS ls hl => lv_astoreN hB.x hB.b hd (fm_has hl) hn rfl (fun ls' h' => k H locs hP hS ls' (fm_lv_1 hk h'))
theorem fr_iinc (hB : fm_B sh X cc nL own ret) {i : Nat} {n : Int} {x v : Int32} (hd : decode cc pc = .ok (.iinc i n, 3)) (hx : lv[i]? = some (some (.int x))) (hv : x + Int32.ofInt n = v) (hn : i < nL) (hk : fm_ok lv i = true) (k : fm_W sh X nL (pc + 3) (lv.set i (some (.int v))) st M Q) : fm_W sh X nL pc lv st M Q := fun H locs hP hS ls hl => by
  obtain ⟨q, hq⟩ := List.mem_iff_getElem?.mp (fm_pairs_in.mpr hx)
  exact lv_iinc hB.x hB.b hd (fm_has hl) hq hv hn rfl (fun ls' h' => k H locs hP hS ls' (fm_lv_1 hk h'))
theorem fr_iadd (hB : fm_B sh X cc nL own ret) {x y : Int32} (hd : decode cc pc = .ok (.iadd, 1))  (k : fm_W sh X nL (pc + 1) lv (.int (x + y) :: st) M Q) : fm_W sh X nL pc lv (.int y :: .int x :: st) M Q := fun H locs hP hS ls hl => lv_iadd hB.x hB.b hd  (k H locs hP hS ls hl)
theorem fr_isub (hB : fm_B sh X cc nL own ret) {x y : Int32} (hd : decode cc pc = .ok (.isub, 1))  (k : fm_W sh X nL (pc + 1) lv (.int (x - y) :: st) M Q) : fm_W sh X nL pc lv (.int y :: .int x :: st) M Q := fun H locs hP hS ls hl => lv_isub hB.x hB.b hd  (k H locs hP hS ls hl)
theorem fr_imul (hB : fm_B sh X cc nL own ret) {x y : Int32} (hd : decode cc pc = .ok (.imul, 1))  (k : fm_W sh X nL (pc + 1) lv (.int (x * y) :: st) M Q) : fm_W sh X nL pc lv (.int y :: .int x :: st) M Q := fun H locs hP hS ls hl => lv_imul hB.x hB.b hd  (k H locs hP hS ls hl)
theorem fr_iand (hB : fm_B sh X cc nL own ret) {x y : Int32} (hd : decode cc pc = .ok (.iand, 1))  (k : fm_W sh X nL (pc + 1) lv (.int (x &&& y) :: st) M Q) : fm_W sh X nL pc lv (.int y :: .int x :: st) M Q := fun H locs hP hS ls hl => lv_iand hB.x hB.b hd  (k H locs hP hS ls hl)
theorem fr_ior (hB : fm_B sh X cc nL own ret) {x y : Int32} (hd : decode cc pc = .ok (.ior, 1))  (k : fm_W sh X nL (pc + 1) lv (.int (x ||| y) :: st) M Q) : fm_W sh X nL pc lv (.int y :: .int x :: st) M Q := fun H locs hP hS ls hl => lv_ior hB.x hB.b hd  (k H locs hP hS ls hl)
theorem fr_ixor (hB : fm_B sh X cc nL own ret) {x y : Int32} (hd : decode cc pc = .ok (.ixor, 1))  (k : fm_W sh X nL (pc + 1) lv (.int (x ^^^ y) :: st) M Q) : fm_W sh X nL pc lv (.int y :: .int x :: st) M Q := fun H locs hP hS ls hl => lv_ixor hB.x hB.b hd  (k H locs hP hS ls hl)
theorem fr_idiv (hB : fm_B sh X cc nL own ret) {x y : Int32} (hd : decode cc pc = .ok (.idiv, 1)) (hne : ¬ y = 0) (k : fm_W sh X nL (pc + 1) lv (.int (x / y) :: st) M Q) : fm_W sh X nL pc lv (.int y :: .int x :: st) M Q := fun H locs hP hS ls hl => lv_idiv hB.x hB.b hd hne (k H locs hP hS ls hl)
theorem fr_irem (hB : fm_B sh X cc nL own ret) {x y : Int32} (hd : decode cc pc = .ok (.irem, 1)) (hne : ¬ y = 0) (k : fm_W sh X nL (pc + 1) lv (.int (x - x / y * y) :: st) M Q) : fm_W sh X nL pc lv (.int y :: .int x :: st) M Q := fun H locs hP hS ls hl => lv_irem hB.x hB.b hd hne (k H locs hP hS ls hl)
theorem fr_ladd (hB : fm_B sh X cc nL own ret) {x y : Int64} (hd : decode cc pc = .ok (.ladd, 1))  (k : fm_W sh X nL (pc + 1) lv (.long (x + y) :: st) M Q) : fm_W sh X nL pc lv (.long y :: .long x :: st) M Q := fun H locs hP hS ls hl => lv_ladd hB.x hB.b hd  (k H locs hP hS ls hl)
theorem fr_lsub (hB : fm_B sh X cc nL own ret) {x y : Int64} (hd : decode cc pc = .ok (.lsub, 1))  (k : fm_W sh X nL (pc + 1) lv (.long (x - y) :: st) M Q) : fm_W sh X nL pc lv (.long y :: .long x :: st) M Q := fun H locs hP hS ls hl => lv_lsub hB.x hB.b hd  (k H locs hP hS ls hl)
theorem fr_lmul (hB : fm_B sh X cc nL own ret) {x y : Int64} (hd : decode cc pc = .ok (.lmul, 1))  (k : fm_W sh X nL (pc + 1) lv (.long (x * y) :: st) M Q) : fm_W sh X nL pc lv (.long y :: .long x :: st) M Q := fun H locs hP hS ls hl => lv_lmul hB.x hB.b hd  (k H locs hP hS ls hl)
theorem fr_land (hB : fm_B sh X cc nL own ret) {x y : Int64} (hd : decode cc pc = .ok (.land, 1))  (k : fm_W sh X nL (pc + 1) lv (.long (x &&& y) :: st) M Q) : fm_W sh X nL pc lv (.long y :: .long x :: st) M Q := fun H locs hP hS ls hl => lv_land hB.x hB.b hd  (k H locs hP hS ls hl)
theorem fr_lor (hB : fm_B sh X cc nL own ret) {x y : Int64} (hd : decode cc pc = .ok (.lor, 1))  (k : fm_W sh X nL (pc + 1) lv (.long (x ||| y) :: st) M Q) : fm_W sh X nL pc lv (.long y :: .long x :: st) M Q := fun H locs hP hS ls hl => lv_lor hB.x hB.b hd  (k H locs hP hS ls hl)
theorem fr_lxor (hB : fm_B sh X cc nL own ret) {x y : Int64} (hd : decode cc pc = .ok (.lxor, 1))  (k : fm_W sh X nL (pc + 1) lv (.long (x ^^^ y) :: st) M Q) : fm_W sh X nL pc lv (.long y :: .long x :: st) M Q := fun H locs hP hS ls hl => lv_lxor hB.x hB.b hd  (k H locs hP hS ls hl)
theorem fr_ldiv (hB : fm_B sh X cc nL own ret) {x y : Int64} (hd : decode cc pc = .ok (.ldiv, 1)) (hne : ¬ y = 0) (k : fm_W sh X nL (pc + 1) lv (.long (x / y) :: st) M Q) : fm_W sh X nL pc lv (.long y :: .long x :: st) M Q := fun H locs hP hS ls hl => lv_ldiv hB.x hB.b hd hne (k H locs hP hS ls hl)
theorem fr_lrem (hB : fm_B sh X cc nL own ret) {x y : Int64} (hd : decode cc pc = .ok (.lrem, 1)) (hne : ¬ y = 0) (k : fm_W sh X nL (pc + 1) lv (.long (x - x / y * y) :: st) M Q) : fm_W sh X nL pc lv (.long y :: .long x :: st) M Q := fun H locs hP hS ls hl => lv_lrem hB.x hB.b hd hne (k H locs hP hS ls hl)
theorem fr_ishl (hB : fm_B sh X cc nL own ret) {x y : Int32} (hd : decode cc pc = .ok (.ishl, 1))  (k : fm_W sh X nL (pc + 1) lv (.int (x <<< (y &&& 31)) :: st) M Q) : fm_W sh X nL pc lv (.int y :: .int x :: st) M Q := fun H locs hP hS ls hl => lv_ishl hB.x hB.b hd  (k H locs hP hS ls hl)
theorem fr_ishr (hB : fm_B sh X cc nL own ret) {x y : Int32} (hd : decode cc pc = .ok (.ishr, 1))  (k : fm_W sh X nL (pc + 1) lv (.int (x >>> (y &&& 31)) :: st) M Q) : fm_W sh X nL pc lv (.int y :: .int x :: st) M Q := fun H locs hP hS ls hl => lv_ishr hB.x hB.b hd  (k H locs hP hS ls hl)
theorem fr_iushr (hB : fm_B sh X cc nL own ret) {x y v : Int32} (hd : decode cc pc = .ok (.iushr, 1)) (hv : (x.toUInt32 >>> (y.toUInt32 &&& Int32.toUInt32 31)).toInt32 = v) (k : fm_W sh X nL (pc + 1) lv (.int v :: st) M Q) : fm_W sh X nL pc lv (.int y :: .int x :: st) M Q := fun H locs hP hS ls hl => lv_iushr hB.x hB.b hd hv (k H locs hP hS ls hl)
theorem fr_lushr (hB : fm_B sh X cc nL own ret) {x v : Int64} {y : Int32} (hd : decode cc pc = .ok (.lushr, 1)) (hv : (x.toUInt64 >>> (y.toInt64.toUInt64 &&& Int64.toUInt64 63)).toInt64 = v) (k : fm_W sh X nL (pc + 1) lv (.long v :: st) M Q) : fm_W sh X nL pc lv (.int y :: .long x :: st) M Q := fun H locs hP hS ls hl => lv_lushr hB.x hB.b hd hv (k H locs hP hS ls hl)
theorem fr_lshl (hB : fm_B sh X cc nL own ret) {x v : Int64} {y : Int32} (hd : decode cc pc = .ok (.lshl, 1)) (hv : x <<< (y.toInt64 &&& 63) = v) (k : fm_W sh X nL (pc + 1) lv (.long v :: st) M Q) : fm_W sh X nL pc lv (.int y :: .long x :: st) M Q := fun H locs hP hS ls hl => lv_lshl hB.x hB.b hd hv (k H locs hP hS ls hl)
theorem fr_i2l (hB : fm_B sh X cc nL own ret) {x : Int32} {v : Int64} (hd : decode cc pc = .ok (.i2l, 1)) (hv : x.toInt64 = v) (k : fm_W sh X nL (pc + 1) lv (.long v :: st) M Q) : fm_W sh X nL pc lv (.int x :: st) M Q := fun H locs hP hS ls hl => lv_i2l hB.x hB.b hd hv (k H locs hP hS ls hl)
theorem fr_l2i (hB : fm_B sh X cc nL own ret) {x : Int64} {v : Int32} (hd : decode cc pc = .ok (.l2i, 1)) (hv : x.toInt32 = v) (k : fm_W sh X nL (pc + 1) lv (.int v :: st) M Q) : fm_W sh X nL pc lv (.long x :: st) M Q := fun H locs hP hS ls hl => lv_l2i hB.x hB.b hd hv (k H locs hP hS ls hl)
theorem fr_i2b (hB : fm_B sh X cc nL own ret) {x v : Int32} (hd : decode cc pc = .ok (.i2b, 1)) (hv : x.toInt8.toInt32 = v) (k : fm_W sh X nL (pc + 1) lv (.int v :: st) M Q) : fm_W sh X nL pc lv (.int x :: st) M Q := fun H locs hP hS ls hl => lv_i2b hB.x hB.b hd hv (k H locs hP hS ls hl)
theorem fr_i2s (hB : fm_B sh X cc nL own ret) {x v : Int32} (hd : decode cc pc = .ok (.i2s, 1)) (hv : x.toInt16.toInt32 = v) (k : fm_W sh X nL (pc + 1) lv (.int v :: st) M Q) : fm_W sh X nL pc lv (.int x :: st) M Q := fun H locs hP hS ls hl => lv_i2s hB.x hB.b hd hv (k H locs hP hS ls hl)
theorem fr_lcmp (hB : fm_B sh X cc nL own ret) {x y : Int64} (hd : decode cc pc = .ok (.lcmp, 1))  (k : fm_W sh X nL (pc + 1) lv (.int (lg_cmp x y) :: st) M Q) : fm_W sh X nL pc lv (.long y :: .long x :: st) M Q := fun H locs hP hS ls hl => W.lcmp hB.x hB.b hd  (k H locs hP hS ls hl)
theorem fr_dup (hB : fm_B sh X cc nL own ret) {va : Value} (hd : decode cc pc = .ok (.dup, 1)) (hc : va.category = 1) (k : fm_W sh X nL (pc + 1) lv (va :: va :: st) M Q) : fm_W sh X nL pc lv (va :: st) M Q := fun H locs hP hS ls hl => lv_dup hB.x hB.b hd hc (k H locs hP hS ls hl)
theorem fr_pop (hB : fm_B sh X cc nL own ret) {va : Value} (hd : decode cc pc = .ok (.pop, 1)) (hc : va.category = 1) (k : fm_W sh X nL (pc + 1) lv (st) M Q) : fm_W sh X nL pc lv (va :: st) M Q := fun H locs hP hS ls hl => lv_pop hB.x hB.b hd hc (k H locs hP hS ls hl)
theorem fr_dup_x1 (hB : fm_B sh X cc nL own ret) {va vb : Value} (hd : decode cc pc = .ok (.dup_x1, 1)) (hc : va.category = 1) (hc2 : vb.category = 1) (k : fm_W sh X nL (pc + 1) lv (va :: vb :: va :: st) M Q) : fm_W sh X nL pc lv (va :: vb :: st) M Q := fun H locs hP hS ls hl => lv_dup_x1 hB.x hB.b hd hc hc2 (k H locs hP hS ls hl)
theorem fr_dup2_11 (hB : fm_B sh X cc nL own ret) {va vb : Value} (hd : decode cc pc = .ok (.dup2, 1)) (hc : va.category = 1) (hc2 : vb.category = 1) (k : fm_W sh X nL (pc + 1) lv (va :: vb :: va :: vb :: st) M Q) : fm_W sh X nL pc lv (va :: vb :: st) M Q := fun H locs hP hS ls hl => lv_dup2_11 hB.x hB.b hd hc hc2 (k H locs hP hS ls hl)
theorem fr_dup2_2 (hB : fm_B sh X cc nL own ret) {va : Value} (hd : decode cc pc = .ok (.dup2, 1)) (hc : va.category = 2) (k : fm_W sh X nL (pc + 1) lv (va :: va :: st) M Q) : fm_W sh X nL pc lv (va :: st) M Q := fun H locs hP hS ls hl => lv_dup2_2 hB.x hB.b hd hc (k H locs hP hS ls hl)
theorem fr_null (hB : fm_B sh X cc nL own ret)  (hd : decode cc pc = .ok (.aconst_null, 1))  (k : fm_W sh X nL (pc + 1) lv (.null :: st) M Q) : fm_W sh X nL pc lv (st) M Q := fun H locs hP hS ls hl => lv_null hB.x hB.b hd  (k H locs hP hS ls hl)
theorem fr_if_eq (hB : fm_B sh X cc nL own ret) {x : Int32} {off : Int} {tgt : Nat} (hd : decode cc pc = .ok (.ifCond .eq off, 3)) (ht : (pc : Int) + off = (tgt : Int)) (kt : x = 0 → fm_W sh X nL tgt lv st M Q) (kf : ¬ (x = 0) → fm_W sh X nL (pc + 3) lv st M Q) : fm_W sh X nL pc lv (.int x :: st) M Q := fun H locs hP hS ls hl => lv_if_eq hB.x hB.b hd ht (fun h => kt (by first | exact h | simpa using h) H locs hP hS ls hl) (fun h => kf (by first | exact h | simpa using h) H locs hP hS ls hl)
theorem fr_if_ne (hB : fm_B sh X cc nL own ret) {x : Int32} {off : Int} {tgt : Nat} (hd : decode cc pc = .ok (.ifCond .ne off, 3)) (ht : (pc : Int) + off = (tgt : Int)) (kt : ¬ x = 0 → fm_W sh X nL tgt lv st M Q) (kf : ¬ (¬ x = 0) → fm_W sh X nL (pc + 3) lv st M Q) : fm_W sh X nL pc lv (.int x :: st) M Q := fun H locs hP hS ls hl => lv_if_ne hB.x hB.b hd ht (fun h => kt (by first | exact h | simpa using h) H locs hP hS ls hl) (fun h => kf (by first | exact h | simpa using h) H locs hP hS ls hl)
theorem fr_if_lt (hB : fm_B sh X cc nL own ret) {x : Int32} {off : Int} {tgt : Nat} (hd : decode cc pc = .ok (.ifCond .lt off, 3)) (ht : (pc : Int) + off = (tgt : Int)) (kt : x < 0 → fm_W sh X nL tgt lv st M Q) (kf : ¬ (x < 0) → fm_W sh X nL (pc + 3) lv st M Q) : fm_W sh X nL pc lv (.int x :: st) M Q := fun H locs hP hS ls hl => lv_if_lt hB.x hB.b hd ht (fun h => kt (by first | exact h | simpa using h) H locs hP hS ls hl) (fun h => kf (by first | exact h | simpa using h) H locs hP hS ls hl)
theorem fr_if_ge (hB : fm_B sh X cc nL own ret) {x : Int32} {off : Int} {tgt : Nat} (hd : decode cc pc = .ok (.ifCond .ge off, 3)) (ht : (pc : Int) + off = (tgt : Int)) (kt : 0 ≤ x → fm_W sh X nL tgt lv st M Q) (kf : ¬ (0 ≤ x) → fm_W sh X nL (pc + 3) lv st M Q) : fm_W sh X nL pc lv (.int x :: st) M Q := fun H locs hP hS ls hl => lv_if_ge hB.x hB.b hd ht (fun h => kt (by first | exact h | simpa using h) H locs hP hS ls hl) (fun h => kf (by first | exact h | simpa using h) H locs hP hS ls hl)
theorem fr_if_gt (hB : fm_B sh X cc nL own ret) {x : Int32} {off : Int} {tgt : Nat} (hd : decode cc pc = .ok (.ifCond .gt off, 3)) (ht : (pc : Int) + off = (tgt : Int)) (kt : 0 < x → fm_W sh X nL tgt lv st M Q) (kf : ¬ (0 < x) → fm_W sh X nL (pc + 3) lv st M Q) : fm_W sh X nL pc lv (.int x :: st) M Q := fun H locs hP hS ls hl => lv_if_gt hB.x hB.b hd ht (fun h => kt (by first | exact h | simpa using h) H locs hP hS ls hl) (fun h => kf (by first | exact h | simpa using h) H locs hP hS ls hl)
theorem fr_if_le (hB : fm_B sh X cc nL own ret) {x : Int32} {off : Int} {tgt : Nat} (hd : decode cc pc = .ok (.ifCond .le off, 3)) (ht : (pc : Int) + off = (tgt : Int)) (kt : x ≤ 0 → fm_W sh X nL tgt lv st M Q) (kf : ¬ (x ≤ 0) → fm_W sh X nL (pc + 3) lv st M Q) : fm_W sh X nL pc lv (.int x :: st) M Q := fun H locs hP hS ls hl => lv_if_le hB.x hB.b hd ht (fun h => kt (by first | exact h | simpa using h) H locs hP hS ls hl) (fun h => kf (by first | exact h | simpa using h) H locs hP hS ls hl)
theorem fr_icmp_eq (hB : fm_B sh X cc nL own ret) {x y : Int32} {off : Int} {tgt : Nat} (hd : decode cc pc = .ok (.if_icmp .eq off, 3)) (ht : (pc : Int) + off = (tgt : Int)) (kt : x = y → fm_W sh X nL tgt lv st M Q) (kf : ¬ (x = y) → fm_W sh X nL (pc + 3) lv st M Q) : fm_W sh X nL pc lv (.int y :: .int x :: st) M Q := fun H locs hP hS ls hl => lv_icmp_eq hB.x hB.b hd ht (fun h => kt (by first | exact h | simpa using h) H locs hP hS ls hl) (fun h => kf (by first | exact h | simpa using h) H locs hP hS ls hl)
theorem fr_icmp_ne (hB : fm_B sh X cc nL own ret) {x y : Int32} {off : Int} {tgt : Nat} (hd : decode cc pc = .ok (.if_icmp .ne off, 3)) (ht : (pc : Int) + off = (tgt : Int)) (kt : ¬ x = y → fm_W sh X nL tgt lv st M Q) (kf : ¬ (¬ x = y) → fm_W sh X nL (pc + 3) lv st M Q) : fm_W sh X nL pc lv (.int y :: .int x :: st) M Q := fun H locs hP hS ls hl => lv_icmp_ne hB.x hB.b hd ht (fun h => kt (by first | exact h | simpa using h) H locs hP hS ls hl) (fun h => kf (by first | exact h | simpa using h) H locs hP hS ls hl)
theorem fr_icmp_lt (hB : fm_B sh X cc nL own ret) {x y : Int32} {off : Int} {tgt : Nat} (hd : decode cc pc = .ok (.if_icmp .lt off, 3)) (ht : (pc : Int) + off = (tgt : Int)) (kt : x < y → fm_W sh X nL tgt lv st M Q) (kf : ¬ (x < y) → fm_W sh X nL (pc + 3) lv st M Q) : fm_W sh X nL pc lv (.int y :: .int x :: st) M Q := fun H locs hP hS ls hl => lv_icmp_lt hB.x hB.b hd ht (fun h => kt (by first | exact h | simpa using h) H locs hP hS ls hl) (fun h => kf (by first | exact h | simpa using h) H locs hP hS ls hl)
theorem fr_icmp_ge (hB : fm_B sh X cc nL own ret) {x y : Int32} {off : Int} {tgt : Nat} (hd : decode cc pc = .ok (.if_icmp .ge off, 3)) (ht : (pc : Int) + off = (tgt : Int)) (kt : y ≤ x → fm_W sh X nL tgt lv st M Q) (kf : ¬ (y ≤ x) → fm_W sh X nL (pc + 3) lv st M Q) : fm_W sh X nL pc lv (.int y :: .int x :: st) M Q := fun H locs hP hS ls hl => lv_icmp_ge hB.x hB.b hd ht (fun h => kt (by first | exact h | simpa using h) H locs hP hS ls hl) (fun h => kf (by first | exact h | simpa using h) H locs hP hS ls hl)
theorem fr_icmp_gt (hB : fm_B sh X cc nL own ret) {x y : Int32} {off : Int} {tgt : Nat} (hd : decode cc pc = .ok (.if_icmp .gt off, 3)) (ht : (pc : Int) + off = (tgt : Int)) (kt : y < x → fm_W sh X nL tgt lv st M Q) (kf : ¬ (y < x) → fm_W sh X nL (pc + 3) lv st M Q) : fm_W sh X nL pc lv (.int y :: .int x :: st) M Q := fun H locs hP hS ls hl => lv_icmp_gt hB.x hB.b hd ht (fun h => kt (by first | exact h | simpa using h) H locs hP hS ls hl) (fun h => kf (by first | exact h | simpa using h) H locs hP hS ls hl)
theorem fr_icmp_le (hB : fm_B sh X cc nL own ret) {x y : Int32} {off : Int} {tgt : Nat} (hd : decode cc pc = .ok (.if_icmp .le off, 3)) (ht : (pc : Int) + off = (tgt : Int)) (kt : x ≤ y → fm_W sh X nL tgt lv st M Q) (kf : ¬ (x ≤ y) → fm_W sh X nL (pc + 3) lv st M Q) : fm_W sh X nL pc lv (.int y :: .int x :: st) M Q := fun H locs hP hS ls hl => lv_icmp_le hB.x hB.b hd ht (fun h => kt (by first | exact h | simpa using h) H locs hP hS ls hl) (fun h => kf (by first | exact h | simpa using h) H locs hP hS ls hl)
theorem fr_goto (hB : fm_B sh X cc nL own ret) {off : Int} {tgt : Nat} (hd : decode cc pc = .ok (.goto off, 3)) (ht : (pc : Int) + off = (tgt : Int)) (k : fm_W sh X nL tgt lv st M Q) : fm_W sh X nL pc lv st M Q := fun H locs hP hS ls hl => lv_goto hB.x hB.b hd ht (k H locs hP hS ls hl)
theorem fr_ifnull (hB : fm_B sh X cc nL own ret) {x : Nat} {off : Int} (hd : decode cc pc = .ok (.ifnull off, 3)) (k : fm_W sh X nL (pc + 3) lv st M Q) : fm_W sh X nL pc lv (.ref x :: st) M Q := fun H locs hP hS ls hl => lv_ifnull hB.x hB.b hd (k H locs hP hS ls hl)
theorem fr_ifnullN (hB : fm_B sh X cc nL own ret) {off : Int} {tgt : Nat} (hd : decode cc pc = .ok (.ifnull off, 3)) (ht : (pc : Int) + off = (tgt : Int)) (k : fm_W sh X nL tgt lv st M Q) : fm_W sh X nL pc lv (.null :: st) M Q := fun H locs hP hS ls hl => lv_ifnullN hB.x hB.b hd ht (k H locs hP hS ls hl)
theorem fr_ifnonnull (hB : fm_B sh X cc nL own ret) {x : Nat} {off : Int} {tgt : Nat} (hd : decode cc pc = .ok (.ifnonnull off, 3)) (ht : (pc : Int) + off = (tgt : Int)) (k : fm_W sh X nL tgt lv st M Q) : fm_W sh X nL pc lv (.ref x :: st) M Q := fun H locs hP hS ls hl => lv_ifnonnull hB.x hB.b hd ht (k H locs hP hS ls hl)
theorem fr_ifnonnullN (hB : fm_B sh X cc nL own ret) {off : Int} (hd : decode cc pc = .ok (.ifnonnull off, 3)) (k : fm_W sh X nL (pc + 3) lv st M Q) : fm_W sh X nL pc lv (.null :: st) M Q := fun H locs hP hS ls hl => lv_ifnonnullN hB.x hB.b hd (k H locs hP hS ls hl)
theorem fr_tableIn (hB : fm_B sh X cc nL own ret) {dflt lo hi : Int} {offs : Array Int} {len : Nat} {x : Int32} {off : Int} {tgt : Nat} (hd : decode cc pc = .ok (.tableswitch dflt lo hi offs, len)) (h1 : ¬ x.toInt < lo) (h2 : ¬ hi < x.toInt) (ho : offs[(x.toInt - lo).toNat]? = some off) (ht : (pc : Int) + off = (tgt : Int)) (k : fm_W sh X nL tgt lv st M Q) : fm_W sh X nL pc lv (.int x :: st) M Q := fun H locs hP hS ls hl => lv_tableIn hB.x hB.b hd h1 h2 ho ht (k H locs hP hS ls hl)
theorem fr_tableOut (hB : fm_B sh X cc nL own ret) {dflt lo hi : Int} {offs : Array Int} {len : Nat} {x : Int32} {tgt : Nat} (hd : decode cc pc = .ok (.tableswitch dflt lo hi offs, len)) (h : x.toInt < lo ∨ hi < x.toInt) (ht : (pc : Int) + dflt = (tgt : Int)) (k : fm_W sh X nL tgt lv st M Q) : fm_W sh X nL pc lv (.int x :: st) M Q := fun H locs hP hS ls hl => lv_tableOut hB.x hB.b hd h ht (k H locs hP hS ls hl)
theorem fr_lookup (hB : fm_B sh X cc nL own ret) {dflt : Int} {ps : Array (Int × Int)} {len : Nat} {x : Int32} {off : Int} {tgt : Nat} (hd : decode cc pc = .ok (.lookupswitch dflt ps, len)) (hp : (ps.toList.zip (ps.toList.drop 1)).all (fun (a, next) => a.1 < next.1) = true) (ho : Op.lookupswitch.offset ps.toList dflt x.toInt = off) (ht : (pc : Int) + off = (tgt : Int)) (k : fm_W sh X nL tgt lv st M Q) : fm_W sh X nL pc lv (.int x :: st) M Q := fun H locs hP hS ls hl => lv_lookup hB.x hB.b hd hp ho ht (k H locs hP hS ls hl)
theorem fr_ldcw (hB : fm_B sh X cc nL own ret) {index : Nat} {v : Int32} (hd : decode cc pc = .ok (.ldc_w index, 3)) (hc : Cond.constant own index v ∈ fm_tb) (k : fm_W sh X nL (pc + 3) lv (.int v :: st) M Q) : fm_W sh X nL pc lv st M Q := fun H locs hP hS ls hl => lv_ldcw hB.x hB.b hB.ow (hB.tb _ hc) hd (k H locs hP hS ls hl)
theorem fr_ldc2 (hB : fm_B sh X cc nL own ret) {index : Nat} {v : Int64} (hd : decode cc pc = .ok (.ldc2_w index, 3)) (hc : Cond.constantLong own index v ∈ fm_tb) (k : fm_W sh X nL (pc + 3) lv (.long v :: st) M Q) : fm_W sh X nL pc lv st M Q := fun H locs hP hS ls hl => lv_ldc2 hB.x hB.b hB.ow (hB.tb _ hc) hd (k H locs hP hS ls hl)
/-- a field's link: own class, pool number, class of the field, its place -/
def fm_lkF (own : String) (idx ci j : Nat) : Prop := ∃ (C : String) (T : u_T) (N : Nat), vwCl[ci]? = some (C, T, N) ∧ (∀ w ∈ u_ws C T N, w ∈ fm_tb) ∧ j < N ∧ Cond.fieldLink own idx (T j).1 (T j).2.1 (T j).2.2.1 ∈ fm_tb
theorem fr_get (hB : fm_B sh X cc nL own ret) {idx ci j k : Nat} {fs : List (Option Nat)} {o : Option Nat} (hd : decode cc pc = .ok (.getfield idx, 3)) (hf : fm_lkF own idx ci j) (hk : sh[k]? = some (.inl (ci, fs))) (hj : fs[j]? = some o) (kk : fm_W sh X nL (pc + 3) lv (fm_fv (fm_rh X) M k j o :: st) M Q) : fm_W sh X nL pc lv (.ref (fm_rh X k) :: st) M Q := fun H locs hP hS ls hl => by
  obtain ⟨C, T, N, h1, h2, h3, h4⟩ := hf
  exact va_get (D := fm_Dg X) (tys := fm_tys (fm_kA X)) hB.x hB.b hB.tb h2 hB.ow hB.K hP k (fm_w_get hk) h1 j h3 (hB.tb _ h4) (fun _ h => h) (v := fm_fv (fm_rh X) M k j o) (by rw [List.getElem?_mapIdx, hj]; rfl) hd (kk H locs hP hS ls hl)
theorem fr_getI (hB : fm_B sh X cc nL own ret) {idx ci j k : Nat} {fs : List (Option Nat)} (hd : decode cc pc = .ok (.getfield idx, 3)) (hf : fm_lkF own idx ci j) (hk : sh[k]? = some (.inl (ci, fs))) (hj : fs[j]? = some none) (kk : fm_W sh X nL (pc + 3) lv (.int (M.1 k j) :: st) M Q) : fm_W sh X nL pc lv (.ref (fm_rh X k) :: st) M Q := fr_get hB hd hf hk hj kk
theorem fr_getR (hB : fm_B sh X cc nL own ret) {idx ci j k r : Nat} {fs : List (Option Nat)} (hd : decode cc pc = .ok (.getfield idx, 3)) (hf : fm_lkF own idx ci j) (hk : sh[k]? = some (.inl (ci, fs))) (hj : fs[j]? = some (some r)) (kk : fm_W sh X nL (pc + 3) lv (.ref (fm_rh X r) :: st) M Q) : fm_W sh X nL pc lv (.ref (fm_rh X k) :: st) M Q := fr_get hB hd hf hk hj kk
/-- a field that is written: beside its link, its type, and that it is no final one -/
def fm_lkP (own : String) (idx ci j : Nat) (ty : FieldType) : Prop := ∃ (C : String) (T : u_T) (N : Nat) (ty0 : Nat → FieldType), vwCl[ci]? = some (C, T, N) ∧ (∀ w ∈ u_ws C T N, w ∈ fm_tb) ∧ j < N ∧ Cond.fieldLink own idx (T j).1 (T j).2.1 (T j).2.2.1 ∈ fm_tb ∧ (∀ k, k < N → parseFieldDescriptor (T k).2.2.1 = some (ty0 k)) ∧ (∀ a, a < N → ∀ b, b < N → a ≠ b → (T a).2.1 ≠ (T b).2.1) ∧ (T j).2.2.2 = false ∧ parseFieldDescriptor (T j).2.2.1 = some ty
theorem fm_mapIdx_set {rh : Nat → Nat} {k j : Nat} {v : Int32} {fs : List (Option Nat)} (hj : fs[j]? = some none) : (fs.mapIdx (fm_fv rh M k)).set j (.int v) = fs.mapIdx (fm_fv rh (fm_pi M k j v) k) := by
  apply List.ext_getElem?
  intro i
  rw [List.getElem?_mapIdx]
  by_cases e : j = i
  · subst e
    have hlt : j < (fs.mapIdx (fm_fv rh M k)).length := by
      rw [List.length_mapIdx]
      exact (List.getElem?_eq_some_iff.mp hj).1
    rw [List.getElem?_set_self hlt, hj]
    simp [fm_fv, fm_u]
  · rw [List.getElem?_set_ne e, List.getElem?_mapIdx]
    cases fs[i]? with
    | none => rfl
    | some o =>
      cases o with
      | some r => rfl
      | none =>
        have e' : ¬ i = j := fun q => e q.symm
        simp [fm_fv, fm_u, e']
theorem fr_put (hB : fm_B sh X cc nL own ret) {idx ci j k : Nat} {ty : FieldType} {v : Int32} {fs : List (Option Nat)} (hd : decode cc pc = .ok (.putfield idx, 3)) (hf : fm_lkP own idx ci j ty) (hk : sh[k]? = some (.inl (ci, fs))) (hj : fs[j]? = some none) (hn : narrow ty (.int v) = .int v) (hfit : fits ty (.int v) = true) (kk : fm_W sh X nL (pc + 3) lv st (fm_pi M k j v) Q) : fm_W sh X nL pc lv (.int v :: .ref (fm_rh X k) :: st) M Q := fun H locs hP hS ls hl => by
  obtain ⟨C, T, N, ty0, h1, h2, h3, h4, h5, h6, h7, h8⟩ := hf
  refine va_put (D := fm_Dg X) (tys := fm_tys (fm_kA X)) hB.x hB.b hB.tb h2 ty0 h5 h6 hB.ow hB.K hP (hB.D.d _ _) hS k (fm_w_get hk) h1 j h3 (hB.tb _ h4) (fun _ h => h) h7 h8 hn hfit (by rw [List.length_mapIdx]; exact (List.getElem?_eq_some_iff.mp hj).1) hd (fun H1 locs1 hP1 _ hS1 => kk H1 locs1 ?_ hS1 ls hl)
  have e := fm_w_set (sh := sh) (rh := fm_rh X) (kA := fm_kA X) (M := M) (M' := fm_pi M k j v) (k := k) (x := .inl (ci, fs)) (z := (fm_rh X k, .inr (ci, (fs.mapIdx (fm_fv (fm_rh X) M k)).set j (.int v)))) hk (by rw [fm_mapIdx_set hj]; rfl) (fun a ha => ⟨fm_u_ne _ _ _ ha, rfl⟩)
  rw [← e]
  exact hP1
theorem fr_putI (hB : fm_B sh X cc nL own ret) {idx ci j k : Nat} {v : Int32} {fs : List (Option Nat)} (hd : decode cc pc = .ok (.putfield idx, 3)) (hf : fm_lkP own idx ci j .int) (hk : sh[k]? = some (.inl (ci, fs))) (hj : fs[j]? = some none) (kk : fm_W sh X nL (pc + 3) lv st (fm_pi M k j v) Q) : fm_W sh X nL pc lv (.int v :: .ref (fm_rh X k) :: st) M Q := fr_put hB hd hf hk hj rfl rfl kk
theorem fr_iald (hB : fm_B sh X cc nL own ret) {k n : Nat} {i : Int32} (a : Nat) (hd : decode cc pc = .ok (.iaload, 1)) (hk : sh[k]? = some (.inr (0, n))) (hi : i = nI a) (ha : a < n) (hn : n < 2 ^ 31) (kk : fm_W sh X nL (pc + 1) lv (.int (M.1 k a) :: st) M Q) : fm_W sh X nL pc lv (.int i :: .ref (fm_rh X k) :: st) M Q := fun H locs hP hS ls hl => by
  subst hi
  have h1 := va_iald (p := fm_p X) (l := fm_l X) (e := fm_en X) (R := fm_R X) (m := fm_m X) (args := fm_ar X) (below := fm_bl X) (meth := fm_me X) (locs := locs) (cells := 0) (slots := 0) (Q := Q) (ls := ls) (rest := st) (D := fm_Dg X) (tys := fm_tys (fm_kA X)) hB.x hB.b hB.K hP k 0 (fm_w_get hk) rfl (vp_in_nI ha hn) hd
  rw [nI_clamp (Nat.lt_trans ha hn)] at h1
  exact h1 (kk H locs hP hS ls hl)
theorem fr_lald (hB : fm_B sh X cc nL own ret) {k n : Nat} {i : Int32} (a : Nat) (hd : decode cc pc = .ok (.laload, 1)) (hk : sh[k]? = some (.inr (1, n))) (hi : i = nI a) (ha : a < n) (hn : n < 2 ^ 31) (kk : fm_W sh X nL (pc + 1) lv (.long (M.2 k a) :: st) M Q) : fm_W sh X nL pc lv (.int i :: .ref (fm_rh X k) :: st) M Q := fun H locs hP hS ls hl => by
  subst hi
  have h1 := va_lald (p := fm_p X) (l := fm_l X) (e := fm_en X) (R := fm_R X) (m := fm_m X) (args := fm_ar X) (below := fm_bl X) (meth := fm_me X) (locs := locs) (cells := 0) (slots := 0) (Q := Q) (ls := ls) (rest := st) (D := fm_Dg X) (tys := fm_tys (fm_kA X)) hB.x hB.b hB.K hP k 1 (fm_w_get hk) rfl (vp_in_nI ha hn) hd
  rw [nI_clamp (Nat.lt_trans ha hn)] at h1
  exact h1 (kk H locs hP hS ls hl)
theorem fr_bald (hB : fm_B sh X cc nL own ret) {k n : Nat} {i : Int32} (a : Nat) (hd : decode cc pc = .ok (.baload, 1)) (hk : sh[k]? = some (.inr (2, n))) (hi : i = nI a) (ha : a < n) (hn : n < 2 ^ 31) (kk : fm_W sh X nL (pc + 1) lv (.int (M.1 k a) :: st) M Q) : fm_W sh X nL pc lv (.int i :: .ref (fm_rh X k) :: st) M Q := fun H locs hP hS ls hl => by
  subst hi
  have h1 := va_bald (p := fm_p X) (l := fm_l X) (e := fm_en X) (R := fm_R X) (m := fm_m X) (args := fm_ar X) (below := fm_bl X) (meth := fm_me X) (locs := locs) (cells := 0) (slots := 0) (Q := Q) (ls := ls) (rest := st) (D := fm_Dg X) (tys := fm_tys (fm_kA X)) hB.x hB.b hB.K hP k 2 (fm_w_get hk) rfl (vp_in_nI ha hn) hd
  rw [nI_clamp (Nat.lt_trans ha hn)] at h1
  exact h1 (kk H locs hP hS ls hl)
theorem fr_zald (hB : fm_B sh X cc nL own ret) {k n : Nat} {i : Int32} (a : Nat) (hd : decode cc pc = .ok (.baload, 1)) (hk : sh[k]? = some (.inr (3, n))) (hi : i = nI a) (ha : a < n) (hn : n < 2 ^ 31) (kk : fm_W sh X nL (pc + 1) lv (.int (M.1 k a) :: st) M Q) : fm_W sh X nL pc lv (.int i :: .ref (fm_rh X k) :: st) M Q := fun H locs hP hS ls hl => by
  subst hi
  have h1 := va_zald (p := fm_p X) (l := fm_l X) (e := fm_en X) (R := fm_R X) (m := fm_m X) (args := fm_ar X) (below := fm_bl X) (meth := fm_me X) (locs := locs) (cells := 0) (slots := 0) (Q := Q) (ls := ls) (rest := st) (D := fm_Dg X) (tys := fm_tys (fm_kA X)) hB.x hB.b hB.K hP k 3 (fm_w_get hk) rfl (vp_in_nI ha hn) hd
  rw [nI_clamp (Nat.lt_trans ha hn)] at h1
  exact h1 (kk H locs hP hS ls hl)
theorem fr_iast (hB : fm_B sh X cc nL own ret) {k n : Nat} {i : Int32} {x : Int32} (a : Nat) (hd : decode cc pc = .ok (.iastore, 1)) (hk : sh[k]? = some (.inr (0, n))) (hi : i = nI a) (ha : a < n) (hn : n < 2 ^ 31) (kk : fm_W sh X nL (pc + 1) lv st (fm_pi M k a x) Q) : fm_W sh X nL pc lv (.int x :: .int i :: .ref (fm_rh X k) :: st) M Q := fun H locs hP hS ls hl => by
  subst hi
  have h1 := va_iast (p := fm_p X) (l := fm_l X) (e := fm_en X) (R := fm_R X) (m := fm_m X) (args := fm_ar X) (below := fm_bl X) (meth := fm_me X) (cells := 0) (slots := 0) (Q := Q) (ls := ls) (rest := st) (x := x) (D := fm_Dg X) (tys := fm_tys (fm_kA X)) hB.x hB.b hB.K hP (hB.D.d _ _) hS k 0 (fm_w_get hk) rfl (vp_in_nI ha hn) hd
  rw [nI_clamp (Nat.lt_trans ha hn)] at h1
  refine h1 (fun H1 locs1 hP1 _ hS1 => kk H1 locs1 ?_ hS1 ls hl)
  have e := fm_w_set (sh := sh) (rh := fm_rh X) (kA := fm_kA X) (M := M) (M' := fm_pi M k a x) (k := k) (x := .inr (0, n)) (z := (fm_rh X k, .inl (fm_kA X 0, n, .inl (upd (M.1 k) a x)))) hk (by simp only [fm_e, fm_ac, fm_u_row]; rfl) (fun b h9 => ⟨fm_u_ne _ _ _ h9, rfl⟩)
  rw [← e]
  exact hP1
theorem fr_last (hB : fm_B sh X cc nL own ret) {k n : Nat} {i : Int32} {x : Int64} (a : Nat) (hd : decode cc pc = .ok (.lastore, 1)) (hk : sh[k]? = some (.inr (1, n))) (hi : i = nI a) (ha : a < n) (hn : n < 2 ^ 31) (kk : fm_W sh X nL (pc + 1) lv st (fm_pl M k a x) Q) : fm_W sh X nL pc lv (.long x :: .int i :: .ref (fm_rh X k) :: st) M Q := fun H locs hP hS ls hl => by
  subst hi
  have h1 := va_last (p := fm_p X) (l := fm_l X) (e := fm_en X) (R := fm_R X) (m := fm_m X) (args := fm_ar X) (below := fm_bl X) (meth := fm_me X) (cells := 0) (slots := 0) (Q := Q) (ls := ls) (rest := st) (x := x) (D := fm_Dg X) (tys := fm_tys (fm_kA X)) hB.x hB.b hB.K hP (hB.D.d _ _) hS k 1 (fm_w_get hk) rfl (vp_in_nI ha hn) hd
  rw [nI_clamp (Nat.lt_trans ha hn)] at h1
  refine h1 (fun H1 locs1 hP1 _ hS1 => kk H1 locs1 ?_ hS1 ls hl)
  have e := fm_w_set (sh := sh) (rh := fm_rh X) (kA := fm_kA X) (M := M) (M' := fm_pl M k a x) (k := k) (x := .inr (1, n)) (z := (fm_rh X k, .inl (fm_kA X 1, n, .inr (.inl (vp_updL (M.2 k) a x))))) hk (by simp only [fm_e, fm_ac, fm_u_row]; rfl) (fun b h9 => ⟨rfl, fm_u_ne _ _ _ h9⟩)
  rw [← e]
  exact hP1
theorem fr_bast (hB : fm_B sh X cc nL own ret) {k n : Nat} {i : Int32} {x : Int32} (a : Nat) (hd : decode cc pc = .ok (.bastore, 1)) (hk : sh[k]? = some (.inr (2, n))) (hi : i = nI a) (ha : a < n) (hn : n < 2 ^ 31) (kk : fm_W sh X nL (pc + 1) lv st (fm_pi M k a (vp_nar .byte x)) Q) : fm_W sh X nL pc lv (.int x :: .int i :: .ref (fm_rh X k) :: st) M Q := fun H locs hP hS ls hl => by
  subst hi
  have h1 := va_bast (p := fm_p X) (l := fm_l X) (e := fm_en X) (R := fm_R X) (m := fm_m X) (args := fm_ar X) (below := fm_bl X) (meth := fm_me X) (cells := 0) (slots := 0) (Q := Q) (ls := ls) (rest := st) (x := x) (D := fm_Dg X) (tys := fm_tys (fm_kA X)) hB.x hB.b hB.K hP (hB.D.d _ _) hS k 2 (fm_w_get hk) rfl (vp_in_nI ha hn) hd
  rw [nI_clamp (Nat.lt_trans ha hn)] at h1
  refine h1 (fun H1 locs1 hP1 _ hS1 => kk H1 locs1 ?_ hS1 ls hl)
  have e := fm_w_set (sh := sh) (rh := fm_rh X) (kA := fm_kA X) (M := M) (M' := fm_pi M k a (vp_nar .byte x)) (k := k) (x := .inr (2, n)) (z := (fm_rh X k, .inl (fm_kA X 2, n, .inl (upd (M.1 k) a (vp_nar .byte x))))) hk (by simp only [fm_e, fm_ac, fm_u_row]; rfl) (fun b h9 => ⟨fm_u_ne _ _ _ h9, rfl⟩)
  rw [← e]
  exact hP1
theorem fr_zast (hB : fm_B sh X cc nL own ret) {k n : Nat} {i : Int32} {x : Int32} (a : Nat) (hd : decode cc pc = .ok (.bastore, 1)) (hk : sh[k]? = some (.inr (3, n))) (hi : i = nI a) (ha : a < n) (hn : n < 2 ^ 31) (kk : fm_W sh X nL (pc + 1) lv st (fm_pi M k a (vp_nar .boolean x)) Q) : fm_W sh X nL pc lv (.int x :: .int i :: .ref (fm_rh X k) :: st) M Q := fun H locs hP hS ls hl => by
  subst hi
  have h1 := va_zast (p := fm_p X) (l := fm_l X) (e := fm_en X) (R := fm_R X) (m := fm_m X) (args := fm_ar X) (below := fm_bl X) (meth := fm_me X) (cells := 0) (slots := 0) (Q := Q) (ls := ls) (rest := st) (x := x) (D := fm_Dg X) (tys := fm_tys (fm_kA X)) hB.x hB.b hB.K hP (hB.D.d _ _) hS k 3 (fm_w_get hk) rfl (vp_in_nI ha hn) hd
  rw [nI_clamp (Nat.lt_trans ha hn)] at h1
  refine h1 (fun H1 locs1 hP1 _ hS1 => kk H1 locs1 ?_ hS1 ls hl)
  have e := fm_w_set (sh := sh) (rh := fm_rh X) (kA := fm_kA X) (M := M) (M' := fm_pi M k a (vp_nar .boolean x)) (k := k) (x := .inr (3, n)) (z := (fm_rh X k, .inl (fm_kA X 3, n, .inl (upd (M.1 k) a (vp_nar .boolean x))))) hk (by simp only [fm_e, fm_ac, fm_u_row]; rfl) (fun b h9 => ⟨fm_u_ne _ _ _ h9, rfl⟩)
  rw [← e]
  exact hP1
theorem fr_aald (hB : fm_B sh X cc nL own ret) {k n : Nat} {i : Int32} (a : Nat) (hd : decode cc pc = .ok (.aaload, 1)) (hk : sh[k]? = some (.inr (4, n))) (hi : i = nI a) (ha : a < n) (hn : n < 2 ^ 31) (kk : fm_W sh X nL (pc + 1) lv (.ref (fm_rh X (k + 1 + 2 * a)) :: st) M Q) : fm_W sh X nL pc lv (.int i :: .ref (fm_rh X k) :: st) M Q := fun H locs hP hS ls hl => by
  subst hi
  have h1 := va_aldq (p := fm_p X) (l := fm_l X) (e := fm_en X) (R := fm_R X) (m := fm_m X) (args := fm_ar X) (below := fm_bl X) (meth := fm_me X) (locs := locs) (cells := 0) (slots := 0) (Q := Q) (ls := ls) (rest := st) (D := fm_Dg X) (tys := fm_tys (fm_kA X)) hB.x hB.b hB.K hP k 4 (fm_w_get hk) rfl (vp_in_nI ha hn) hd
  rw [nI_clamp (Nat.lt_trans ha hn)] at h1
  exact h1 (kk H locs hP hS ls hl)
theorem fr_alen (hB : fm_B sh X cc nL own ret) {k t n : Nat} (hd : decode cc pc = .ok (.arraylength, 1)) (hk : sh[k]? = some (.inr (t, n))) (ht : t < 5) (kk : fm_W sh X nL (pc + 1) lv (.int (nI n) :: st) M Q) : fm_W sh X nL pc lv (.ref (fm_rh X k) :: st) M Q := fun H locs hP hS ls hl => by
  have ht5 : ∃ ty, (fm_tys (fm_kA X))[t]? = some (fm_kA X t, ty) := by
    match t, ht with
    | 0, _ => exact ⟨_, rfl⟩
    | 1, _ => exact ⟨_, rfl⟩
    | 2, _ => exact ⟨_, rfl⟩
    | 3, _ => exact ⟨_, rfl⟩
    | 4, _ => exact ⟨_, rfl⟩
  obtain ⟨ty, h2⟩ := ht5
  exact va_alen (D := fm_Dg X) (tys := fm_tys (fm_kA X)) hB.x hB.b hB.K hP k t (fm_w_get hk) h2 rfl hd (kk H locs hP hS ls hl)
theorem fr_getPT (hB : fm_B sh X cc nL own ret) {idx : Nat} (hd : decode cc pc = .ok (.getstatic idx, 3)) (hf : Cond.fieldLink own idx "FaultGraph$Plant" "PART_TABLES" "[J" ∈ fm_tb) (kk : ∀ t : Nat, va_T .long t 6 (fun j => .long (fm_PT j)) (fm_A X) (fm_s X) (fm_s X).heap → fm_W sh X nL (pc + 3) lv (.ref t :: st) M Q) : fm_W sh X nL pc lv st M Q := fun H locs hP hS ls hl => by
  obtain ⟨⟨t, h1, h2⟩, -⟩ := hB.G
  exact va_gets hB.x hB.b h1 hS hB.ow (hB.tb _ hf) (fun _ h => h) hd (kk t h2 H locs hP hS ls hl)
theorem fr_PTld (hB : fm_B sh X cc nL own ret) {t : Nat} {i : Int32} (a : Nat) (hT : va_T .long t 6 (fun j => .long (fm_PT j)) (fm_A X) (fm_s X) (fm_s X).heap) (hd : decode cc pc = .ok (.laload, 1)) (hi : i = nI a) (ha : a < 6) (kk : fm_W sh X nL (pc + 1) lv (.long (fm_PT a) :: st) M Q) : fm_W sh X nL pc lv (.int i :: .ref t :: st) M Q := fun H locs hP hS ls hl => by
  subst hi
  exact va_tl hB.x hB.b hT hS (vp_in_nI ha (by decide)) (v := .long (fm_PT a)) (by rw [nI_clamp (Nat.lt_trans ha (by decide))]) hd (kk H locs hP hS ls hl)
theorem fr_PTlen (hB : fm_B sh X cc nL own ret) {t : Nat} (hT : va_T .long t 6 (fun j => .long (fm_PT j)) (fm_A X) (fm_s X) (fm_s X).heap) (hd : decode cc pc = .ok (.arraylength, 1)) (kk : fm_W sh X nL (pc + 1) lv (.int (nI 6) :: st) M Q) : fm_W sh X nL pc lv (.ref t :: st) M Q := fun H locs hP hS ls hl => by
  exact va_tlen hB.x hB.b hT hS (v := nI 6) rfl hd (kk H locs hP hS ls hl)
theorem fr_ireturn {post : Option Value → fm_M → Prop} (hB : fm_B sh X cc nL own (some .int)) {v : Int32} (hd : decode cc pc = .ok (.ireturn, 1)) (hp : post (some (.int v)) M) : fm_W sh X nL pc lv [.int v] M (fm_Q sh X post) := fun H locs hP hS ls hl =>
  W.iret hB.x hB.b hB.re (fun t ht _ => ⟨⟨some (.int v), M, rfl, hp, by rw [ht]; exact hP⟩, hS.F ht⟩) hS.2.2 hd hB.lk
theorem fr_zreturn {post : Option Value → fm_M → Prop} (hB : fm_B sh X cc nL own (some .boolean)) {v : Int32} (hd : decode cc pc = .ok (.ireturn, 1)) (hn : narrow .boolean (.int v) = .int v) (hp : post (some (.int v)) M) : fm_W sh X nL pc lv [.int v] M (fm_Q sh X post) := fun H locs hP hS ls hl =>
  W.zret hB.x hB.b hB.re hn (fun t ht _ => ⟨⟨some (.int v), M, rfl, hp, by rw [ht]; exact hP⟩, hS.F ht⟩) hS.2.2 hd hB.lk
theorem fr_lreturn {post : Option Value → fm_M → Prop} (hB : fm_B sh X cc nL own (some .long)) {v : Int64} (hd : decode cc pc = .ok (.lreturn, 1)) (hp : post (some (.long v)) M) : fm_W sh X nL pc lv [.long v] M (fm_Q sh X post) := fun H locs hP hS ls hl =>
  W.lret hB.x hB.b hB.re (fun t ht _ => ⟨⟨some (.long v), M, rfl, hp, by rw [ht]; exact hP⟩, hS.F ht⟩) hS.2.2 hd hB.lk
theorem fr_return {post : Option Value → fm_M → Prop} (hB : fm_B sh X cc nL own none) (hd : decode cc pc = .ok (.return_, 1)) (hp : post none M) : fm_W sh X nL pc lv [] M (fm_Q sh X post) := fun H locs hP hS ls hl =>
  W.vret hB.x hB.b hB.re (fun t ht _ => ⟨⟨none, M, rfl, hp, by rw [ht]; exact hP⟩, hS.F ht⟩) hS.2.2 hd hB.lk
theorem fr_areturn {post : Option Value → fm_M → Prop} {C : String} (hB : fm_B sh X cc nL own (some (.object C))) {v : Value} (hd : decode cc pc = .ok (.areturn, 1)) (hv : v = .null ∨ ∃ a, v = .ref a) (hp : post (some v) M) : fm_W sh X nL pc lv [v] M (fm_Q sh X post) := fun H locs hP hS ls hl =>
  W.aret hB.x hB.b hB.re (Or.inl ⟨C, rfl⟩) hv (fun t ht _ => ⟨⟨some v, M, rfl, hp, by rw [ht]; exact hP⟩, hS.F ht⟩) hS.2.2 hd hB.lk
/-- a call's words -/
def fm_lkM (own : String) (idx : Nat) (mt : MethodName × ByteArray × Nat × Option FieldType) (nA : Nat) : Prop := Cond.methodLink own idx mt.1 ∈ fm_tb ∧ Cond.initialized mt.1.cls ∈ fm_tb ∧ Cond.code mt.1 mt.2.1 mt.2.2.1 mt.2.2.2 ∈ fm_tb ∧ (mt.1.cls ≠ "java/lang/invoke/MethodHandle" ∧ mt.1.cls ≠ "java/lang/invoke/VarHandle" ∧ (parseMethodDescriptor mt.1.desc).map (fun d => d.parameters.length) = some nA)
def fm_lkV (own : String) (idx ci : Nat) (mt : MethodName × ByteArray × Nat × Option FieldType) (nA : Nat) : Prop := fm_lkM own idx mt nA ∧ Cond.instanceMethod mt.1 ∈ fm_tb ∧ Cond.selects mt.1.cls mt.1 mt.1 ∈ fm_tb ∧ ∃ (T : u_T) (N : Nat), vwCl[ci]? = some (mt.1.cls, T, N)
def fm_lkS (own : String) (idx : Nat) (mt : MethodName × ByteArray × Nat × Option FieldType) (nA : Nat) : Prop := fm_lkM own idx mt nA ∧ Cond.static mt.1 ∈ fm_tb
theorem fm_good {y : MethodName} {cc : ByteArray} {n : Nat} {ret : Option FieldType} (hc : Cond.code y cc n ret ∈ fm_tb) : GoodIn fm_tb (fm_ws y cc n ret) := by
  intro w hw
  have h1 : w ∈ fm_tb := by
    rcases List.mem_cons.mp hw with rfl | h
    · exact hc
    · exact h
  exact ⟨h1, good_of_word (List.mem_filter.mp h1).2⟩
theorem fm_blind {E : fm_E} {av : List Value} {sz : Nat} : FrameBlind (fm_Pc sh E av M sz) := by
  intro a U g mk h
  obtain ⟨h1, h2, h3, h4, h5, h6⟩ := h
  exact ⟨h1, h2, h3, va_K.moved (u := U) (U := U.calling g mk a) (Vm.Alike.refl U.vm) h4, h5, fm_G.same (u := U) (U := U.calling g mk a) rfl h6⟩
theorem fm_Asub (hB : fm_B sh X cc nL own ret) {H : Heap} (hz : (fm_s X).heap.size ≤ H.size) : ∀ q, fm_Ad sh (fm_rh X) H.size q → fm_A X q := by
  intro q h
  rcases h with ⟨i, x, hx, rfl⟩ | h
  · exact hB.D.2 i x hx
  · exact hB.A q (Nat.le_trans hz h)
theorem fm_pre (hB : fm_B sh X cc nL own ret) {H : Heap} {locs : List Loc} {av : List Value} (hP : va_P (fm_Dg X) vwCl (fm_w sh (fm_rh X) (fm_kA X) M) H) (hS : va_S (fm_A X) (fm_s X).heap H locs) : ∀ U : State, U.heap = H → (fm_s X).WarmedH U.vm → fm_Pc sh (fm_EX X) av M H.size av.toArray U := by
  intro U hU hW
  refine ⟨rfl, by rw [hU], by rw [hU]; exact hP, va_K.moved hW.alike hB.K, ⟨hB.D.1, fun _ _ _ => trivial⟩, ?_⟩
  rw [hU]
  exact ((hB.G.kept (fun a h1 h2 => hS.2.1 a h1 h2)).narrow (fm_Asub hB hS.1)).warm hW
theorem fm_behind (hB : fm_B sh X cc nL own ret) {H : Heap} {locs : List Loc} {ls : Array Slot} {st0 rest : List Value} {a : Array Value} {post : Option Value → fm_M → Prop} (hr : va_Run (fm_p X) (fm_l X) (fm_en X) (fm_R X) (fm_s X) (fm_m X) (fm_ar X) (fm_bl X) (fm_me X) (fm_c X) H locs 0 0 0 0 (F0 (fm_m X) pc ls st0) rest (fm_Qc sh (fm_EX X) (fm_Ad sh (fm_rh X) H.size) post a) (fm_Ad sh (fm_rh X) H.size)) (hS : va_S (fm_A X) (fm_s X).heap H locs) (hl : fm_lv ls nL lv)
    (kk : ∀ (r : Option Value) (M' : fm_M), post r M' → fm_W sh X nL (pc + 3) lv (r.toList ++ rest) M' Q) : W (fm_p X) (fm_l X) (fm_en X) (fm_R X) (fm_s X) (fm_m X) (fm_ar X) (fm_bl X) (fm_me X) (fm_c X) H locs 0 0 Q (F0 (fm_m X) pc ls st0) := by
  intro T hT Xs
  obtain ⟨v, st₀, t, T', L, h0, X', hL, e1, e2, ⟨⟨r, M', hv, hp, hPb⟩, hz, hk⟩, stp⟩ := hr T hT Xs
  cases hv
  rw [h0] at hz hk
  have hsub := fm_Asub hB hS.1
  obtain ⟨t2, a1, b1⟩ := kk v M' hp T'.heap (locs ++ L) (by rw [e1]; exact hPb) ⟨Nat.le_trans hS.1 (by rw [e1]; exact hz), fun q h1 h2 => by
      rw [e1, hk q (Nat.lt_of_lt_of_le h1 hS.1) (fun z => h2 (hsub q z))]
      exact hS.2.1 q h1 h2, fun q hq => by
      rcases List.mem_append.mp hq with h | h
      · exact hS.2.2 q h
      · exact hsub _ (hL q h)⟩ ls hl T' rfl X'
  exact ⟨t2, stp t2 a1, b1⟩
theorem fr_callV (hB : fm_B sh X cc nL own ret) {idx ci k nA h : Nat} {fs : List (Option Nat)} {mt : MethodName × ByteArray × Nat × Option FieldType} {post : Option Value → fm_M → Prop} (As rest : List Value) (hd : decode cc pc = .ok (.invokevirtual idx, 3)) (hf : fm_lkV own idx ci mt nA) (hk : sh[k]? = some (.inl (ci, fs))) (hC : fm_C sh (fm_EX X) mt h (.ref (fm_rh X k) :: As) M post) (hA : As.length = nA) (hst : st = As.reverse ++ .ref (fm_rh X k) :: rest) (hcat : (rest.map fun v => v.category).sum ≤ 8) (hR : h + 1 ≤ (fm_R X).frames ∧ 8 + (mt.2.2.1 + 11) + 64 * h ≤ (fm_R X).locals)
    (kk : ∀ (r : Option Value) (M' : fm_M), post r M' → fm_W sh X nL (pc + 3) lv (r.toList ++ rest) M' Q) : fm_W sh X nL pc lv st M Q := fun H locs hP hS ls hl => by
  subst hst
  obtain ⟨⟨h1, h2, h3, h4⟩, h5, h6, T, N, h7⟩ := hf
  refine fm_behind hB (va_runV (cc := cc) (nL := nL) (own := own) (Ts := fm_tb) (As := As) (rest := rest) (b := fm_rh X k) (C := mt.1.cls) (n := nA) ⟨hB.x, hB.b, hB.ml, hB.ow, hB.tb⟩ (hC H.size) (cwV nA hB.tb (by
    intro w hw
    rcases List.mem_append.mp hw with h8 | h8
    · have h9 : w ∈ fm_tb := by
        rcases List.mem_cons.mp h8 with rfl | h8
        · exact h1
        rcases List.mem_cons.mp h8 with rfl | h8
        · exact h5
        rcases List.mem_cons.mp h8 with rfl | h8
        · exact h6
        rcases List.mem_cons.mp h8 with rfl | h8
        · exact h2
        cases h8
      exact ⟨h9, good_of_word (List.mem_filter.mp h9).2⟩
    · exact fm_good h3 w h8) rfl rfl rfl ⟨rfl, h4⟩ hR) ⟨fm_blind, va_recv hB.K hP h7 (fm_w_get hk), fm_pre hB hP hS⟩ rfl hA hl.2.1 rfl (lv_room hcat) hd ⟨Nat.zero_le _, Nat.zero_le _⟩) hS hl kk
theorem fr_callS (hB : fm_B sh X cc nL own ret) {idx nA h : Nat} {mt : MethodName × ByteArray × Nat × Option FieldType} {post : Option Value → fm_M → Prop} (As rest : List Value) (hd : decode cc pc = .ok (.invokestatic idx, 3)) (hf : fm_lkS own idx mt nA) (hC : fm_C sh (fm_EX X) mt h As M post) (hA : As.length = nA) (hst : st = As.reverse ++ rest) (hcat : (rest.map fun v => v.category).sum ≤ 8) (hR : h + 1 ≤ (fm_R X).frames ∧ 8 + (mt.2.2.1 + 11) + 64 * h ≤ (fm_R X).locals)
    (kk : ∀ (r : Option Value) (M' : fm_M), post r M' → fm_W sh X nL (pc + 3) lv (r.toList ++ rest) M' Q) : fm_W sh X nL pc lv st M Q := fun H locs hP hS ls hl => by
  subst hst
  obtain ⟨⟨h1, h2, h3, h4⟩, h5⟩ := hf
  refine fm_behind hB (va_runS (cc := cc) (nL := nL) (own := own) (Ts := fm_tb) (As := As) (rest := rest) (n := nA) ⟨hB.x, hB.b, hB.ml, hB.ow, hB.tb⟩ (hC H.size) (va_cwS nA hB.tb (by
    intro w hw
    rcases List.mem_append.mp hw with h8 | h8
    · have h9 : w ∈ fm_tb := by
        rcases List.mem_cons.mp h8 with rfl | h8
        · exact h1
        rcases List.mem_cons.mp h8 with rfl | h8
        · exact h5
        rcases List.mem_cons.mp h8 with rfl | h8
        · exact h2
        cases h8
      exact ⟨h9, good_of_word (List.mem_filter.mp h9).2⟩
    · exact fm_good h3 w h8) rfl rfl rfl h4 hR) ⟨fm_blind, fm_pre hB hP hS⟩ rfl hA hl.2.1 rfl (lv_room hcat) hd ⟨Nat.zero_le _, Nat.zero_le _⟩) hS hl kk
/-- FaultGraph.says, a nest mate's private static method: the link stands in fm_G -/
theorem fr_callN (hB : fm_B sh X cc nL own ret) {idx nA h : Nat} {mt : MethodName × ByteArray × Nat × Option FieldType} {post : Option Value → fm_M → Prop} (As rest : List Value) (hd : decode cc pc = .ok (.invokestatic idx, 3)) (hf : va_Nw (.methodLinkNest own idx mt.1 "FaultGraph") (fm_s X)) (hw : Cond.initialized mt.1.cls ∈ fm_tb ∧ Cond.code mt.1 mt.2.1 mt.2.2.1 mt.2.2.2 ∈ fm_tb ∧ Cond.static mt.1 ∈ fm_tb ∧ (mt.1.cls ≠ "java/lang/invoke/MethodHandle" ∧ mt.1.cls ≠ "java/lang/invoke/VarHandle" ∧ (parseMethodDescriptor mt.1.desc).map (fun d => d.parameters.length) = some nA)) (hC : fm_C sh (fm_EX X) mt h As M post) (hA : As.length = nA) (hst : st = As.reverse ++ rest) (hcat : (rest.map fun v => v.category).sum ≤ 8) (hR : h + 1 ≤ (fm_R X).frames ∧ 8 + (mt.2.2.1 + 11) + 64 * h ≤ (fm_R X).locals)
    (kk : ∀ (r : Option Value) (M' : fm_M), post r M' → fm_W sh X nL (pc + 3) lv (r.toList ++ rest) M' Q) : fm_W sh X nL pc lv st M Q := fun H locs hP hS ls hl => by
  subst hst
  obtain ⟨h2, h3, h5, h4⟩ := hw
  exact fm_behind hB (va_runSN (cc := cc) (nL := nL) (own := own) (Ts := fm_tb) (As := As) (rest := rest) (n := nA) ⟨hB.x, hB.b, hB.ml, hB.ow, hB.tb⟩ (hC H.size) ⟨va_cnB nA hB.tb (fm_good h3) rfl rfl rfl hf (hB.tb _ h2) h4 hR, hB.tb _ h5, trivial⟩ ⟨fm_blind, fm_pre hB hP hS⟩ rfl hA hl.2.1 rfl (lv_room hcat) hd ⟨Nat.zero_le _, Nat.zero_le _⟩) hS hl kk
/-- Math.max, Math.min -/
theorem fr_max (hB : fm_B sh X cc nL own ret) {idx : Nat} {x y : Int32} (hd : decode cc pc = .ok (.invokestatic idx, 3)) (h1 : Cond.methodLink own idx Lib.Math.max.name ∈ fm_tb) (h2 : Cond.static Lib.Math.max.name ∈ fm_tb) (h3 : Cond.initialized "java/lang/Math" ∈ fm_tb) (h4 : Cond.code Lib.Math.max.name Lib.Math.max.code 2 (some .int) ∈ fm_tb) (hcat : (st.map fun v => v.category).sum ≤ 8) (hR : 1 ≤ (fm_R X).frames ∧ 21 ≤ (fm_R X).locals) (kk : fm_W sh X nL (pc + 3) lv (.int (if x < y then y else x) :: st) M Q) : fm_W sh X nL pc lv (.int y :: .int x :: st) M Q := fun H locs hP hS ls hl =>
  va_mmax hB.x hB.b (by rw [hB.ml, hl.2.1]) hB.ow (hB.tb _ h1) (hB.tb _ h2) (hB.tb _ h3) (hB.tb _ h4) hR.1 (Nat.le_trans (Nat.add_le_add_right hcat 13) hR.2) (Nat.zero_le _) (Nat.zero_le _) hd (kk H locs hP hS ls hl)
theorem fr_min (hB : fm_B sh X cc nL own ret) {idx : Nat} {x y : Int32} (hd : decode cc pc = .ok (.invokestatic idx, 3)) (h1 : Cond.methodLink own idx Lib.Math.min.name ∈ fm_tb) (h2 : Cond.static Lib.Math.min.name ∈ fm_tb) (h3 : Cond.initialized "java/lang/Math" ∈ fm_tb) (h4 : Cond.code Lib.Math.min.name Lib.Math.min.code 2 (some .int) ∈ fm_tb) (hcat : (st.map fun v => v.category).sum ≤ 8) (hR : 1 ≤ (fm_R X).frames ∧ 21 ≤ (fm_R X).locals) (kk : fm_W sh X nL (pc + 3) lv (.int (if y < x then y else x) :: st) M Q) : fm_W sh X nL pc lv (.int y :: .int x :: st) M Q := fun H locs hP hS ls hl =>
  va_mmin hB.x hB.b (by rw [hB.ml, hl.2.1]) hB.ow (hB.tb _ h1) (hB.tb _ h2) (hB.tb _ h3) (hB.tb _ h4) hR.1 (Nat.le_trans (Nat.add_le_add_right hcat 13) hR.2) (Nat.zero_le _) (Nat.zero_le _) hd (kk H locs hP hS ls hl)
/-- System.arraycopy over rows of ints, of longs -/
def fm_lkC (own : String) (idx : Nat) : Prop := Cond.methodLink own idx arraycopyName ∈ fm_tb ∧ Cond.native arraycopyName ∈ fm_tb ∧ Cond.static arraycopyName ∈ fm_tb ∧ Cond.initialized "java/lang/System" ∈ fm_tb
theorem fr_copyi (hB : fm_B sh X cc nL own ret) {idx k0 k1 n0 n1 : Nat} {sp dp n : Int32} (a b c : Nat) (hd : decode cc pc = .ok (.invokestatic idx, 3)) (hf : fm_lkC own idx) (hk0 : sh[k0]? = some (.inr (0, n0))) (hk1 : sh[k1]? = some (.inr (0, n1))) (ea : sp = nI a) (eb : dp = nI b) (ec : n = nI c) (h4 : a + c ≤ n0) (h5 : b + c ≤ n1) (hn0 : n0 < 2 ^ 31) (hn1 : n1 < 2 ^ 31) (hcat : (st.map fun v => v.category).sum ≤ 8) (hR : 1 ≤ (fm_R X).frames ∧ 8 + (nativeFrameWords "java/lang/System" "arraycopy" 5 + 11) ≤ (fm_R X).locals)
    (kk : fm_W sh X nL (pc + 3) lv st (fm_row M.1 k1 (va_cpy (M.1 k0) (M.1 k1) a b c), M.2) Q) : fm_W sh X nL pc lv (.int n :: .int dp :: .ref (fm_rh X k1) :: .int sp :: .ref (fm_rh X k0) :: st) M Q := fun H locs hP hS ls hl => by
  subst ea; subst eb; subst ec
  obtain ⟨h1, h2, h3, h6⟩ := hf
  have ga : a < 2 ^ 31 := by omega
  have gb : b < 2 ^ 31 := by omega
  have gc : c < 2 ^ 31 := by omega
  have h9 := va_copyi (p := fm_p X) (l := fm_l X) (e := fm_en X) (R := fm_R X) (m := fm_m X) (args := fm_ar X) (below := fm_bl X) (meth := fm_me X) (cells := 0) (slots := 0) (Q := Q) (ls := ls) (rest := st) (D := fm_Dg X) (tys := fm_tys (fm_kA X)) hB.x hB.b (by rw [hB.ml, hl.2.1]) hB.ow (hB.tb _ h1) (hB.tb _ h2) (hB.tb _ h3) (hB.tb _ h6) hB.K hP (hB.D.d _ _) hS k0 k1 0 0 (fm_w_get hk0) (fm_w_get hk1) rfl rfl rfl (sp := nI a) (dp := nI b) (n := nI c) (nI_pos ga) (nI_pos gb) (nI_pos gc) (by rw [nI_clamp ga, nI_clamp gc]; exact h4) (by rw [nI_clamp gb, nI_clamp gc]; exact h5) (fun i _ => rfl) hR.1 (Nat.le_trans (Nat.add_le_add_right hcat _) hR.2) hd
  rw [nI_clamp ga, nI_clamp gb, nI_clamp gc] at h9
  refine h9 (fun H1 locs1 hP1 _ hS1 => kk H1 locs1 ?_ hS1 ls hl)
  have e := fm_w_set (sh := sh) (rh := fm_rh X) (kA := fm_kA X) (M := M) (M' := (fm_row M.1 k1 (va_cpy (M.1 k0) (M.1 k1) a b c), M.2)) (k := k1) (x := .inr (0, n1)) (z := (fm_rh X k1, .inl (fm_kA X 0, n1, .inl (va_cpy (M.1 k0) (M.1 k1) a b c)))) hk1 (by simp only [fm_e, fm_ac, fm_row_same]) (fun x h8 => ⟨fm_row_ne _ _ h8, rfl⟩)
  rw [← e]
  exact hP1
theorem fr_copyl (hB : fm_B sh X cc nL own ret) {idx k0 k1 n0 n1 : Nat} {sp dp n : Int32} (a b c : Nat) (hd : decode cc pc = .ok (.invokestatic idx, 3)) (hf : fm_lkC own idx) (hk0 : sh[k0]? = some (.inr (1, n0))) (hk1 : sh[k1]? = some (.inr (1, n1))) (ea : sp = nI a) (eb : dp = nI b) (ec : n = nI c) (h4 : a + c ≤ n0) (h5 : b + c ≤ n1) (hn0 : n0 < 2 ^ 31) (hn1 : n1 < 2 ^ 31) (hcat : (st.map fun v => v.category).sum ≤ 8) (hR : 1 ≤ (fm_R X).frames ∧ 8 + (nativeFrameWords "java/lang/System" "arraycopy" 5 + 11) ≤ (fm_R X).locals)
    (kk : fm_W sh X nL (pc + 3) lv st (M.1, fm_row M.2 k1 (va_cpy (M.2 k0) (M.2 k1) a b c)) Q) : fm_W sh X nL pc lv (.int n :: .int dp :: .ref (fm_rh X k1) :: .int sp :: .ref (fm_rh X k0) :: st) M Q := fun H locs hP hS ls hl => by
  subst ea; subst eb; subst ec
  obtain ⟨h1, h2, h3, h6⟩ := hf
  have ga : a < 2 ^ 31 := by omega
  have gb : b < 2 ^ 31 := by omega
  have gc : c < 2 ^ 31 := by omega
  have h9 := va_copyl (p := fm_p X) (l := fm_l X) (e := fm_en X) (R := fm_R X) (m := fm_m X) (args := fm_ar X) (below := fm_bl X) (meth := fm_me X) (cells := 0) (slots := 0) (Q := Q) (ls := ls) (rest := st) (D := fm_Dg X) (tys := fm_tys (fm_kA X)) hB.x hB.b (by rw [hB.ml, hl.2.1]) hB.ow (hB.tb _ h1) (hB.tb _ h2) (hB.tb _ h3) (hB.tb _ h6) hB.K hP (hB.D.d _ _) hS k0 k1 1 1 (fm_w_get hk0) (fm_w_get hk1) rfl rfl rfl (sp := nI a) (dp := nI b) (n := nI c) (nI_pos ga) (nI_pos gb) (nI_pos gc) (by rw [nI_clamp ga, nI_clamp gc]; exact h4) (by rw [nI_clamp gb, nI_clamp gc]; exact h5) (fun i _ => rfl) hR.1 (Nat.le_trans (Nat.add_le_add_right hcat _) hR.2) hd
  rw [nI_clamp ga, nI_clamp gb, nI_clamp gc] at h9
  refine h9 (fun H1 locs1 hP1 _ hS1 => kk H1 locs1 ?_ hS1 ls hl)
  have e := fm_w_set (sh := sh) (rh := fm_rh X) (kA := fm_kA X) (M := M) (M' := (M.1, fm_row M.2 k1 (va_cpy (M.2 k0) (M.2 k1) a b c))) (k := k1) (x := .inr (1, n1)) (z := (fm_rh X k1, .inl (fm_kA X 1, n1, .inr (.inl (va_cpy (M.2 k0) (M.2 k1) a b c))))) hk1 (by simp only [fm_e, fm_ac, fm_row_same]) (fun x h8 => ⟨rfl, fm_row_ne _ _ h8⟩)
  rw [← e]
  exact hP1
end FMR
