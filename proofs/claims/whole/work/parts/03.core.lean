/-! ===== core: a world of fixed shape, its memory of ints and longs; the judgement fm_W and its rows ===== -/
abbrev fm_M : Type := (Nat → Nat → Int32) × (Nat → Nat → Int64)
abbrev fm_S : Type := (Nat × List (Option Nat)) ⊕ (Nat × Nat)
def fm_fv (rh : Nat → Nat) (M : fm_M) (k j : Nat) (o : Option Nat) : Value := match o with
  | some r => .ref (rh r)
  | none => .int (M.1 k j)
def fm_ac (rh : Nat → Nat) (M : fm_M) (k t : Nat) : (Nat → Int32) ⊕ (Nat → Int64) ⊕ (Nat → UInt32) ⊕ (Nat → UInt64) ⊕ (Nat → Option Nat) :=
  match t with
  | 1 => .inr (.inl (M.2 k))
  | 4 => .inr (.inr (.inr (.inr (fun j => some (rh (k + 1 + 2 * j))))))
  | _ => .inl (M.1 k)
def fm_e (rh : Nat → Nat) (kA : Nat → ClassId) (M : fm_M) (k : Nat) (x : fm_S) : Nat × va_E := match x with
  | .inl q => (rh k, .inr (q.1, q.2.mapIdx (fm_fv rh M k)))
  | .inr q => (rh k, .inl (kA q.1, q.2, fm_ac rh M k q.1))
def fm_w (sh : List fm_S) (rh : Nat → Nat) (kA : Nat → ClassId) (M : fm_M) : va_W := sh.mapIdx (fm_e rh kA M)
def fm_tys (kA : Nat → ClassId) : List (ClassId × FieldType) := [(kA 0, .int), (kA 1, .long), (kA 2, .byte), (kA 3, .boolean), (kA 4, .object "FaultGraph$Tape")]
def fm_u {α : Type} (f : Nat → Nat → α) (k j : Nat) (v : α) : Nat → Nat → α := fun a => if a = k then (fun b => if b = j then v else f k b) else f a
def fm_row {α : Type} (f : Nat → Nat → α) (k : Nat) (g : Nat → α) : Nat → Nat → α := fun a => if a = k then g else f a
abbrev fm_pi (M : fm_M) (k j : Nat) (v : Int32) : fm_M := (fm_u M.1 k j v, M.2)
abbrev fm_pl (M : fm_M) (k j : Nat) (v : Int64) : fm_M := (M.1, fm_u M.2 k j v)
theorem fm_u_same {α : Type} (f : Nat → Nat → α) (k j : Nat) (v : α) : fm_u f k j v k j = v := by simp [fm_u]
theorem fm_u_row {α : Type} (f : Nat → Nat → α) (k j : Nat) (v : α) : fm_u f k j v k = fun b => if b = j then v else f k b := by simp [fm_u]
theorem fm_u_ne {α : Type} (f : Nat → Nat → α) {k a : Nat} (j : Nat) (v : α) (h : a ≠ k) : fm_u f k j v a = f a := by simp [fm_u, h]
theorem fm_u_at {α : Type} (f : Nat → Nat → α) (k j : Nat) (v : α) (a b : Nat) : fm_u f k j v a b = if a = k ∧ b = j then v else f a b := by
  unfold fm_u
  by_cases h : a = k
  · subst h
    by_cases hb : b = j <;> simp [hb]
  · simp [h]
theorem fm_row_same {α : Type} (f : Nat → Nat → α) (k : Nat) (g : Nat → α) : fm_row f k g k = g := by simp [fm_row]
theorem fm_row_ne {α : Type} (f : Nat → Nat → α) {k a : Nat} (g : Nat → α) (h : a ≠ k) : fm_row f k g a = f a := by simp [fm_row, h]
theorem fm_w_get {sh : List fm_S} {rh : Nat → Nat} {kA : Nat → ClassId} {M : fm_M} {k : Nat} {x : fm_S} (h : sh[k]? = some x) : (fm_w sh rh kA M)[k]? = some (fm_e rh kA M k x) := by
  unfold fm_w
  rw [List.getElem?_mapIdx, h]
  rfl
theorem fm_e_fst (rh : Nat → Nat) (kA : Nat → ClassId) (M : fm_M) (k : Nat) (x : fm_S) : (fm_e rh kA M k x).1 = rh k := by
  cases x <;> rfl
theorem fm_w_inv {sh : List fm_S} {rh : Nat → Nat} {kA : Nat → ClassId} {M : fm_M} {k : Nat} {q : Nat × va_E} (h : (fm_w sh rh kA M)[k]? = some q) : ∃ x, sh[k]? = some x ∧ q.1 = rh k := by
  unfold fm_w at h
  rw [List.getElem?_mapIdx] at h
  cases hs : sh[k]? with
  | none => rw [hs] at h; cases h
  | some x =>
    rw [hs] at h
    refine ⟨x, rfl, ?_⟩
    have h2 : fm_e rh kA M k x = q := Option.some.inj h
    rw [← h2]
    exact fm_e_fst rh kA M k x
theorem fm_e_ne {rh : Nat → Nat} {kA : Nat → ClassId} {M M' : fm_M} {a : Nat} (h1 : M'.1 a = M.1 a) (h2 : M'.2 a = M.2 a) (y : fm_S) : fm_e rh kA M' a y = fm_e rh kA M a y := by
  have hf : fm_fv rh M' a = fm_fv rh M a := by
    funext j o
    cases o with
    | none => simp only [fm_fv, h1]
    | some r => rfl
  have hg : ∀ t, fm_ac rh M' a t = fm_ac rh M a t := by
    intro t
    unfold fm_ac
    split <;> simp [h1, h2]
  cases y with
  | inl q => simp only [fm_e, hf]
  | inr q => simp only [fm_e, hg]
theorem fm_w_set {sh : List fm_S} {rh : Nat → Nat} {kA : Nat → ClassId} {M M' : fm_M} {k : Nat} {x : fm_S} {z : Nat × va_E} (h : sh[k]? = some x) (hz : fm_e rh kA M' k x = z) (ho : ∀ a, a ≠ k → M'.1 a = M.1 a ∧ M'.2 a = M.2 a) : (fm_w sh rh kA M).set k z = fm_w sh rh kA M' := by
  apply List.ext_getElem?
  intro i
  by_cases hi : i = k
  · subst hi
    have hlt : i < (fm_w sh rh kA M).length := by
      have := (List.getElem?_eq_some_iff.mp h).1
      unfold fm_w
      rw [List.length_mapIdx]
      exact this
    rw [List.getElem?_set_self hlt, fm_w_get h, hz]
  · rw [List.getElem?_set_ne (Ne.symm hi)]
    unfold fm_w
    rw [List.getElem?_mapIdx, List.getElem?_mapIdx]
    cases sh[i]? with
    | none => rfl
    | some y => rw [Option.map_some, Option.map_some, fm_e_ne (ho i hi).1 (ho i hi).2]
def fm_Dd (sh : List fm_S) (rh : Nat → Nat) (A : Nat → Prop) : Prop := (∀ (i j : Nat) (x y : fm_S), sh[i]? = some x → sh[j]? = some y → rh i = rh j → i = j) ∧ ∀ (i : Nat) (x : fm_S), sh[i]? = some x → A (rh i)
theorem fm_Dd.d {sh : List fm_S} {rh : Nat → Nat} {A : Nat → Prop} (h : fm_Dd sh rh A) (kA : Nat → ClassId) (M : fm_M) : va_D A (fm_w sh rh kA M) := by
  refine ⟨fun i j p q hp hq he => ?_, fun k q hq => ?_⟩
  · obtain ⟨x, hx, ex⟩ := fm_w_inv hp
    obtain ⟨y, hy, ey⟩ := fm_w_inv hq
    exact h.1 i j x y hx hy (by rw [← ex, ← ey]; exact he)
  · obtain ⟨x, hx, ex⟩ := fm_w_inv hq
    rw [ex]
    exact h.2 k x hx
def fm_Ad (sh : List fm_S) (rh : Nat → Nat) (sz : Nat) : Nat → Prop := fun q => (∃ (i : Nat) (x : fm_S), sh[i]? = some x ∧ q = rh i) ∨ sz ≤ q
/-- the context of a method's body: program, launch, environment, room, entry state, method, arguments, frames below, method, code; the cells' addresses, the arrays' classes, the classes, the cells of ours -/
abbrev fm_X : Type := Program × Launch × Env × Room × State × MethodId × Array Value × List Frame × Method × Code × (Nat → Nat) × (Nat → ClassId) × va_G × (Nat → Prop)
abbrev fm_p (X : fm_X) : Program := X.1
abbrev fm_l (X : fm_X) : Launch := X.2.1
abbrev fm_en (X : fm_X) : Env := X.2.2.1
abbrev fm_R (X : fm_X) : Room := X.2.2.2.1
abbrev fm_s (X : fm_X) : State := X.2.2.2.2.1
abbrev fm_m (X : fm_X) : MethodId := X.2.2.2.2.2.1
abbrev fm_ar (X : fm_X) : Array Value := X.2.2.2.2.2.2.1
abbrev fm_bl (X : fm_X) : List Frame := X.2.2.2.2.2.2.2.1
abbrev fm_me (X : fm_X) : Method := X.2.2.2.2.2.2.2.2.1
abbrev fm_c (X : fm_X) : Code := X.2.2.2.2.2.2.2.2.2.1
abbrev fm_rh (X : fm_X) : Nat → Nat := X.2.2.2.2.2.2.2.2.2.2.1
abbrev fm_kA (X : fm_X) : Nat → ClassId := X.2.2.2.2.2.2.2.2.2.2.2.1
abbrev fm_Dg (X : fm_X) : va_G := X.2.2.2.2.2.2.2.2.2.2.2.2.1
abbrev fm_A (X : fm_X) : Nat → Prop := X.2.2.2.2.2.2.2.2.2.2.2.2.2
/-- what a contract is said of: launch, addresses, arrays' classes, classes -/
abbrev fm_E : Type := Launch × (Nat → Nat) × (Nat → ClassId) × va_G
abbrev fm_EX (X : fm_X) : fm_E := (fm_l X, fm_rh X, fm_kA X, fm_Dg X)
def fm_tb : List Cond := lw_tbl.filter goodWord
abbrev fm_ws (y : MethodName) (cc : ByteArray) (n : Nat) (ret : Option FieldType) : List Cond := .code y cc n ret :: fm_tb
def fm_nw : List Cond := [.methodLinkNest RX0 44 yX8_says "FaultGraph", .methodLinkNest RX2 23 yX8_says "FaultGraph"]
def fm_PT (j : Nat) : Int64 := match j with
  | 0 => -6148914691236517206
  | 1 => -3689348814741910324
  | 2 => -1085102592571150096
  | 3 => -71777214294589696
  | 4 => -281470681808896
  | _ => -4294967296
/-- what the statics hold, and the nest mates' links -/
def fm_G (A : Nat → Prop) (U : State) (H : Heap) : Prop := (∃ t : Nat, va_Z "FaultGraph$Plant" "PART_TABLES" "[J" (.ref t) A U H ∧ va_T .long t 6 (fun j => .long (fm_PT j)) A U H) ∧ va_Nw (.methodLinkNest RX0 44 yX8_says "FaultGraph") U ∧ va_Nw (.methodLinkNest RX2 23 yX8_says "FaultGraph") U
theorem fm_G.kept {A : Nat → Prop} {U : State} {H H1 : Heap} (h : fm_G A U H) (hq : ∀ a : Nat, a < H.size → ¬ A a → H1[a]? = H[a]?) : fm_G A U H1 := by
  obtain ⟨⟨t, h1, h2⟩, h3⟩ := h
  exact ⟨⟨t, h1.kept hq, h2.kept hq⟩, h3⟩
theorem fm_G.narrow {A B : Nat → Prop} {U : State} {H : Heap} (h : fm_G A U H) (hAB : ∀ q, B q → A q) : fm_G B U H := by
  obtain ⟨⟨t, h1, h2⟩, h3⟩ := h
  exact ⟨⟨t, h1.narrow hAB, h2.narrow hAB⟩, h3⟩
theorem fm_G.warm {A : Nat → Prop} {s U : State} {H : Heap} (hW : s.WarmedH U.vm) (h : fm_G A s H) : fm_G A U H := by
  obtain ⟨⟨t, h1, h2⟩, h3, h4⟩ := h
  exact ⟨⟨t, h1.moved hW.alike, h2.moved hW.alike⟩, va_Nw.warmM hW h3, va_Nw.warmM hW h4⟩
theorem fm_G.same {A : Nat → Prop} {u U : State} {H : Heap} (hvm : u.vm = U.vm) (h : fm_G A u H) : fm_G A U H := by
  obtain ⟨⟨t, h1, h2⟩, h3, h4⟩ := h
  have ha : u.vm.Alike U.vm := by rw [hvm]; exact Vm.Alike.refl U.vm
  exact ⟨⟨t, h1.moved ha, h2.moved ha⟩, h3.same rfl hvm, h4.same rfl hvm⟩
/-- the body's facts -/
def fm_B (sh : List fm_S) (X : fm_X) (cc : ByteArray) (nL : Nat) (own : String) (ret : Option FieldType) : Prop :=
  (fm_p X).tables.exec = Jvm.exec ∧ (fm_c X).code = cc ∧ (fm_c X).maxLocals = nL ∧ (fm_s X).vm.findClass own = some (fm_m X).cls ∧ (∀ w ∈ fm_tb, w.before (fm_ar X) (fm_s X) = true) ∧ (fm_me X).sig.returnType = ret ∧ (fm_me X).locks = false ∧ va_K (fm_Dg X) vwCl (fm_tys (fm_kA X)) (fm_s X) ∧ fm_Dd sh (fm_rh X) (fm_A X) ∧ fm_G (fm_A X) (fm_s X) (fm_s X).heap ∧ (∀ q, (fm_s X).heap.size ≤ q → fm_A X q)
def fm_lv (ls : Array Slot) (nL : Nat) (lv : List (Option Value)) : Prop := lv_wf ls ∧ ls.size = nL ∧ ∀ (i : Nat) (v : Value), lv[i]? = some (some v) → ls[i]? = some (.val v)
/-- the machine, at pc with these locals, this stack and this memory, comes to Q -/
def fm_W (sh : List fm_S) (X : fm_X) (nL : Nat) (pc : Nat) (lv : List (Option Value)) (st : List Value) (M : fm_M) (Q : State → Prop) : Prop :=
  ∀ (H : Heap) (locs : List Loc), va_P (fm_Dg X) vwCl (fm_w sh (fm_rh X) (fm_kA X) M) H → va_S (fm_A X) (fm_s X).heap H locs → ∀ ls : Array Slot, fm_lv ls nL lv → W (fm_p X) (fm_l X) (fm_en X) (fm_R X) (fm_s X) (fm_m X) (fm_ar X) (fm_bl X) (fm_me X) (fm_c X) H locs 0 0 Q (F0 (fm_m X) pc ls st)
def fm_rm (h : Nat) : Room := { frames := h, cells := 0, slots := 0, locals := 64 * h }
def fm_Qc (sh : List fm_S) (E : fm_E) (A : Nat → Prop) (post : Option Value → fm_M → Prop) : Array Value → State → Outcome → State → Prop := fun _ st oc t =>
  (∃ (r : Option Value) (M : fm_M), oc = .returned r ∧ post r M ∧ va_P E.2.2.2 vwCl (fm_w sh E.2.1 E.2.2.1 M) t.heap) ∧ va_F A st t
def fm_Q (sh : List fm_S) (X : fm_X) (post : Option Value → fm_M → Prop) : State → Prop := MQ (fm_bl X) (fm_Qc sh (fm_EX X) (fm_A X) post) (fm_ar X) (fm_s X) 0 0 (fm_A X)
def fm_Pc (sh : List fm_S) (E : fm_E) (av : List Value) (M : fm_M) (sz : Nat) : Array Value → State → Prop := va_Pc av (fun U => U.heap.size = sz ∧ va_P E.2.2.2 vwCl (fm_w sh E.2.1 E.2.2.1 M) U.heap ∧ va_K E.2.2.2 vwCl (fm_tys E.2.2.1) U ∧ fm_Dd sh E.2.1 (fun _ => True) ∧ fm_G (fm_Ad sh E.2.1 sz) U U.heap)
/-- a method's contract: name, bytes, locals, return type; height; arguments; memory; what holds behind it -/
def fm_C (sh : List fm_S) (E : fm_E) (mt : MethodName × ByteArray × Nat × Option FieldType) (h : Nat) (av : List Value) (M : fm_M) (post : Option Value → fm_M → Prop) : Prop :=
  ∀ sz : Nat, Met E.1 mt.1 (fm_ws mt.1 mt.2.1 mt.2.2.1 mt.2.2.2) (fm_rm h) (fm_Pc sh E av M sz) (fm_Qc sh E (fm_Ad sh E.2.1 sz) post) 0 0 (fm_Ad sh E.2.1 sz)
theorem fm_C.mono {sh : List fm_S} {E : fm_E} {mt : MethodName × ByteArray × Nat × Option FieldType} {h : Nat} {av : List Value} {M : fm_M} {post post' : Option Value → fm_M → Prop} (hC : fm_C sh E mt h av M post) (hp : ∀ r M', post r M' → post' r M') : fm_C sh E mt h av M post' := by
  intro sz
  have h1 := hC sz
  intro p e ha hc hk s m args below hf happ hP hK
  obtain ⟨k, o, a1, a2, a3, ⟨⟨⟨r, M', b1, b2, b3⟩, b4⟩, b5⟩⟩ := h1 p e ha hc hk s m args below hf happ hP hK
  exact ⟨k, o, a1, a2, a3, ⟨⟨⟨r, M', b1, hp r M' b2, b3⟩, b4⟩, b5⟩⟩
def fm_l0 : List Value → List (Option Value)
  | [] => []
  | v :: vs => if v.category = 2 then some v :: none :: fm_l0 vs else some v :: fm_l0 vs
theorem fm_l0_in (vs : List Value) : ∀ (k i : Nat) (v : Value), (fm_l0 vs)[i]? = some (some v) → (k + i, v) ∈ lv_args k vs := by
  induction vs with
  | nil => intro k i v h; simp [fm_l0] at h
  | cons w vs ih =>
    intro k i v h
    unfold fm_l0 at h
    by_cases hc : w.category = 2
    · rw [if_pos hc] at h
      simp only [lv_args, if_pos hc]
      match i, h with
      | 0, h => simp at h; subst h; exact List.mem_cons_self
      | 1, h => simp at h
      | i + 2, h =>
        have h2 := ih (k + 2) i v (by simpa using h)
        have : k + (i + 2) = k + 2 + i := by omega
        rw [this]
        exact List.mem_cons_of_mem _ h2
    · rw [if_neg hc] at h
      simp only [lv_args, if_neg hc]
      match i, h with
      | 0, h => simp at h; subst h; exact List.mem_cons_self
      | i + 1, h =>
        have h2 := ih (k + 1) i v (by simpa using h)
        have : k + (i + 1) = k + 1 + i := by omega
        rw [this]
        exact List.mem_cons_of_mem _ h2
theorem fm_C.of {sh : List fm_S} {E : fm_E} {y : MethodName} {cc : ByteArray} {n : Nat} {ret : Option FieldType} {h : Nat} {av : List Value} {M : fm_M} {post : Option Value → fm_M → Prop} (hy : plainName y.cls = true) (hl : (lg_sl av).length ≤ n)
    (body : ∀ X : fm_X, fm_EX X = E → fm_R X = fm_rm h → fm_B sh X cc n y.cls ret → fm_W sh X n 0 (fm_l0 av) [] M (fm_Q sh X post)) : fm_C sh E (y, cc, n, ret) h av M post := by
  intro sz
  refine Met.ofW (cc := cc) (maxL := n) (ret := ret) hy rfl ?_
  intro p e s m args below meth c s₁ B hml hv
  obtain ⟨rfl, hsz, hP, hK, hD0, hG⟩ := hv
  have hts := atoms_spec (ws := fm_ws y cc n ret) B.pre
  have hown : s.vm.findClass y.cls = some m.cls := findClass_of_methodNamed B.named
  subst hsz
  have hD : fm_Dd sh E.2.1 (fm_Ad sh E.2.1 s.heap.size) := ⟨hD0.1, fun i x hx => Or.inl ⟨i, x, hx, rfl⟩⟩
  have hl0 := lv_entry av (n := n) hl
  rw [lg_entry_eq]
  generalize (lg_sl av ++ List.replicate (n - (lg_sl av).length) Slot.unset).toArray = ls at hl0 ⊢
  have hb := body (p, E.1, e, fm_rm h, s, m, av.toArray, below, meth, c, E.2.1, E.2.2.1, E.2.2.2, fm_Ad sh E.2.1 s.heap.size) rfl rfl
    ⟨B.exec, B.bytes, hml, hown, fun w hw => hts w (List.mem_cons_of_mem _ hw), B.returns, B.notSynchronized, hK, hD, hG, fun q hq => Or.inr hq⟩
  exact hb s.heap [] hP va_S.rf ls ⟨hl0.2.1, hl0.1, fun i v hi => hl0.2.2 (i, v) (by have := fm_l0_in av 0 i v hi; simpa using this)⟩
