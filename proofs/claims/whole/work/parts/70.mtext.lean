/-! ===== the reference: the text, where a clause ends ===== -/
abbrev fm_R0 : (Nat → Int32) × (Nat → Int32) × (Nat → Int32) := (fun _ => 0, fun _ => 0, fun _ => 0)
/-- a clause that begins at a place, nothing kept before -/
def fm_c1 (f : Nat → Nat) (z a : Nat) : Bool × fm_TS := fm_pc1 f z (a, 0, fm_R0)
/-- the same clause, kept behind others -/
def fm_lift (q : Bool × fm_TS) (T : Nat × (Nat → Int32) × (Nat → Int32) × (Nat → Int32)) : Bool × fm_TS := (q.1, (q.2.1, if q.1 = true then (T.1 + 1, fm_up T.2.1 T.1 (q.2.2.2.1 0), fm_up T.2.2.1 T.1 (q.2.2.2.2.1 0), fm_up T.2.2.2 T.1 (q.2.2.2.2.2 0)) else T))
theorem fm_lift_no (a : Nat) (T : Nat × (Nat → Int32) × (Nat → Int32) × (Nat → Int32)) : (false, (a, T)) = fm_lift (false, (a, 0, fm_R0)) T := by
  simp [fm_lift]
theorem fm_lift_kc (so : Nat) (o1 o2 : Option Nat) (a : Nat) (T : Nat × (Nat → Int32) × (Nat → Int32) × (Nat → Int32)) (h : T.1 < 16) : fm_kc so o1 o2 (a, T) = fm_lift (fm_kc so o1 o2 (a, 0, fm_R0)) T := by
  cases o1 <;> cases o2 <;> simp [fm_kc, fm_lift, h, fm_up]
theorem fm_ps_t {f : Nat → Nat} {z x a : Nat} (h : a < z ∧ f a = x) (T : Nat × (Nat → Int32) × (Nat → Int32) × (Nat → Int32)) : fm_ps f z x (a, T) = (true, (a + 1, T)) := if_pos h
theorem fm_ps_f {f : Nat → Nat} {z x a : Nat} (h : ¬ (a < z ∧ f a = x)) (T : Nat × (Nat → Int32) × (Nat → Int32) × (Nat → Int32)) : fm_ps f z x (a, T) = (false, (a, T)) := if_neg h
theorem fm_dgS (f : Nat → Nat) (z a : Nat) : fm_dg f z 1 none a = if a < z ∧ fm_isd (f a) = true then (some (f a - 48), a + 1) else (none, a) := by
  simp [fm_dg, fm_oN]
theorem fm_dg_b (f : Nat → Nat) (z : Nat) : ∀ d o a, a ≤ (fm_dg f z d o a).2 ∧ (fm_dg f z d o a).2 ≤ a + d := by
  intro d
  induction d with
  | zero => intro o a; exact ⟨Nat.le_refl a, Nat.le_refl a⟩
  | succ d ih =>
    intro o a
    unfold fm_dg
    split
    · have := ih (some (fm_oN o * 10 + (f a - 48))) (a + 1)
      omega
    · exact ⟨Nat.le_refl a, Nat.le_add_right a _⟩
theorem fm_dg_sm (f : Nat → Nat) (z : Nat) : ∀ d v a, ∃ w, (fm_dg f z d (some v) a).1 = some w := by
  intro d
  induction d with
  | zero => intro v a; exact ⟨v, rfl⟩
  | succ d ih =>
    intro v a
    unfold fm_dg
    split
    · exact ih _ _
    · exact ⟨v, rfl⟩
theorem fm_dg_no (f : Nat → Nat) (z a : Nat) : ((fm_dg f z 3 none a).1 = none ∧ (fm_dg f z 3 none a).2 = a) ∨ (∃ v, (fm_dg f z 3 none a).1 = some v ∧ a < (fm_dg f z 3 none a).2 ∧ a < z) := by
  by_cases h : a < z ∧ fm_isd (f a) = true
  · have e : fm_dg f z 3 none a = fm_dg f z 2 (some (fm_oN none * 10 + (f a - 48))) (a + 1) := by
      rw [fm_dg, if_pos h]
    rw [e]
    right
    obtain ⟨w, hw⟩ := fm_dg_sm f z 2 (fm_oN none * 10 + (f a - 48)) (a + 1)
    have := (fm_dg_b f z 2 (some (fm_oN none * 10 + (f a - 48))) (a + 1)).1
    exact ⟨w, hw, by omega, h.1⟩
  · have e : fm_dg f z 3 none a = (none, a) := by
      rw [fm_dg, if_neg h]
    rw [e]
    exact Or.inl ⟨rfl, rfl⟩
theorem fm_ff {α : Type} {x : α} : ¬ (false, x).1 = true := fun q => nomatch q
section FMT
variable {f : Nat → Nat} {z a : Nat} (T : Nat × (Nat → Int32) × (Nat → Int32) × (Nat → Int32))
theorem fm_pc1_p (h : a < z ∧ f a = 112) : fm_pc1 f z (a, T) = fm_kc 0 (fm_dg f z 3 none (a + 1)).1 (some 0) ((fm_dg f z 3 none (a + 1)).2, T) := by
  rw [fm_pc1, fm_ps_t h, if_pos rfl]
theorem fm_pc1_a (h : a < z ∧ f a = 97) : fm_pc1 f z (a, T) = fm_kc 1 (some 0) (some 0) (a + 1, T) := by
  rw [fm_pc1, fm_ps_f (x := 112) (by omega), if_neg fm_ff, fm_ps_t h, if_pos rfl]
theorem fm_pc1_o (h : a < z ∧ f a = 111) : fm_pc1 f z (a, T) = fm_kc 1 (some 1) (some 0) (a + 1, T) := by
  rw [fm_pc1, fm_ps_f (x := 112) (by omega), if_neg fm_ff, fm_ps_f (x := 97) (by omega), if_neg fm_ff, fm_ps_t h, if_pos rfl]
theorem fm_pc1_s (h : a < z ∧ f a = 115) : fm_pc1 f z (a, T) = fm_kc 1 (some 2) (fm_dg f z 1 none (a + 1)).1 ((fm_dg f z 1 none (a + 1)).2, T) := by
  rw [fm_pc1, fm_ps_f (x := 112) (by omega), if_neg fm_ff, fm_ps_f (x := 97) (by omega), if_neg fm_ff, fm_ps_f (x := 111) (by omega), if_neg fm_ff, fm_ps_t h, if_pos rfl]
theorem fm_pc1_j (h : a < z ∧ f a = 106) : fm_pc1 f z (a, T) = fm_pin f z (a + 1, T) := by
  rw [fm_pc1, fm_ps_f (x := 112) (by omega), if_neg fm_ff, fm_ps_f (x := 97) (by omega), if_neg fm_ff, fm_ps_f (x := 111) (by omega), if_neg fm_ff, fm_ps_f (x := 115) (by omega), if_neg fm_ff, fm_ps_t h, if_pos rfl]
theorem fm_pc1_c (h : a < z ∧ f a = 99) : fm_pc1 f z (a, T) = fm_pca f z (a + 1, T) := by
  rw [fm_pc1, fm_ps_f (x := 112) (by omega), if_neg fm_ff, fm_ps_f (x := 97) (by omega), if_neg fm_ff, fm_ps_f (x := 111) (by omega), if_neg fm_ff, fm_ps_f (x := 115) (by omega), if_neg fm_ff, fm_ps_f (x := 106) (by omega), if_neg fm_ff, fm_ps_t h, if_pos rfl]
theorem fm_pc1_n (h : ¬ a < z ∨ (f a ≠ 112 ∧ f a ≠ 97 ∧ f a ≠ 111 ∧ f a ≠ 115 ∧ f a ≠ 106 ∧ f a ≠ 99)) : fm_pc1 f z (a, T) = (false, (a, T)) := by
  rw [fm_pc1, fm_ps_f (x := 112) (by omega), if_neg fm_ff, fm_ps_f (x := 97) (by omega), if_neg fm_ff, fm_ps_f (x := 111) (by omega), if_neg fm_ff, fm_ps_f (x := 115) (by omega), if_neg fm_ff, fm_ps_f (x := 106) (by omega), if_neg fm_ff, fm_ps_f (x := 99) (by omega), if_neg fm_ff]
theorem fm_pin_0 (h : ¬ (a < z ∧ fm_isd (f a) = true)) : fm_pin f z (a, T) = (false, (a, T)) := by
  simp only [fm_pin, fm_dgS, if_neg h]
theorem fm_pin_p (h : a < z ∧ fm_isd (f a) = true) (h2 : a + 1 < z ∧ f (a + 1) = 112) : fm_pin f z (a, T) = fm_kc 2 (some (f a - 48)) (fm_dg f z 1 none (a + 2)).1 ((fm_dg f z 1 none (a + 2)).2, T) := by
  rw [fm_pin, show fm_dg f z 1 none (a, T).1 = (some (f a - 48), a + 1) by rw [fm_dgS, if_pos h]]
  simp only [fm_ps_t h2, if_true]
theorem fm_pin_g (h : a < z ∧ fm_isd (f a) = true) (h2 : a + 1 < z ∧ f (a + 1) = 103) : fm_pin f z (a, T) = fm_kc 3 (some (f a - 48)) (fm_dg f z 1 none (a + 2)).1 ((fm_dg f z 1 none (a + 2)).2, T) := by
  rw [fm_pin, show fm_dg f z 1 none (a, T).1 = (some (f a - 48), a + 1) by rw [fm_dgS, if_pos h]]
  simp only [fm_ps_f (x := 112) (show ¬ (a + 1 < z ∧ f (a + 1) = 112) by omega), fm_ps_t h2, if_true, Bool.false_eq_true, if_false]
theorem fm_pin_1 (h : a < z ∧ fm_isd (f a) = true) (h2 : ¬ (a + 1 < z ∧ f (a + 1) = 112)) (h3 : ¬ (a + 1 < z ∧ f (a + 1) = 103)) : fm_pin f z (a, T) = (false, (a + 1, T)) := by
  rw [fm_pin, show fm_dg f z 1 none (a, T).1 = (some (f a - 48), a + 1) by rw [fm_dgS, if_pos h]]
  simp only [fm_ps_f h2, fm_ps_f h3, Bool.false_eq_true, if_false]
theorem fm_pcl_0 (n b : Nat) (h : ¬ (a < z ∧ f a = 112)) : fm_pcl f z (n + 1) b (a, T) = (some b, (a, T)) := by
  rw [fm_pcl, fm_ps_f h, if_neg fm_ff]
theorem fm_pcl_1 (n b : Nat) (h : a < z ∧ f a = 112) (h2 : ¬ (a + 1 < z ∧ fm_isd (f (a + 1)) = true)) : fm_pcl f z (n + 1) b (a, T) = (none, (a + 1, T)) := by
  rw [fm_pcl, fm_ps_t h, if_pos rfl]
  simp only [fm_dgS, if_neg h2]
theorem fm_pcl_2 (n b : Nat) (h : a < z ∧ f a = 112) (h2 : a + 1 < z ∧ fm_isd (f (a + 1)) = true) : fm_pcl f z (n + 1) b (a, T) = fm_pcl f z n (b ||| 2 ^ (f (a + 1) - 48)) (a + 2, T) := by
  rw [fm_pcl, fm_ps_t h, if_pos rfl]
  simp only [fm_dgS, if_pos h2]
end FMT
theorem fm_pcl_lift (f : Nat → Nat) (z : Nat) (T : Nat × (Nat → Int32) × (Nat → Int32) × (Nat → Int32)) : ∀ n b a, fm_pcl f z n b (a, T) = ((fm_pcl f z n b (a, 0, fm_R0)).1, ((fm_pcl f z n b (a, 0, fm_R0)).2.1, T)) := by
  intro n
  induction n with
  | zero => intro b a; rfl
  | succ n ih =>
    intro b a
    by_cases h : a < z ∧ f a = 112
    · by_cases h2 : a + 1 < z ∧ fm_isd (f (a + 1)) = true
      · rw [fm_pcl_2 T n b h h2, fm_pcl_2 (0, fm_R0) n b h h2]
        exact ih _ _
      · rw [fm_pcl_1 T n b h h2, fm_pcl_1 (0, fm_R0) n b h h2]
    · rw [fm_pcl_0 T n b h, fm_pcl_0 (0, fm_R0) n b h]
theorem fm_pcl_ge (f : Nat → Nat) (z : Nat) (T : Nat × (Nat → Int32) × (Nat → Int32) × (Nat → Int32)) : ∀ n b a, a ≤ (fm_pcl f z n b (a, T)).2.1 := by
  intro n
  induction n with
  | zero => intro b a; exact Nat.le_refl a
  | succ n ih =>
    intro b a
    by_cases h : a < z ∧ f a = 112
    · by_cases h2 : a + 1 < z ∧ fm_isd (f (a + 1)) = true
      · rw [fm_pcl_2 T n b h h2]
        have := ih (b ||| 2 ^ (f (a + 1) - 48)) (a + 2)
        omega
      · rw [fm_pcl_1 T n b h h2]
        exact Nat.le_succ a
    · rw [fm_pcl_0 T n b h]
      exact Nat.le_refl a
theorem fm_pca_lift {f : Nat → Nat} {z : Nat} {T : Nat × (Nat → Int32) × (Nat → Int32) × (Nat → Int32)} (hT : T.1 < 16) (a : Nat) : fm_pca f z (a, T) = fm_lift (fm_pca f z (a, 0, fm_R0)) T := by
  unfold fm_pca
  show (match (fm_dg f z 3 none a).1 with
    | none => (false, ((fm_dg f z 3 none a).2, T))
    | some o => match fm_pcl f z 4 0 ((fm_dg f z 3 none a).2, T) with
      | (none, S2) => (false, S2)
      | (some b, S2) => if b = 0 then (false, S2) else fm_kc 4 (some o) (some b) S2) = fm_lift (match (fm_dg f z 3 none a).1 with
    | none => (false, ((fm_dg f z 3 none a).2, 0, fm_R0))
    | some o => match fm_pcl f z 4 0 ((fm_dg f z 3 none a).2, 0, fm_R0) with
      | (none, S2) => (false, S2)
      | (some b, S2) => if b = 0 then (false, S2) else fm_kc 4 (some o) (some b) S2) T
  rw [fm_pcl_lift f z T, fm_pcl_lift f z (0, fm_R0) 4 0 _]
  generalize fm_pcl f z 4 0 ((fm_dg f z 3 none a).2, 0, fm_R0) = q
  obtain ⟨o2, b2, _⟩ := q
  cases (fm_dg f z 3 none a).1 with
  | none => exact fm_lift_no _ T
  | some o =>
    cases o2 with
    | none => exact fm_lift_no _ T
    | some b =>
      show (if b = 0 then (false, (b2, T)) else fm_kc 4 (some o) (some b) (b2, T)) = fm_lift (if b = 0 then (false, (b2, 0, fm_R0)) else fm_kc 4 (some o) (some b) (b2, 0, fm_R0)) T
      by_cases hb : b = 0
      · rw [if_pos hb, if_pos hb]; exact fm_lift_no _ T
      · rw [if_neg hb, if_neg hb]; exact fm_lift_kc _ _ _ _ T hT
theorem fm_pin_lift {f : Nat → Nat} {z : Nat} {T : Nat × (Nat → Int32) × (Nat → Int32) × (Nat → Int32)} (hT : T.1 < 16) (a : Nat) : fm_pin f z (a, T) = fm_lift (fm_pin f z (a, 0, fm_R0)) T := by
  by_cases h : a < z ∧ fm_isd (f a) = true
  · by_cases h2 : a + 1 < z ∧ f (a + 1) = 112
    · rw [fm_pin_p T h h2, fm_pin_p (0, fm_R0) h h2]; exact fm_lift_kc _ _ _ _ T hT
    · by_cases h3 : a + 1 < z ∧ f (a + 1) = 103
      · rw [fm_pin_g T h h3, fm_pin_g (0, fm_R0) h h3]; exact fm_lift_kc _ _ _ _ T hT
      · rw [fm_pin_1 T h h2 h3, fm_pin_1 (0, fm_R0) h h2 h3]; exact fm_lift_no _ T
  · rw [fm_pin_0 T h, fm_pin_0 (0, fm_R0) h]; exact fm_lift_no _ T
theorem fm_six (x : Nat) : x = 112 ∨ x = 97 ∨ x = 111 ∨ x = 115 ∨ x = 106 ∨ x = 99 ∨ (x ≠ 112 ∧ x ≠ 97 ∧ x ≠ 111 ∧ x ≠ 115 ∧ x ≠ 106 ∧ x ≠ 99) := by omega
theorem fm_pc1_lift {f : Nat → Nat} {z : Nat} {T : Nat × (Nat → Int32) × (Nat → Int32) × (Nat → Int32)} (hT : T.1 < 16) (a : Nat) : fm_pc1 f z (a, T) = fm_lift (fm_c1 f z a) T := by
  unfold fm_c1
  by_cases hz : a < z
  · rcases fm_six (f a) with h | h | h | h | h | h | h
    · rw [fm_pc1_p T ⟨hz, h⟩, fm_pc1_p (0, fm_R0) ⟨hz, h⟩]; exact fm_lift_kc _ _ _ _ T hT
    · rw [fm_pc1_a T ⟨hz, h⟩, fm_pc1_a (0, fm_R0) ⟨hz, h⟩]; exact fm_lift_kc _ _ _ _ T hT
    · rw [fm_pc1_o T ⟨hz, h⟩, fm_pc1_o (0, fm_R0) ⟨hz, h⟩]; exact fm_lift_kc _ _ _ _ T hT
    · rw [fm_pc1_s T ⟨hz, h⟩, fm_pc1_s (0, fm_R0) ⟨hz, h⟩]; exact fm_lift_kc _ _ _ _ T hT
    · rw [fm_pc1_j T ⟨hz, h⟩, fm_pc1_j (0, fm_R0) ⟨hz, h⟩]; exact fm_pin_lift hT _
    · rw [fm_pc1_c T ⟨hz, h⟩, fm_pc1_c (0, fm_R0) ⟨hz, h⟩]; exact fm_pca_lift hT _
    · rw [fm_pc1_n T (Or.inr h), fm_pc1_n (0, fm_R0) (Or.inr h)]; exact fm_lift_no _ T
  · rw [fm_pc1_n T (Or.inl hz), fm_pc1_n (0, fm_R0) (Or.inl hz)]; exact fm_lift_no _ T
theorem fm_c1_le {f : Nat → Nat} {z a : Nat} (hz : z ≤ 100) (ha : a ≤ 100) : (fm_c1 f z a).2.1 ≤ 100 := (fm_pc1_ok (f := f) (z := z) (S := (a, 0, fm_R0)) hz ⟨ha, Nat.zero_le _⟩).1
theorem fm_ng (a c : Nat) : -1 - nI (a + c) = (-1 - nI c) - nI a := by
  rw [← nI_add, Int32.sub_eq_add_neg, Int32.sub_eq_add_neg, Int32.sub_eq_add_neg, Int32.neg_add, Int32.sub_eq_add_neg, Int32.add_comm (-nI a), Int32.add_assoc]
def fm_bI (q : Bool × fm_TS) : Int32 := if q.1 = true then nI q.2.1 else -1 - nI q.2.1
theorem fm_bI_t {q : Bool × fm_TS} (h : q.1 = true) : fm_bI q = nI q.2.1 := if_pos h
theorem fm_bI_f {q : Bool × fm_TS} (h : q.1 = false) : fm_bI q = -1 - nI q.2.1 := if_neg (by rw [h]; decide)
theorem fm_bI_k2 (so x y a : Nat) : fm_bI (fm_kc so (some x) (some y) (a, 0, fm_R0)) = nI a := rfl
theorem fm_bI_k1 (so x a : Nat) : fm_bI (fm_kc so (some x) none (a, 0, fm_R0)) = -1 - nI a := rfl
theorem fm_bI_k0 (so a : Nat) (o : Option Nat) : fm_bI (fm_kc so none o (a, 0, fm_R0)) = -1 - nI a := rfl
theorem fm_bI_no (a : Nat) : fm_bI (false, (a, 0, fm_R0)) = -1 - nI a := rfl
def fm_pI (q : Option Nat × fm_TS) : Int32 := match q.1 with
  | none => -1 - nI q.2.1
  | some b => if b = 0 then -1 - nI q.2.1 else nI q.2.1
theorem fm_bI_ca (f : Nat → Nat) (z a : Nat) : fm_bI (fm_pca f z (a, 0, fm_R0)) = match (fm_dg f z 3 none a).1 with
    | none => -1 - nI (fm_dg f z 3 none a).2
    | some _ => fm_pI (fm_pcl f z 4 0 ((fm_dg f z 3 none a).2, 0, fm_R0)) := by
  unfold fm_pca
  show fm_bI (match (fm_dg f z 3 none a).1 with
    | none => (false, ((fm_dg f z 3 none a).2, 0, fm_R0))
    | some o => match fm_pcl f z 4 0 ((fm_dg f z 3 none a).2, 0, fm_R0) with
      | (none, S2) => (false, S2)
      | (some b, S2) => if b = 0 then (false, S2) else fm_kc 4 (some o) (some b) S2) = _
  cases (fm_dg f z 3 none a).1 with
  | none => rfl
  | some o =>
    rw [fm_pcl_lift f z (0, fm_R0) 4 0 _]
    generalize fm_pcl f z 4 0 ((fm_dg f z 3 none a).2, 0, fm_R0) = q
    obtain ⟨o2, b2, _⟩ := q
    cases o2 with
    | none => rfl
    | some b =>
      show fm_bI (if b = 0 then (false, (b2, 0, fm_R0)) else fm_kc 4 (some o) (some b) (b2, 0, fm_R0)) = if b = 0 then -1 - nI b2 else nI b2
      by_cases hb : b = 0
      · rw [if_pos hb, if_pos hb]; rfl
      · rw [if_neg hb, if_neg hb]; rfl
def fm_sn (f : Nat → Nat) (z i : Nat) : Int32 := if i < z then nI (f i) else -1
theorem fm_sn_eq {f : Nat → Nat} {z i x : Nat} (hf : i < z → f i < 128) (hx : x < 128) : fm_sn f z i = nI x ↔ i < z ∧ f i = x := by
  unfold fm_sn
  by_cases h : i < z
  · have := hf h
    rw [if_pos h, nI_eq (by omega) (by omega)]
    exact ⟨fun q => ⟨h, q⟩, fun q => q.2⟩
  · rw [if_neg h]
    refine ⟨fun q => ?_, fun q => absurd q.1 h⟩
    have h2 : (-1 : Int32).toInt = (nI x).toInt := by rw [q]
    rw [nI_toInt (by omega), show (-1 : Int32).toInt = -1 by decide] at h2
    omega
theorem ct_X9_signAt {E : fm_E} {i z : Nat} {f : Nat → Nat} {M : fm_M} (ht : fm_MT f z M) (hi : i ≤ 200) : fm_C shM E mX9_signAt 0 [.ref (E.2.1 0), .int (nI i)] M (fun r M' => r = some (.int (fm_sn f z i)) ∧ M' = M) := by
  obtain ⟨h1, h2, h3⟩ := ht
  refine fm_C.of (by decide +kernel) (Nat.le_of_ble_eq_true rfl) ?_
  intro X hE hR hB
  subst hE
  have hB : fm_B _ X cX9_signAt 2 RX9 (some .int) := hB
  refine fr_lv [some (.ref (fm_rh X 0)), some (.int (nI i))] ⟨rfl, rfl, trivial⟩ ?_
  refine fr_iload_n hB dX9_signAt_0 rfl rfl ?_
  refine fr_aload_n hB dX9_signAt_1 rfl rfl ?_
  refine fr_getI hB dX9_signAt_2 lf_X9_132 rfl rfl ?_
  refine fr_eqi _ (h1) ?_
  refine fr_icmp_geN (tgt := 17) hB dX9_signAt_5 (by decide) (by omega) (by omega) (fun h => ?_) (fun h => ?_)
  · refine fr_iconst (v := -1) hB dX9_signAt_17 (by decide) ?_
    exact fr_ireturn hB dX9_signAt_18 (⟨by rw [fm_sn, if_neg (by omega)], rfl⟩)
  · refine fr_aload_n hB dX9_signAt_8 rfl rfl ?_
    refine fr_getR hB dX9_signAt_9 lf_X9_52 rfl rfl ?_
    refine fr_iload_n hB dX9_signAt_12 rfl rfl ?_
    refine fr_iald hB (_) dX9_signAt_13 rfl (rfl) (by omega) (by decide) ?_
    refine fr_eqi (nI (f i)) ((h3 i h).1) ?_
    refine fr_goto (tgt := 18) hB dX9_signAt_14 (by decide) ?_
    exact fr_ireturn hB dX9_signAt_18 (⟨by rw [fm_sn, if_pos h], rfl⟩)
def fm_dI (f : Nat → Nat) (z i : Nat) : Bool := decide (i < z) && fm_isd (f i)
theorem fm_dI_t {f : Nat → Nat} {z i : Nat} (h : fm_dI f z i = true) : i < z ∧ fm_isd (f i) = true := by
  simpa [fm_dI] using h
theorem fm_dI_f {f : Nat → Nat} {z i : Nat} (h : fm_dI f z i = false) : ¬ (i < z ∧ fm_isd (f i) = true) := by
  intro q
  simp [fm_dI, q.1, q.2] at h
theorem fm_isd_b {x : Nat} (h : fm_isd x = true) : 48 ≤ x ∧ x ≤ 57 := by
  simpa [fm_isd] using h
theorem fm_wn_isd {x : Nat} (hx : x < 128) : fm_wn (nI x) (nI 48) (nI 57) = fm_isd x := by
  unfold fm_wn fm_isd
  have e1 : decide (nI x < nI 48) = decide (x < 48) := decide_eq_decide.mpr (nI_ltI (show x < 2 ^ 31 by omega) (show 48 < 2 ^ 31 by omega))
  have e2 : decide (nI 57 < nI x) = decide (57 < x) := decide_eq_decide.mpr (nI_ltI (show 57 < 2 ^ 31 by omega) (show x < 2 ^ 31 by omega))
  rw [e1, e2]
  by_cases h1 : x < 48
  · simp [h1, show ¬ 48 ≤ x by omega]
  · by_cases h2 : 57 < x
    · simp [h2, show ¬ x ≤ 57 by omega]
    · simp [h1, h2, show 48 ≤ x by omega, show x ≤ 57 by omega]
theorem ct_X9_isDigit {E : fm_E} {i z : Nat} {f : Nat → Nat} {M : fm_M} (ht : fm_MT f z M) (hi : i ≤ 200) : fm_C shM E mX9_isDigit 1 [.ref (E.2.1 0), .int (nI i)] M (fun r M' => r = some (.int (fm_ib (fm_dI f z i))) ∧ M' = M) := by
  have e : fm_wn (fm_sn f z i) (nI 48) (nI 57) = fm_dI f z i := by
    unfold fm_sn fm_dI
    by_cases h : i < z
    · rw [if_pos h, fm_wn_isd (ht.2.2 i h).2]; simp [h]
    · rw [if_neg h]; simp [h]; decide
  refine fm_C.of (by decide +kernel) (Nat.le_of_ble_eq_true rfl) ?_
  intro X hE hR hB
  subst hE
  have hB : fm_B _ X cX9_isDigit 2 RX9 (some .boolean) := hB
  refine fr_lv [some (.ref (fm_rh X 0)), some (.int (nI i))] ⟨rfl, rfl, trivial⟩ ?_
  refine fr_aload_n hB dX9_isDigit_0 rfl rfl ?_
  refine fr_iload_n hB dX9_isDigit_1 rfl rfl ?_
  refine fr_callV hB _ _ dX9_isDigit_2 lm_X9_135 rfl (ct_X9_signAt ht hi) rfl rfl (Nat.le_of_ble_eq_true rfl) (fm_room hR (by decide) (by decide)) ?_
  rintro _ M9 ⟨rfl, hM9⟩
  rw [hM9]
  clear hM9 M9
  refine fr_ret1 ?_
  refine fr_bipush (v := nI 48) hB dX9_isDigit_5 (by decide) ?_
  refine fr_bipush (v := nI 57) hB dX9_isDigit_7 (by decide) ?_
  refine fr_callS hB _ _ dX9_isDigit_9 lm_X9_93 (ct_X9_within) rfl rfl (Nat.le_of_ble_eq_true rfl) (fm_room hR (by decide) (by decide)) ?_
  rintro _ M9 ⟨rfl, hM9⟩
  rw [hM9]
  clear hM9 M9
  refine fr_ret1 ?_
  rw [e]
  exact fr_zreturn hB dX9_isDigit_12 (by first | exact fm_nar0 | exact fm_nar1 | exact fm_nar _) (⟨rfl, rfl⟩)
theorem ct_X9_behindOdds {E : fm_E} {a z : Nat} {f : Nat → Nat} {M : fm_M} (ht : fm_MT f z M) (ha : a ≤ 150) : fm_C shM E mX9_behindOdds 2 [.ref (E.2.1 0), .int (nI a)] M (fun r M' => r = some (.int (nI (fm_dg f z 3 none a).2)) ∧ M' = M) := by
  refine fm_C.of (by decide +kernel) (Nat.le_of_ble_eq_true rfl) ?_
  intro X hE hR hB
  subst hE
  have hB : fm_B _ X cX9_behindOdds 3 RX9 (some .int) := hB
  refine fr_lv [some (.ref (fm_rh X 0)), some (.int (nI a)), none] ⟨rfl, rfl, trivial⟩ ?_
  have l1 : ∀ (d i : Nat) (o : Option Nat), i + d = a + 3 → fm_W shM X 3 2 [some (.ref (fm_rh X 0)), some (.int (nI a)), some (.int (nI i))] [] M (fm_Q shM X (fun r M' => r = some (.int (nI (fm_dg f z d o i).2)) ∧ M' = M)) := by
    intro d
    induction d with
    | zero =>
      intro i o hi
      refine fr_iload_n hB dX9_behindOdds_2 rfl rfl ?_
      refine fr_iload_n hB dX9_behindOdds_3 rfl rfl ?_
      refine fr_iconst (v := nI 3) hB dX9_behindOdds_4 (by decide) ?_
      refine fr_iaddN hB dX9_behindOdds_5 ?_
      refine fr_icmp_geN (tgt := 23) hB dX9_behindOdds_6 (by decide) (by omega) (by omega) (fun h => ?_) (fun h => ?_)
      · refine fr_iload_n hB dX9_behindOdds_23 rfl rfl ?_
        exact fr_ireturn hB dX9_behindOdds_24 (⟨rfl, rfl⟩)
      · exact absurd h (by omega)
    | succ d ih =>
      intro i o hi
      refine fr_iload_n hB dX9_behindOdds_2 rfl rfl ?_
      refine fr_iload_n hB dX9_behindOdds_3 rfl rfl ?_
      refine fr_iconst (v := nI 3) hB dX9_behindOdds_4 (by decide) ?_
      refine fr_iaddN hB dX9_behindOdds_5 ?_
      refine fr_icmp_geN (tgt := 23) hB dX9_behindOdds_6 (by decide) (by omega) (by omega) (fun h => ?_) (fun h => ?_)
      · exact absurd h (by omega)
      · refine fr_aload_n hB dX9_behindOdds_9 rfl rfl ?_
        refine fr_iload_n hB dX9_behindOdds_10 rfl rfl ?_
        refine fr_callV hB _ _ dX9_behindOdds_11 lm_X9_138 rfl (ct_X9_isDigit ht (by omega)) rfl rfl (Nat.le_of_ble_eq_true rfl) (fm_room hR (by decide) (by decide)) ?_
        rintro _ M9 ⟨rfl, hM9⟩
        rw [hM9]
        clear hM9 M9
        refine fr_ret1 ?_
        refine fr_if_eqB (tgt := 23) hB dX9_behindOdds_14 (by decide) (fun h2 => ?_) (fun h2 => ?_)
        · have e : fm_dg f z (d + 1) o i = (o, i) := by rw [fm_dg, if_neg (fm_dI_f h2)]
          refine fr_iload_n hB dX9_behindOdds_23 rfl rfl ?_
          exact fr_ireturn hB dX9_behindOdds_24 (⟨by rw [e], rfl⟩)
        · have e : fm_dg f z (d + 1) o i = fm_dg f z d (some (fm_oN o * 10 + (f i - 48))) (i + 1) := by rw [fm_dg, if_pos (fm_dI_t h2)]
          rw [e]
          refine fr_iincN (b := 1) hB dX9_behindOdds_17 rfl (by decide) (by decide) rfl ?_
          refine fr_goto (tgt := 2) hB dX9_behindOdds_20 (by decide) ?_
          exact ih (i + 1) _ (by omega)
  refine fr_iload_n hB dX9_behindOdds_0 rfl rfl ?_
  refine fr_istore_n hB dX9_behindOdds_1 rfl (by decide) rfl ?_
  exact l1 3 a none (by omega)
theorem ct_X9_behindParts {E : fm_E} {a z : Nat} {f : Nat → Nat} {M : fm_M} (ht : fm_MT f z M) (ha : a ≤ 150) : fm_C shM E mX9_behindParts 2 [.ref (E.2.1 0), .int (nI a)] M (fun r M' => r = some (.int (fm_pI (fm_pcl f z 4 0 (a, 0, fm_R0)))) ∧ M' = M) := by
  refine fm_C.of (by decide +kernel) (Nat.le_of_ble_eq_true rfl) ?_
  intro X hE hR hB
  subst hE
  have hB : fm_B _ X cX9_behindParts 4 RX9 (some .int) := hB
  refine fr_lv [some (.ref (fm_rh X 0)), some (.int (nI a)), none, none] ⟨rfl, rfl, trivial⟩ ?_
  have l1 : ∀ (n k i b : Nat), n + k = 4 → i ≤ a + 2 * k → (b = 0 ↔ k = 0) → fm_W shM X 4 4 [some (.ref (fm_rh X 0)), some (.int (nI a)), some (.int (nI i)), some (.int (nI k))] [] M (fm_Q shM X (fun r M' => r = some (.int (fm_pI (fm_pcl f z n b (i, 0, fm_R0)))) ∧ M' = M)) := by
    intro n
    induction n with
    | zero =>
      intro k i b hk hi hb
      refine fr_iload_n hB dX9_behindParts_4 rfl rfl ?_
      refine fr_iconst (v := nI 4) hB dX9_behindParts_5 (by decide) ?_
      refine fr_icmp_geN (tgt := 55) hB dX9_behindParts_6 (by decide) (by omega) (by omega) (fun h => ?_) (fun h => ?_)
      · refine fr_iload_n hB dX9_behindParts_55 rfl rfl ?_
        exact fr_ireturn hB dX9_behindParts_56 (⟨by rw [fm_pcl, fm_pI]; show _ = some (Value.int (if b = 0 then _ else _)); rw [if_neg (by omega)], rfl⟩)
      · exact absurd h (by omega)
    | succ n ih =>
      intro k i b hk hi hb
      refine fr_iload_n hB dX9_behindParts_4 rfl rfl ?_
      refine fr_iconst (v := nI 4) hB dX9_behindParts_5 (by decide) ?_
      refine fr_icmp_geN (tgt := 55) hB dX9_behindParts_6 (by decide) (by omega) (by omega) (fun h => ?_) (fun h => ?_)
      · exact absurd h (by omega)
      · refine fr_aload_n hB dX9_behindParts_9 rfl rfl ?_
        refine fr_iload_n hB dX9_behindParts_10 rfl rfl ?_
        refine fr_callV hB _ _ dX9_behindParts_11 lm_X9_135 rfl (ct_X9_signAt ht (by omega)) rfl rfl (Nat.le_of_ble_eq_true rfl) (fm_room hR (by decide) (by decide)) ?_
        rintro _ M9 ⟨rfl, hM9⟩
        rw [hM9]
        clear hM9 M9
        refine fr_ret1 ?_
        refine fr_bipush (v := nI 112) hB dX9_behindParts_14 (by decide) ?_
        refine fr_icmp_eq (tgt := 31) hB dX9_behindParts_16 (by decide) (fun h2 => ?_) (fun h2 => ?_)
        · have h2 := (fm_sn_eq (fun q => (ht.2.2 i q).2) (by omega)).mp h2
          refine fr_aload_n hB dX9_behindParts_31 rfl rfl ?_
          refine fr_iload_n hB dX9_behindParts_32 rfl rfl ?_
          refine fr_iconst (v := nI 1) hB dX9_behindParts_33 (by decide) ?_
          refine fr_iaddN hB dX9_behindParts_34 ?_
          refine fr_callV hB _ _ dX9_behindParts_35 lm_X9_138 rfl (ct_X9_isDigit ht (by omega)) rfl rfl (Nat.le_of_ble_eq_true rfl) (fm_room hR (by decide) (by decide)) ?_
          rintro _ M9 ⟨rfl, hM9⟩
          rw [hM9]
          clear hM9 M9
          refine fr_ret1 ?_
          refine fr_if_neB (tgt := 46) hB dX9_behindParts_38 (by decide) (fun h3 => ?_) (fun h3 => ?_)
          · have h3 := fm_dI_t h3
            rw [fm_pcl_2 (0, fm_R0) n b h2 h3]
            refine fr_iincN (b := 2) hB dX9_behindParts_46 rfl (by decide) (by decide) rfl ?_
            refine fr_iincN (b := 1) hB dX9_behindParts_49 rfl (by decide) (by decide) rfl ?_
            refine fr_goto (tgt := 4) hB dX9_behindParts_52 (by decide) ?_
            refine ih (k + 1) (i + 2) _ (by omega) (by omega) ⟨fun q => ?_, fun q => absurd q (by omega)⟩
            have h5 := Nat.or_eq_zero_iff.mp q
            have h6 := Nat.two_pow_pos (f (i + 1) - 48)
            omega
          · have h3 := fm_dI_f h3
            rw [fm_pcl_1 (0, fm_R0) n b h2 h3]
            refine fr_bipush (v := -2) hB dX9_behindParts_41 (by decide) ?_
            refine fr_iload_n hB dX9_behindParts_43 rfl rfl ?_
            refine fr_isub hB dX9_behindParts_44 ?_
            exact fr_ireturn hB dX9_behindParts_45 (⟨congrArg (fun q => some (Value.int q)) (show (-2 : Int32) - nI i = -1 - nI (i + 1) by rw [fm_ng]; rfl), rfl⟩)
        · have h2 : ¬ (i < z ∧ f i = 112) := fun q => h2 ((fm_sn_eq (fun q => (ht.2.2 i q).2) (by omega)).mpr q)
          rw [fm_pcl_0 (0, fm_R0) n b h2]
          refine fr_iload_n hB dX9_behindParts_19 rfl rfl ?_
          refine fr_if_neN (tgt := 29) hB dX9_behindParts_20 (by decide) (by omega) (fun h3 => ?_) (fun h3 => ?_)
          · refine fr_iload_n hB dX9_behindParts_29 rfl rfl ?_
            exact fr_ireturn hB dX9_behindParts_30 (⟨congrArg (fun q => some (Value.int q)) (show nI i = if b = 0 then -1 - nI i else nI i by rw [if_neg (by omega)]), rfl⟩)
          · refine fr_iconst (v := -1) hB dX9_behindParts_23 (by decide) ?_
            refine fr_iload_n hB dX9_behindParts_24 rfl rfl ?_
            refine fr_isub hB dX9_behindParts_25 ?_
            refine fr_goto (tgt := 30) hB dX9_behindParts_26 (by decide) ?_
            exact fr_ireturn hB dX9_behindParts_30 (⟨congrArg (fun q => some (Value.int q)) (show -1 - nI i = if b = 0 then -1 - nI i else nI i by rw [if_pos (by omega)]), rfl⟩)
  refine fr_iload_n hB dX9_behindParts_0 rfl rfl ?_
  refine fr_istore_n hB dX9_behindParts_1 rfl (by decide) rfl ?_
  refine fr_iconst (v := nI 0) hB dX9_behindParts_2 (by decide) ?_
  refine fr_istore_n hB dX9_behindParts_3 rfl (by decide) rfl ?_
  exact l1 4 0 a 0 (by omega) (by omega) ⟨fun _ => rfl, fun _ => rfl⟩
