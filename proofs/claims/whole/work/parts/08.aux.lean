/-! ===== truth values, numbers within bounds ===== -/
def fm_ib (b : Bool) : Int32 := match b with
  | true => nI 1
  | false => nI 0
/-- n is one of 0 .. c-1 -/
def fm_lt (n : Int32) (c : Nat) : Bool := decide (¬ n < 0) && decide (n < nI c)
theorem fm_lt_neg {n : Int32} (c : Nat) (h : n < 0) : fm_lt n c = false := by simp [fm_lt, h]
theorem fm_lt_ge {n : Int32} {c : Nat} (h : nI c ≤ n) : fm_lt n c = false := by
  have : ¬ n < nI c := Int32.not_lt.mpr h
  simp [fm_lt, this]
theorem fm_lt_in {n : Int32} {c : Nat} (h0 : ¬ n < 0) (h : ¬ nI c ≤ n) : fm_lt n c = true := by
  have : n < nI c := Int32.not_le.mp h
  simp [fm_lt, this, Int32.not_lt.mp h0]
theorem fm_lt_nat {a c : Nat} (ha : a < 2 ^ 31) (hc : c < 2 ^ 31) : fm_lt (nI a) c = decide (a < c) := by
  unfold fm_lt
  simp only [nI_pos ha, not_false_eq_true, decide_true, Bool.true_and]
  rw [decide_eq_decide]
  exact nI_ltI ha hc
theorem fm_lt_of {n : Int32} {c : Nat} (hc : c < 2 ^ 31) (h : fm_lt n c = true) : ∃ a : Nat, a < c ∧ n = nI a := by
  simp only [fm_lt, Bool.and_eq_true, decide_eq_true_eq] at h
  obtain ⟨a, ha, rfl⟩ := nI_of h.1
  exact ⟨a, (nI_ltI ha hc).mp h.2, rfl⟩
theorem fm_nar0 : narrow .boolean (.int (nI 0)) = .int (nI 0) := congrArg Value.int (by decide)
theorem fm_nar1 : narrow .boolean (.int (nI 1)) = .int (nI 1) := congrArg Value.int (by decide)
theorem fm_nar (b : Bool) : narrow .boolean (.int (fm_ib b)) = .int (fm_ib b) := by
  cases b
  · exact fm_nar0
  · exact fm_nar1
theorem fm_ib_ne : ∀ b : Bool, (fm_ib b = 0) ↔ b = false := by decide
theorem fm_shl1 {c : Nat} (h : c ≤ 6) : nI 1 <<< (nI c &&& 31) = nI (2 ^ c) := by
  rcases (show c = 0 ∨ c = 1 ∨ c = 2 ∨ c = 3 ∨ c = 4 ∨ c = 5 ∨ c = 6 by omega) with rfl | rfl | rfl | rfl | rfl | rfl | rfl <;> decide
section FMB
variable {sh : List fm_S} {X : fm_X} {cc : ByteArray} {nL : Nat} {own : String} {ret : Option FieldType} {pc : Nat} {lv : List (Option Value)} {st : List Value} {M : fm_M} {Q : State → Prop}
theorem fr_if_eqB (hB : fm_B sh X cc nL own ret) {b : Bool} {off : Int} {tgt : Nat} (hd : decode cc pc = .ok (.ifCond .eq off, 3)) (ht : (pc : Int) + off = (tgt : Int)) (kt : b = false → fm_W sh X nL tgt lv st M Q) (kf : b = true → fm_W sh X nL (pc + 3) lv st M Q) : fm_W sh X nL pc lv (.int (fm_ib b) :: st) M Q := fr_if_eq hB hd ht (fun h => kt ((fm_ib_ne b).mp h)) (fun h => kf (by
  cases b
  · exact absurd ((fm_ib_ne false).mpr rfl) h
  · rfl))
theorem fr_if_neB (hB : fm_B sh X cc nL own ret) {b : Bool} {off : Int} {tgt : Nat} (hd : decode cc pc = .ok (.ifCond .ne off, 3)) (ht : (pc : Int) + off = (tgt : Int)) (kt : b = true → fm_W sh X nL tgt lv st M Q) (kf : b = false → fm_W sh X nL (pc + 3) lv st M Q) : fm_W sh X nL pc lv (.int (fm_ib b) :: st) M Q := fr_if_ne hB hd ht (fun h => kt (by
  cases b
  · exact absurd ((fm_ib_ne false).mpr rfl) h
  · rfl)) (fun h => kf (by
  cases b
  · rfl
  · exact absurd (fun q => by have := (fm_ib_ne true).mp q; cases this) h))
end FMB
