/-! ===== tables of 64 bits ===== -/
def fm_bit (T : Int64) (s : Nat) : Bool := T.toBitVec.getLsbD s
theorem fm_bit_and (a b : Int64) (s : Nat) : fm_bit (a &&& b) s = (fm_bit a s && fm_bit b s) := by
  unfold fm_bit
  rw [Int64.toBitVec_and, BitVec.getLsbD_and]
theorem fm_bit_or (a b : Int64) (s : Nat) : fm_bit (a ||| b) s = (fm_bit a s || fm_bit b s) := by
  unfold fm_bit
  rw [Int64.toBitVec_or, BitVec.getLsbD_or]
theorem fm_bit_xor (a b : Int64) (s : Nat) : fm_bit (a ^^^ b) s = (fm_bit a s ^^ fm_bit b s) := by
  unfold fm_bit
  rw [Int64.toBitVec_xor, BitVec.getLsbD_xor]
theorem fm_bit_0 (s : Nat) : fm_bit 0 s = false := by
  unfold fm_bit
  exact BitVec.getLsbD_zero
theorem fm_bit_m1 {s : Nat} (h : s < 64) : fm_bit (-1) s = true := by
  have e : (-1 : Int64).toBitVec = BitVec.allOnes 64 := by decide
  unfold fm_bit
  rw [e, BitVec.getLsbD_allOnes]
  simp [h]
theorem fm_bit_ge (a : Int64) {s : Nat} (h : 64 ≤ s) : fm_bit a s = false := BitVec.getLsbD_of_ge _ _ h
theorem fm_bit_ext {a b : Int64} (h : ∀ s, s < 64 → fm_bit a s = fm_bit b s) : a = b := Int64.toBitVec_inj.mp (BitVec.eq_of_getLsbD_eq h)
theorem fm_shamt : ∀ n : Nat, n < 64 → (((nI n).toInt64 &&& 63).toBitVec.smod 64).toNat = n := by decide +kernel
theorem fm_shamt2 : ∀ n : Nat, n < 64 → (((nI n).toInt64.toUInt64 &&& Int64.toUInt64 63).toBitVec % 64).toNat = n := by decide +kernel
theorem fm_bit_shl (x : Int64) {n s : Nat} (hn : n < 64) (hs : s < 64) : fm_bit (x <<< ((nI n).toInt64 &&& 63)) s = (decide (n ≤ s) && fm_bit x (s - n)) := by
  unfold fm_bit
  rw [Int64.toBitVec_shiftLeft, BitVec.getLsbD_shiftLeft']
  have e := fm_shamt n hn
  have e2 : ((((nI n).toInt64 &&& 63).toBitVec.smod (64 : BitVec 64))).toNat = n := e
  rw [e2]
  by_cases h : n ≤ s
  · have : ¬ s < n := by omega
    simp [h, this, hs]
  · have : s < n := by omega
    simp [h, this]
theorem fm_bit_ushr (x : Int64) {n s : Nat} (hn : n < 64) : fm_bit ((x.toUInt64 >>> ((nI n).toInt64.toUInt64 &&& Int64.toUInt64 63)).toInt64) s = fm_bit x (n + s) := by
  unfold fm_bit
  show (x.toBitVec >>> ((((nI n).toInt64.toUInt64 &&& Int64.toUInt64 63).toBitVec % 64))).getLsbD s = _
  rw [BitVec.ushiftRight_eq', fm_shamt2 n hn, BitVec.getLsbD_ushiftRight]
theorem fm_PT_bit : ∀ p : Nat, p < 6 → ∀ s : Nat, s < 64 → fm_bit (fm_PT p) s = s.testBit p := by decide +kernel
/-- a table, were a part as told -/
def fm_iw (T : Int64) (p : Nat) : Int64 := (T &&& (fm_PT p ^^^ -1)) ||| ((T &&& (fm_PT p ^^^ -1)) <<< ((nI (2 ^ p)).toInt64 &&& 63))
def fm_if (T : Int64) (p : Nat) : Int64 := (T &&& fm_PT p) ||| ((T &&& fm_PT p).toUInt64 >>> ((nI (2 ^ p)).toInt64.toUInt64 &&& Int64.toUInt64 63)).toInt64
theorem fm_off : ∀ p : Nat, p < 6 → ∀ s : Nat, s < 64 → (s.testBit p = true → 2 ^ p ≤ s ∧ (s - 2 ^ p).testBit p = false) ∧ (s.testBit p = false → s + 2 ^ p < 64 ∧ (2 ^ p + s).testBit p = true ∧ (2 ^ p ≤ s → (s - 2 ^ p).testBit p = true)) := by decide +kernel
theorem fm_on : ∀ p : Nat, p < 6 → ∀ s : Nat, s < 64 → s.testBit p = true → (2 ^ p + s < 64 → (2 ^ p + s).testBit p = false) := by decide +kernel
/-- the set without, with a part -/
def fm_wo (s p : Nat) : Nat := if s.testBit p then s - 2 ^ p else s
def fm_wi (s p : Nat) : Nat := if s.testBit p then s else 2 ^ p + s
theorem fm_iw_bit (T : Int64) {p s : Nat} (hp : p < 6) (hs : s < 64) : fm_bit (fm_iw T p) s = fm_bit T (fm_wo s p) := by
  have h2 : 2 ^ p < 64 := by
    rcases (show p = 0 ∨ p = 1 ∨ p = 2 ∨ p = 3 ∨ p = 4 ∨ p = 5 by omega) with rfl | rfl | rfl | rfl | rfl | rfl <;> decide
  obtain ⟨o1, o2⟩ := fm_off p hp s hs
  unfold fm_iw
  rw [fm_bit_or, fm_bit_and, fm_bit_xor, fm_bit_m1 hs, fm_PT_bit p hp s hs, fm_bit_shl _ h2 hs, fm_bit_and, fm_bit_xor, fm_bit_m1 (Nat.lt_of_le_of_lt (Nat.sub_le s (2 ^ p)) hs), fm_PT_bit p hp _ (Nat.lt_of_le_of_lt (Nat.sub_le s (2 ^ p)) hs)]
  cases hb : s.testBit p with
  | true =>
    obtain ⟨a, b⟩ := o1 hb
    simp [fm_wo, hb, a, b]
  | false =>
    obtain ⟨_, _, c⟩ := o2 hb
    by_cases h : 2 ^ p ≤ s
    · simp [fm_wo, hb, h, c h]
    · simp [fm_wo, hb, h]
theorem fm_if_bit (T : Int64) {p s : Nat} (hp : p < 6) (hs : s < 64) : fm_bit (fm_if T p) s = fm_bit T (fm_wi s p) := by
  have h2 : 2 ^ p < 64 := by
    rcases (show p = 0 ∨ p = 1 ∨ p = 2 ∨ p = 3 ∨ p = 4 ∨ p = 5 by omega) with rfl | rfl | rfl | rfl | rfl | rfl <;> decide
  obtain ⟨o1, o2⟩ := fm_off p hp s hs
  unfold fm_if
  rw [fm_bit_or, fm_bit_and, fm_PT_bit p hp s hs, fm_bit_ushr _ h2, fm_bit_and]
  cases hb : s.testBit p with
  | true =>
    have hw : fm_wi s p = s := by simp [fm_wi, hb]
    rw [hw]
    by_cases h : 2 ^ p + s < 64
    · rw [fm_PT_bit p hp _ h, fm_on p hp s hs hb h]
      simp
    · rw [fm_bit_ge _ (show 64 ≤ 2 ^ p + s by omega)]
      simp
  | false =>
    obtain ⟨a, b, _⟩ := o2 hb
    rw [fm_PT_bit p hp _ (show 2 ^ p + s < 64 by omega), b]
    simp [fm_wi, hb]
/-- x.toInt within or without a table's bounds -/
theorem fm_cases (x : Int32) (n : Nat) (hn : n < 2 ^ 31) : (∃ i, i < n ∧ x = nI i) ∨ (x.toInt < 0 ∨ (n : Int) - 1 < x.toInt) := by
  by_cases h : x < 0
  · right; left
    simpa using Int32.lt_iff_toInt_lt.mp h
  · obtain ⟨a, ha, rfl⟩ := nI_of h
    rw [nI_toInt ha]
    by_cases h2 : a < n
    · exact Or.inl ⟨a, h2, rfl⟩
    · right; right; omega
