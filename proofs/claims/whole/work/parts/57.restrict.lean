/-! ===== tables over fewer parts: restricted to the sets of the parts there are ===== -/
def fm_rs (c : Nat) (T : Int64) : Int64 := fm_mk (fm_bit T) (2 ^ c)
/-- a table that hangs on none but the first c parts -/
def fm_ci (c : Nat) (T : Int64) : Prop := ∀ s, s < 64 → fm_bit T s = fm_bit T (s % 2 ^ c)
/-- it doesn't hang on part p -/
def fm_dp (T : Int64) (p : Nat) : Prop := ∀ s, s < 64 → fm_bit T (fm_wo s p) = fm_bit T (fm_wi s p)
theorem fm_wo64 : ∀ p : Nat, p < 6 → ∀ s : Nat, s < 64 → fm_wo s p < 64 ∧ fm_wi s p < 64 := by decide +kernel
theorem fm_rs_bit {c : Nat} (hc : c ≤ 6) (T : Int64) {s : Nat} (hs : s < 64) : fm_bit (fm_rs c T) s = (decide (s < 2 ^ c) && fm_bit T s) := fm_mk_bit _ _ (fm_2c hc).1 s hs
theorem fm_mod_lt (c s : Nat) : s % 2 ^ c < 2 ^ c := Nat.mod_lt _ (Nat.two_pow_pos c)
theorem fm_rs_inj {c : Nat} (hc : c ≤ 6) {T T' : Int64} (h : fm_ci c T) (h' : fm_ci c T') (e : fm_rs c T = fm_rs c T') : T = T' := by
  apply fm_bit_ext
  intro s hs
  have hm := fm_mod_lt c s
  have h64 := (fm_2c hc).1
  have q := congrArg (fun t => fm_bit t (s % 2 ^ c)) e
  simp only [fm_rs_bit hc _ (show s % 2 ^ c < 64 by omega), hm, decide_true, Bool.true_and] at q
  rw [h s hs, h' s hs, q]
theorem fm_ci_0 (c : Nat) : fm_ci c 0 := fun s _ => by rw [fm_bit_0, fm_bit_0]
theorem fm_ci_m1 {c : Nat} (hc : c ≤ 6) : fm_ci c (-1) := fun s hs => by
  have hm := fm_mod_lt c s
  have h64 := (fm_2c hc).1
  rw [fm_bit_m1 hs, fm_bit_m1 (by omega)]
theorem fm_rs_0 {c : Nat} (hc : c ≤ 6) : fm_rs c 0 = 0 := by
  apply fm_bit_ext
  intro s hs
  rw [fm_rs_bit hc _ hs, fm_bit_0, Bool.and_false]
def fm_al (c : Nat) : Int64 := fm_mk (fun _ => true) (2 ^ c)
theorem fm_rs_m1 {c : Nat} (hc : c ≤ 6) : fm_rs c (-1) = fm_al c := by
  apply fm_bit_ext
  intro s hs
  rw [fm_rs_bit hc _ hs, fm_bit_m1 hs, fm_al, fm_mk_bit _ _ (fm_2c hc).1 s hs]
theorem fm_rs_z {c : Nat} (hc : c ≤ 6) {T : Int64} (h : fm_ci c T) : fm_rs c T = 0 ↔ T = 0 := ⟨fun q => fm_rs_inj hc h (fm_ci_0 c) (by rw [q, fm_rs_0 hc]), fun q => by rw [q, fm_rs_0 hc]⟩
theorem fm_rs_a {c : Nat} (hc : c ≤ 6) {T : Int64} (h : fm_ci c T) : fm_rs c T = fm_al c ↔ T = -1 := ⟨fun q => fm_rs_inj hc h (fm_ci_m1 hc) (by rw [q, fm_rs_m1 hc]), fun q => by rw [q, fm_rs_m1 hc]⟩
theorem fm_wmod : ∀ c : Nat, c ≤ 6 → ∀ p : Nat, p < c → ∀ s : Nat, s < 64 → fm_wo s p % 2 ^ c = fm_wo (s % 2 ^ c) p ∧ fm_wi s p % 2 ^ c = fm_wi (s % 2 ^ c) p ∧ (s < 2 ^ c → fm_wo s p < 2 ^ c ∧ fm_wi s p < 2 ^ c) := by decide +kernel
theorem fm_ci.w {c : Nat} (hc : c ≤ 6) {T : Int64} (h : fm_ci c T) {p : Nat} (hp : p < c) : fm_ci c (fm_iw T p) := fun s hs => by
  have hm := fm_mod_lt c s
  have h64 := (fm_2c hc).1
  obtain ⟨h1, -, -⟩ := fm_wmod c hc p hp s hs
  rw [fm_iw_bit T (by omega) hs, fm_iw_bit T (by omega) (by omega), h _ (fm_wo64 p (by omega) s hs).1, h1]
theorem fm_ci.f {c : Nat} (hc : c ≤ 6) {T : Int64} (h : fm_ci c T) {p : Nat} (hp : p < c) : fm_ci c (fm_if T p) := fun s hs => by
  have hm := fm_mod_lt c s
  have h64 := (fm_2c hc).1
  obtain ⟨-, h1, -⟩ := fm_wmod c hc p hp s hs
  rw [fm_if_bit T (by omega) hs, fm_if_bit T (by omega) (by omega), h _ (fm_wo64 p (by omega) s hs).2, h1]
theorem fm_dp_iff {T : Int64} {p : Nat} (hp : p < 6) : fm_iw T p = fm_if T p ↔ fm_dp T p := by
  constructor
  · intro h s hs
    have := congrArg (fun t => fm_bit t s) h
    simpa only [fm_iw_bit T hp hs, fm_if_bit T hp hs] using this
  · intro h
    apply fm_bit_ext
    intro s hs
    rw [fm_iw_bit T hp hs, fm_if_bit T hp hs]
    exact h s hs
theorem fm_wcomE : ∀ p : Nat, p < 6 → ∀ s : Nat, s < 64 → fm_wo (fm_wo s p) p = fm_wo (fm_wi s p) p ∧ fm_wi (fm_wo s p) p = fm_wi (fm_wi s p) p := by decide +kernel
theorem fm_wcomA : ∀ p : Nat, p < 6 → ∀ q : Nat, q < 6 → ∀ s : Nat, s < 64 → (p = q ∨ (fm_wo (fm_wo s p) q = fm_wo (fm_wo s q) p ∧ fm_wo (fm_wi s p) q = fm_wi (fm_wo s q) p)) := by decide +kernel
theorem fm_wcomB : ∀ p : Nat, p < 6 → ∀ q : Nat, q < 6 → ∀ s : Nat, s < 64 → (p = q ∨ (fm_wi (fm_wo s p) q = fm_wo (fm_wi s q) p ∧ fm_wi (fm_wi s p) q = fm_wi (fm_wi s q) p)) := by decide +kernel
theorem fm_dp.w {T : Int64} {p q : Nat} (hp : p < 6) (hq : q < 6) (h : p = q ∨ fm_dp T p) : fm_dp (fm_iw T q) p := fun s hs => by
  have a := fm_wo64 p hp s hs
  have b := fm_wo64 q hq s hs
  rw [fm_iw_bit T hq a.1, fm_iw_bit T hq a.2]
  by_cases e : p = q
  · rw [← e, (fm_wcomE p hp s hs).1]
  · obtain ⟨d1, d2⟩ := (fm_wcomA p hp q hq s hs).resolve_left e
    rw [d1, d2]
    exact (h.resolve_left e) _ b.1
theorem fm_dp.f {T : Int64} {p q : Nat} (hp : p < 6) (hq : q < 6) (h : p = q ∨ fm_dp T p) : fm_dp (fm_if T q) p := fun s hs => by
  have a := fm_wo64 p hp s hs
  have b := fm_wo64 q hq s hs
  rw [fm_if_bit T hq a.1, fm_if_bit T hq a.2]
  by_cases e : p = q
  · rw [← e, (fm_wcomE p hp s hs).2]
  · obtain ⟨d1, d2⟩ := (fm_wcomB p hp q hq s hs).resolve_left e
    rw [d1, d2]
    exact (h.resolve_left e) _ b.2
/-- the set without its parts below k -/
def fm_clr (s : Nat) : Nat → Nat
  | 0 => s
  | k + 1 => fm_wo (fm_clr s k) k
theorem fm_clr_lt : ∀ s : Nat, s < 64 → ∀ k : Nat, k ≤ 6 → fm_clr s k < 64 := by decide +kernel
theorem fm_clr_0 : ∀ c : Nat, c ≤ 6 → ∀ s : Nat, s < 64 → s < 2 ^ c → fm_clr s c = 0 := by decide +kernel
theorem fm_wo_or : ∀ s : Nat, s < 64 → ∀ k : Nat, k < 6 → s = fm_wo s k ∨ s = fm_wi s k := by decide +kernel
theorem fm_const {c : Nat} (hc : c ≤ 6) {T : Int64} (h : fm_ci c T) (hd : ∀ p, p < c → fm_dp T p) : T = 0 ∨ T = -1 := by
  have k1 : ∀ s, s < 64 → ∀ k, k ≤ c → fm_bit T s = fm_bit T (fm_clr s k) := by
    intro s hs k
    induction k with
    | zero => intro _; rfl
    | succ k ih =>
      intro hk
      have hl := fm_clr_lt s hs k (by omega)
      rw [ih (by omega)]
      show _ = fm_bit T (fm_wo (fm_clr s k) k)
      rcases fm_wo_or _ hl k (by omega) with q | q
      · rw [← q]
      · rw [hd k (by omega) _ hl, ← q]
  have k2 : ∀ s, s < 64 → fm_bit T s = fm_bit T 0 := by
    intro s hs
    have hm := fm_mod_lt c s
    have h64 := (fm_2c hc).1
    rw [h s hs, k1 (s % 2 ^ c) (by omega) c (Nat.le_refl c), fm_clr_0 c hc _ (by omega) hm]
  cases hb : fm_bit T 0 with
  | false => exact Or.inl (fm_bit_ext (fun s hs => by rw [k2 s hs, hb, fm_bit_0]))
  | true => exact Or.inr (fm_bit_ext (fun s hs => by rw [k2 s hs, hb, fm_bit_m1 hs]))
theorem fm_fp_before (o : Nat → Nat) (t : Int64) : ∀ d i j, i ≤ j → j < fm_fp o t i d → fm_iw t (o j) = fm_if t (o j) := by
  intro d
  induction d with
  | zero => intro i j h1 h2; simp only [fm_fp] at h2; omega
  | succ d ih =>
    intro i j h1 h2
    unfold fm_fp at h2
    split at h2
    · rename_i he
      by_cases e : i = j
      · rw [← e]; exact he
      · exact ih (i + 1) j (by omega) h2
    · omega
theorem fm_fp_at (o : Nat → Nat) (t : Int64) : ∀ d i, fm_fp o t i d < i + d → ¬ fm_iw t (o (fm_fp o t i d)) = fm_if t (o (fm_fp o t i d)) := by
  intro d
  induction d with
  | zero => intro i h; simp only [fm_fp] at h; omega
  | succ d ih =>
    intro i h
    unfold fm_fp at h ⊢
    split
    · rename_i he
      rw [if_pos he] at h
      exact ih (i + 1) (by omega)
    · rename_i he
      exact he
/-- the gates' tables hang on the parts there are alone -/
theorem fm_tbmod : ∀ c : Nat, c ≤ 6 → ∀ s : Nat, s < 64 → ∀ p : Nat, p < c → s.testBit p = (s % 2 ^ c).testBit p := by decide +kernel
theorem fm_down_mod {P : fm_P} (hw : fm_wf P) {s : Nat} (hs : s < 64) : ∀ g, g < P 3 0 → fm_down P g s = fm_down P g (s % 2 ^ P 0 0) := by
  intro g
  induction g using Nat.strongRecOn with
  | ind g ih =>
    intro hg
    rw [fm_down_eq hw hg s, fm_down_eq hw hg (s % 2 ^ P 0 0)]
    congr 1
    apply fm_cnt_congr
    intro i hi
    have h6 := hw.p6
    unfold fm_in1
    rcases hw.inp g i hg hi with h | ⟨h, h2⟩
    · rw [if_neg (by omega), if_neg (by omega)]
      exact fm_tbmod _ h6 s hs _ h
    · rw [if_pos h, if_pos h]
      exact ih _ (by omega) (by omega)
theorem fm_TT_ci {P : fm_P} (hw : fm_wf P) (hg : 0 < P 3 0) : fm_ci (P 0 0) (fm_TT P) := fun s hs => by
  have hm := fm_mod_lt (P 0 0) s
  have h64 := (fm_2c hw.p6).1
  rw [fm_TT_bit P hs, fm_TT_bit P (by omega)]
  exact fm_down_mod hw hs _ (fm_tg_lt hw hg)
