/-! ===== odds: they grow with a part's; bounds; fractions ===== -/
theorem fm_cnt_imp {q r : Nat → Bool} : ∀ n, (∀ i, i < n → q i = true → r i = true) → fm_cnt q n ≤ fm_cnt r n := by
  intro n
  induction n with
  | zero => intro _; exact Nat.le_refl _
  | succ n ih =>
    intro h
    have h1 := ih (fun i hi => h i (by omega))
    have h2 := h n (by omega)
    unfold fm_cnt
    cases hq : q n with
    | false => simp only [Bool.false_eq_true, if_false]; omega
    | true => rw [h2 hq]; simp only [if_true]; omega
theorem fm_down_mono {P : fm_P} (hw : fm_wf P) {s t : Nat} (hst : ∀ i, s.testBit i = true → t.testBit i = true) : ∀ g, g < P 3 0 → fm_down P g s = true → fm_down P g t = true := by
  intro g
  induction g using Nat.strongRecOn with
  | ind g ih =>
    intro hg h
    rw [fm_down_eq hw hg] at h ⊢
    have hc : fm_cnt (fun i => fm_in1 (fun q => fm_down P q s) s (P 7 (4 * g + i))) (P 6 g) ≤ fm_cnt (fun i => fm_in1 (fun q => fm_down P q t) t (P 7 (4 * g + i))) (P 6 g) := fm_cnt_imp _ (fun i hi hq => by
      have hin := hw.inp g i hg hi
      have hq : fm_in1 (fun q => fm_down P q s) s (P 7 (4 * g + i)) = true := hq
      show fm_in1 (fun q => fm_down P q t) t (P 7 (4 * g + i)) = true
      unfold fm_in1 at hq ⊢
      by_cases h10 : 10 ≤ P 7 (4 * g + i)
      · rw [if_pos h10] at hq ⊢
        have h6 := hw.p6
        exact ih _ (by omega) (by omega) hq
      · rw [if_neg h10] at hq ⊢
        exact hst _ hq)
    have hle := fm_cnt_le (fun i => fm_in1 (fun q => fm_down P q t) t (P 7 (4 * g + i))) (P 6 g)
    generalize fm_cnt (fun i => fm_in1 (fun q => fm_down P q s) s (P 7 (4 * g + i))) (P 6 g) = a at h hc
    generalize fm_cnt (fun i => fm_in1 (fun q => fm_down P q t) t (P 7 (4 * g + i))) (P 6 g) = b at hc hle ⊢
    unfold fm_by at h ⊢
    by_cases k0 : P 4 g = 0
    · rw [if_pos k0] at h ⊢
      have := of_decide_eq_true h
      exact decide_eq_true (by omega)
    · rw [if_neg k0] at h ⊢
      by_cases k1 : P 4 g = 1
      · rw [if_pos k1] at h ⊢
        have := of_decide_eq_true h
        exact decide_eq_true (by omega)
      · rw [if_neg k1] at h ⊢
        have := of_decide_eq_true h
        exact decide_eq_true (by omega)
/-- a function of sets that grows with them -/
def fm_gw (φ : Nat → Nat) : Prop := ∀ s b, φ s ≤ φ (s ||| b)
theorem fm_gw.A {φ : Nat → Nat} (h : fm_gw φ) (b o : Nat) : fm_gw (fm_oA b o φ) := by
  intro s c
  show (100 - o) * φ s + o * φ (s ||| b) ≤ (100 - o) * φ (s ||| c) + o * φ (s ||| c ||| b)
  have e : s ||| c ||| b = s ||| b ||| c := by rw [Nat.or_assoc, Nat.or_comm c b, ← Nat.or_assoc]
  rw [e]
  exact Nat.add_le_add (Nat.mul_le_mul_left _ (h s c)) (Nat.mul_le_mul_left _ (h (s ||| b) c))
theorem fm_gw.Bs {b o : Nat → Nat} : ∀ (n : Nat) (φ : Nat → Nat), fm_gw φ → fm_gw (fm_Bs b o n φ) := by
  intro n
  induction n with
  | zero => intro φ h; exact h
  | succ n ih => intro φ h; exact ih _ (h.A _ _)
theorem fm_Bs_mono {b o : Nat → Nat} : ∀ (n : Nat) (φ ψ : Nat → Nat), (∀ s, φ s ≤ ψ s) → ∀ s, fm_Bs b o n φ s ≤ fm_Bs b o n ψ s := by
  intro n
  induction n with
  | zero => intro φ ψ h; exact h
  | succ n ih =>
    intro φ ψ h
    exact ih _ _ (fun s => Nat.add_le_add (Nat.mul_le_mul_left _ (h s)) (Nat.mul_le_mul_left _ (h _)))
theorem fm_Bs_congr {b o o' : Nat → Nat} : ∀ (n : Nat) (φ : Nat → Nat), (∀ i, i < n → o i = o' i) → fm_Bs b o n φ = fm_Bs b o' n φ := by
  intro n
  induction n with
  | zero => intro φ _; rfl
  | succ n ih =>
    intro φ h
    unfold fm_Bs
    rw [ih _ (fun i hi => h i (by omega)), h n (by omega)]
theorem fm_Bs_grow {b o o' : Nat → Nat} {p : Nat} (hp : o p = 0) (hp' : o' p = 100) (he : ∀ i, i ≠ p → o i = o' i) : ∀ (n : Nat) (φ : Nat → Nat), fm_gw φ → ∀ s, fm_Bs b o n φ s ≤ fm_Bs b o' n φ s := by
  intro n
  induction n with
  | zero => intro φ _ s; exact Nat.le_refl _
  | succ n ih =>
    intro φ h s
    show fm_Bs b o n (fm_oA (b n) (o n) φ) s ≤ fm_Bs b o' n (fm_oA (b n) (o' n) φ) s
    by_cases e : n = p
    · subst e
      rw [fm_Bs_congr n _ (fun i hi => he i (by omega))]
      refine fm_Bs_mono n _ _ (fun s => ?_) s
      show (100 - o n) * φ s + o n * φ (s ||| b n) ≤ (100 - o' n) * φ s + o' n * φ (s ||| b n)
      rw [hp, hp']
      have := h s (b n)
      omega
    · rw [he n e]
      exact ih _ (h.A _ _) s
theorem fm_Bs_le {b o : Nat → Nat} : ∀ (n : Nat) (φ : Nat → Nat) (k : Nat), (∀ i, i < n → o i ≤ 100) → (∀ s, φ s ≤ k) → ∀ s, fm_Bs b o n φ s ≤ 100 ^ n * k := by
  intro n
  induction n with
  | zero => intro φ k _ h s; have := h s; show φ s ≤ 1 * k; omega
  | succ n ih =>
    intro φ k ho h s
    show fm_Bs b o n (fm_oA (b n) (o n) φ) s ≤ _
    have := ih (fm_oA (b n) (o n) φ) (100 * k) (fun i hi => ho i (by omega)) (fun s => by
      show (100 - o n) * φ s + o n * φ (s ||| b n) ≤ 100 * k
      have h1 : (100 - o n) * φ s ≤ (100 - o n) * k := Nat.mul_le_mul_left _ (h s)
      have h2 : o n * φ (s ||| b n) ≤ o n * k := Nat.mul_le_mul_left _ (h _)
      have h3 : (100 - o n) * k + o n * k = 100 * k := by rw [← Nat.add_mul]; congr 1; have := ho n (by omega); omega
      omega) s
    rw [Nat.pow_succ, Nat.mul_assoc]
    exact this
/-- one or nothing, as the top fails by a set -/
def fm_fi (P : fm_P) (s : Nat) : Nat := if fm_down P (fm_tg P) s then 1 else 0
theorem fm_fi_bit (P : fm_P) : ∀ j, j < 64 → fm_fi P j = if fm_bit (fm_TT P) j then 1 else 0 := fun j hj => by
  rw [fm_TT_bit P hj]; rfl
theorem fm_fi_le (P : fm_P) (s : Nat) : fm_fi P s ≤ 1 := by unfold fm_fi; split <;> omega
theorem fm_fi_gw {P : fm_P} (hw : fm_wf P) (hg : 0 < P 3 0) : fm_gw (fm_fi P) := by
  intro s b
  unfold fm_fi
  by_cases h : fm_down P (fm_tg P) s = true
  · rw [if_pos h, if_pos (fm_down_mono hw (fun i hi => by rw [Nat.testBit_or, hi]; rfl) _ (fm_tg_lt hw hg) h)]
    exact Nat.le_refl 1
  · rw [if_neg h]; exact Nat.zero_le _
theorem fm_ch_le {o1 o2 b φ : Nat → Nat} {p c : Nat} (h1 : ∀ i, o1 i ≤ 100) (h2 : ∀ i, o2 i ≤ 100) (hφ : ∀ s, φ s ≤ 1) : fm_ch o1 o2 b p c φ ≤ 100 ^ (p + c) := by
  rw [fm_ch_B]
  have := fm_Bs_le (b := fun i => 2 ^ i) p (fm_Bs b o2 c φ) (100 ^ c * 1) (fun i _ => h1 i) (fm_Bs_le c φ 1 (fun i _ => h2 i) hφ) 0
  rw [Nat.mul_one, ← Nat.pow_add] at this
  exact this
theorem fm_pow9 {n : Nat} (h : n ≤ 9) : 100 ^ n ≤ 10 ^ 18 := by
  have : 100 ^ n ≤ 100 ^ 9 := Nat.pow_le_pow_right (by omega) h
  exact Nat.le_trans this (Nat.le_of_ble_eq_true rfl)
/-- the odds of a plant, as they are -/
def fm_cn (P : fm_P) : Nat := fm_ch (P 1) (P 10) (P 11) (P 0 0) (P 9 0) (fm_fi P)
theorem fm_cn_le {P : fm_P} (hw : fm_wf P) : fm_cn P ≤ 100 ^ (P 0 0 + P 9 0) := fm_ch_le hw.o100 hw.co (fm_fi_le P)
theorem fm_ch_congr {o1 o2 o1' o2' b φ : Nat → Nat} {p c : Nat} (h1 : ∀ i, i < p → o1 i = o1' i) (h2 : ∀ i, i < c → o2 i = o2' i) : fm_ch o1 o2 b p c φ = fm_ch o1' o2' b p c φ := by
  rw [fm_ch_B, fm_ch_B, fm_Bs_congr c φ h2, fm_Bs_congr p _ h1]
theorem fm_nm1 : ∀ i : Nat, i < 9 → nI i ≠ -1 := by decide
theorem fm_ab_cn {P : fm_P} (hw : fm_wf P) : fm_ab P (fm_TT P) (-1) 0 = lN (fm_cn P) := by
  have h6 := hw.p6
  have h3 := hw.c3
  rw [fm_ab_ch hw (by omega) (fm_fi_bit P)]
  congr 1
  exact fm_ch_congr (fun i hi => by unfold fm_o1; rw [if_neg (fm_nm1 i (by omega))]) (fun i hi => by unfold fm_o2; rw [if_neg (fm_nm1 (6 + i) (by omega))])
theorem fm_wf.u_codds {P : fm_P} (h : fm_wf P) {i v : Nat} (hv : v ≤ 100) : fm_wf (fm_u P 10 i v) := by
  obtain ⟨a1, a2, a3, a4, a5, a6, a7, a8, a9, a10, a11, a12⟩ := h
  refine ⟨a1, a2, a3, a4, a5, a6, a7, a8, a9, a10, fun c => ?_, a12⟩
  rw [fm_u_at]
  split
  · exact hv
  · exact a11 c
theorem fm_dn_congr {P Q : fm_P} (h4 : P 4 = Q 4) (h5 : P 5 = Q 5) (h6 : P 6 = Q 6) (h7 : P 7 = Q 7) (s : Nat) : ∀ n, fm_dn P s n = fm_dn Q s n := by
  intro n
  induction n with
  | zero => rfl
  | succ n ih =>
    unfold fm_dn
    rw [ih, h6, h7]
    funext g
    unfold fm_by
    rw [h4, h5, h6]
theorem fm_down_congr {P Q : fm_P} (h4 : P 4 = Q 4) (h5 : P 5 = Q 5) (h6 : P 6 = Q 6) (h7 : P 7 = Q 7) (g s : Nat) : fm_down P g s = fm_down Q g s := by
  unfold fm_down
  rw [fm_dn_congr h4 h5 h6 h7]
theorem fm_fi_u (P : fm_P) {k i v : Nat} (hk : k = 1 ∨ k = 10) : fm_fi (fm_u P k i v) = fm_fi P := by
  have e : ∀ j, j ≠ 1 → j ≠ 10 → fm_u P k i v j = P j := fun j h1 h2 => fm_u_ne P i v (by rcases hk with h | h <;> omega)
  funext s
  unfold fm_fi
  rw [fm_down_congr (e 4 (by omega) (by omega)) (e 5 (by omega) (by omega)) (e 6 (by omega) (by omega)) (e 7 (by omega) (by omega)), show fm_tg (fm_u P k i v) = fm_tg P from by unfold fm_tg; rw [e 8 (by omega) (by omega), e 3 (by omega) (by omega)]]
theorem fm_ab_c {P : fm_P} (hw : fm_wf P) {c v : Nat} (hc : c < P 9 0) (hv : v ≤ 100) : fm_ab P (fm_TT P) (nI (6 + c)) v = lN (fm_cn (fm_u P 10 c v)) := by
  have h6 := hw.p6
  have h3 := hw.c3
  rw [fm_ab_ch hw hv (fm_fi_bit P)]
  congr 1
  unfold fm_cn
  rw [fm_fi_u P (Or.inr rfl)]
  refine fm_ch_congr (fun i hi => ?_) (fun i hi => ?_)
  · unfold fm_o1
    rw [if_neg (fun q => by have := (nI_eq (by omega) (by omega)).mp q; omega)]
    rfl
  · unfold fm_o2
    show _ = fm_u P 10 c v 10 i
    rw [fm_u_at]
    by_cases e : i = c
    · rw [if_pos (by rw [e]), if_pos ⟨rfl, e⟩]
    · rw [if_neg (fun q => e (by have := (nI_eq (by omega) (by omega)).mp q; omega)), if_neg (fun q => e q.2)]
theorem fm_ab_p {P : fm_P} (hw : fm_wf P) {p v : Nat} (hp : p < P 0 0) (hv : v ≤ 100) : fm_ab P (fm_TT P) (nI p) v = lN (fm_cn (fm_u P 1 p v)) := by
  have h6 := hw.p6
  have h3 := hw.c3
  rw [fm_ab_ch hw hv (fm_fi_bit P)]
  congr 1
  unfold fm_cn
  rw [fm_fi_u P (Or.inl rfl)]
  refine fm_ch_congr (fun i hi => ?_) (fun i hi => ?_)
  · unfold fm_o1
    show _ = fm_u P 1 p v 1 i
    rw [fm_u_at]
    by_cases e : i = p
    · rw [if_pos (by rw [e]), if_pos ⟨rfl, e⟩]
    · rw [if_neg (fun q => e (by have := (nI_eq (by omega) (by omega)).mp q; omega)), if_neg (fun q => e q.2)]
  · unfold fm_o2
    rw [if_neg (fun q => by have := (nI_eq (by omega) (by omega)).mp q; omega)]
    rfl
theorem fm_cn_grow {P : fm_P} (hw : fm_wf P) (hg : 0 < P 3 0) {p : Nat} : fm_cn (fm_u P 1 p 0) ≤ fm_cn (fm_u P 1 p 100) := by
  unfold fm_cn
  rw [fm_fi_u P (Or.inl rfl), fm_fi_u P (Or.inl rfl), fm_ch_B, fm_ch_B]
  refine fm_Bs_grow (p := p) (by rw [fm_u_same]) (by rw [fm_u_same]) (fun i hi => by rw [fm_u_at, fm_u_at, if_neg (fun q => hi q.2), if_neg (fun q => hi q.2)]) (P 0 0) _ ?_ 0
  exact fm_gw.Bs _ _ (fm_fi_gw hw hg)
/-- what a part weighs -/
def fm_wn2 (P : fm_P) (p : Nat) : Nat := fm_cn (fm_u P 1 p 100) - fm_cn (fm_u P 1 p 0)
theorem fm_wt_n {P : fm_P} (hw : fm_wf P) (hg : 0 < P 3 0) {p : Nat} (hp : p < P 0 0) : fm_wt P (fm_TT P) p = lN (fm_wn2 P p) := by
  unfold fm_wt
  rw [fm_ab_p hw hp (by omega), fm_ab_p hw hp (by omega), lN_sub (fm_cn_grow hw hg)]
  rfl
theorem fm_wn2_le {P : fm_P} (hw : fm_wf P) {p : Nat} : fm_wn2 P p ≤ 100 ^ (P 0 0 + P 9 0) := by
  have h := fm_cn_le (hw.u_odds (i := p) (v := 100) (by omega))
  have e : (fm_u P 1 p 100) 0 0 + (fm_u P 1 p 100) 9 0 = P 0 0 + P 9 0 := rfl
  rw [e] at h
  unfold fm_wn2
  omega
theorem fm_h_n (n : Nat) : fm_h n = lN (100 ^ n) := by
  induction n with
  | zero => rfl
  | succ n ih =>
    unfold fm_h
    rw [ih, show (100 : Int64) = lN 100 from rfl, lN_mul, Nat.pow_succ]
theorem lN_toInt' {n : Nat} (h : n < 2 ^ 63) : (lN n).toInt = (n : Int) := by
  unfold lN
  rw [Int64.toInt_ofNat_of_lt h]
theorem lN_inj {a b : Nat} (ha : a < 2 ^ 63) (hb : b < 2 ^ 63) : lN a = lN b ↔ a = b := by
  rw [← Int64.toInt_inj, lN_toInt' ha, lN_toInt' hb]
  omega
theorem lN_lt' {a b : Nat} (ha : a < 2 ^ 63) (hb : b < 2 ^ 63) : lN a < lN b ↔ a < b := by
  rw [Int64.lt_iff_toInt_lt, lN_toInt' ha, lN_toInt' hb]
  omega
theorem lN_div {a b : Nat} (ha : a < 2 ^ 63) (hb : b < 2 ^ 63) : lN a / lN b = lN (a / b) := by
  unfold lN
  exact (Int64.ofNat_div ha hb).symm
theorem lN_mod {a b : Nat} (ha : a < 2 ^ 63) (hb : b < 2 ^ 63) : lN a - lN a / lN b * lN b = lN (a % b) := by
  have hd : a / b * b ≤ a := Nat.div_mul_le_self a b
  have hm := Nat.div_add_mod a b
  rw [Nat.mul_comm] at hm
  rw [lN_div ha hb, lN_mul, lN_sub hd]
  congr 1
  omega
/-- Euclid's way ends within d steps -/
def fm_eu : Nat → Nat → Nat → Prop
  | 0, _, b => b = 0
  | d + 1, a, b => b = 0 ∨ fm_eu d b (a % b)
theorem fm_eu_0 : ∀ d a, fm_eu d a 0 := by
  intro d a
  cases d with
  | zero => rfl
  | succ d => exact Or.inl rfl
theorem fm_eu_up : ∀ d a b, fm_eu d a b → fm_eu (d + 1) a b := by
  intro d
  induction d with
  | zero => intro a b h; exact Or.inl h
  | succ d ih =>
    intro a b h
    rcases h with h | h
    · exact Or.inl h
    · exact Or.inr (ih _ _ h)
theorem fm_eu_2 : ∀ k a b, b < 2 ^ k → fm_eu (2 * k) a b := by
  intro k
  induction k with
  | zero => intro a b h; show b = 0; simpa using h
  | succ k ih =>
    intro a b h
    show b = 0 ∨ (a % b = 0 ∨ fm_eu (2 * k) (a % b) (b % (a % b)))
    by_cases hb : b = 0
    · exact Or.inl hb
    · refine Or.inr ?_
      have h1 : a % b < b := Nat.mod_lt a (by omega)
      by_cases hr : a % b = 0
      · exact Or.inl hr
      · refine Or.inr (ih _ _ ?_)
        generalize a % b = r at h1 hr
        have h2 : b % r < r := Nat.mod_lt b (by omega)
        have h3 := Nat.div_add_mod b r
        have h4 : 0 < b / r := Nat.div_pos (by omega) (by omega)
        have h5 : r * 1 ≤ r * (b / r) := Nat.mul_le_mul_left r h4
        rw [Nat.pow_succ] at h
        omega
theorem fm_gcd_n : ∀ d a b, a < 2 ^ 63 → b < 2 ^ 63 → fm_eu d a b → fm_gcd (d + 1) (lN a) (lN b) = lN (Nat.gcd a b) := by
  intro d
  induction d with
  | zero =>
    intro a b ha hb h
    have h : b = 0 := h
    subst h
    show (if lN 0 = 0 then lN a else _) = _
    rw [if_pos (show lN 0 = (0 : Int64) from rfl), Nat.gcd_zero_right]
  | succ d ih =>
    intro a b ha hb h
    show (if lN b = 0 then lN a else fm_gcd (d + 1) (lN b) (lN a - lN a / lN b * lN b)) = _
    by_cases e : b = 0
    · subst e
      rw [if_pos (show lN 0 = (0 : Int64) from rfl), Nat.gcd_zero_right]
    · rw [if_neg (show ¬ lN b = (0 : Int64) from fun q => e ((lN_inj (b := 0) hb (by decide)).mp q)), lN_mod ha hb]
      have hm : a % b < b := Nat.mod_lt a (by omega)
      have hr : fm_eu d b (a % b) := h.resolve_left e
      rw [ih b (a % b) hb (by omega) hr, Nat.gcd_comm a b, Nat.gcd_rec b a, Nat.gcd_comm]
/-- one side of a fraction in lowest terms -/
theorem fm_low_n {x y line : Nat} (hx : x < 2 ^ 62) (hy : y < 2 ^ 62) (hp : 0 < y) : fm_low (lN x) (lN y) line = lN ((if line = 0 then x else y) / Nat.gcd x y) := by
  have he : fm_eu 199 y x := by
    have h := fm_eu_2 62 y x hx
    have : ∀ e, fm_eu (124 + e) y x := by
      intro e
      induction e with
      | zero => exact h
      | succ e ih => exact fm_eu_up _ _ _ ih
    exact this 75
  have hg : fm_gcd 200 (lN y) (lN x) = lN (Nat.gcd x y) := by
    rw [fm_gcd_n 199 y x (by omega) (by omega) he, Nat.gcd_comm]
  have hgp : 0 < Nat.gcd x y := Nat.gcd_pos_of_pos_right x hp
  have hgl : Nat.gcd x y ≤ y := Nat.gcd_le_right x hp
  unfold fm_low
  rw [hg, if_pos (show (0 : Int64) < lN (Nat.gcd x y) from (lN_lt' (a := 0) (by decide) (by omega)).mpr hgp)]
  split
  · rw [lN_div (by omega) (by omega)]
  · rw [lN_div (by omega) (by omega)]
