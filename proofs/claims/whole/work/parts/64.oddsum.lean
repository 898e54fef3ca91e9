/-! ===== odds as sums of natural numbers ===== -/
theorem fm_sum_add (f g : Nat → Nat) : ∀ n, fm_sum (fun i => f i + g i) n = fm_sum f n + fm_sum g n := by
  intro n
  induction n with
  | zero => rfl
  | succ n ih => unfold fm_sum; rw [ih]; omega
theorem fm_sum_mul (c : Nat) (f : Nat → Nat) : ∀ n, fm_sum (fun i => c * f i) n = c * fm_sum f n := by
  intro n
  induction n with
  | zero => rfl
  | succ n ih => unfold fm_sum; rw [ih, Nat.mul_add]
theorem fm_sum_app (f : Nat → Nat) (m : Nat) : ∀ n, fm_sum f (m + n) = fm_sum f m + fm_sum (fun i => f (m + i)) n := by
  intro n
  induction n with
  | zero => rfl
  | succ n ih =>
    have e1 : fm_sum f (m + (n + 1)) = fm_sum f (m + n) + f (m + n) := rfl
    have e2 : fm_sum (fun i => f (m + i)) (n + 1) = fm_sum (fun i => f (m + i)) n + f (m + n) := rfl
    omega
theorem fm_sum_0 {f : Nat → Nat} : ∀ n, (∀ i, i < n → f i = 0) → fm_sum f n = 0 := by
  intro n
  induction n with
  | zero => intro _; rfl
  | succ n ih =>
    intro h
    unfold fm_sum
    rw [ih (fun i hi => h i (by omega)), h n (by omega)]
theorem fm_sum_swap (f : Nat → Nat → Nat) (m : Nat) : ∀ n, fm_sum (fun i => fm_sum (f i) m) n = fm_sum (fun j => fm_sum (fun i => f i j) n) m := by
  intro n
  induction n with
  | zero => exact (fm_sum_0 m (fun _ _ => rfl)).symm
  | succ n ih =>
    have e1 : fm_sum (fun i => fm_sum (f i) m) (n + 1) = fm_sum (fun i => fm_sum (f i) m) n + fm_sum (f n) m := rfl
    rw [e1, ih, ← fm_sum_add]
    rfl
theorem fm_sum_mono {f g : Nat → Nat} : ∀ n, (∀ i, i < n → f i ≤ g i) → fm_sum f n ≤ fm_sum g n := by
  intro n
  induction n with
  | zero => intro _; exact Nat.le_refl _
  | succ n ih =>
    intro h
    unfold fm_sum
    have h1 := ih (fun i hi => h i (by omega))
    have h2 := h n (by omega)
    omega
theorem fm_sum_up (f g : Nat → Nat) (k v : Nat) : ∀ n, k < n → fm_sum (fun i => fm_up f k v i * g i) n + f k * g k = fm_sum (fun i => f i * g i) n + v * g k := by
  intro n
  induction n with
  | zero => intro h; omega
  | succ n ih =>
    intro h
    have e1 : fm_sum (fun i => fm_up f k v i * g i) (n + 1) = fm_sum (fun i => fm_up f k v i * g i) n + fm_up f k v n * g n := rfl
    have e2 : fm_sum (fun i => f i * g i) (n + 1) = fm_sum (fun i => f i * g i) n + f n * g n := rfl
    by_cases e : k = n
    · subst e
      have e3 : fm_sum (fun i => fm_up f k v i * g i) k = fm_sum (fun i => f i * g i) k := fm_sum_congr k (fun i hi => by
        show fm_up f k v i * g i = _
        unfold fm_up
        rw [if_neg (by omega)])
      have e4 : fm_up f k v k = v := by unfold fm_up; rw [if_pos rfl]
      rw [e1, e2, e3, e4]
      omega
    · have e4 : fm_up f k v n = f n := by unfold fm_up; rw [if_neg (by omega)]
      rw [e1, e2, e4]
      have := ih (by omega)
      omega
/-- what a set tells, one source more being there -/
def fm_oA (b o : Nat) (φ : Nat → Nat) : Nat → Nat := fun s => (100 - o) * φ s + o * φ (s ||| b)
theorem fm_spr_sum {b o N : Nat} (ho : o ≤ 100) (hb : ∀ s, s < N → s ||| b < N) : ∀ (n : Nat) (L : Nat → Int64) (l : Nat → Nat), n ≤ N → (∀ j, j < N → L j = lN (l j)) → ∃ l' : Nat → Nat, (∀ j, j < N → fm_spr b (lN o) N n L j = lN (l' j)) ∧ ∀ φ : Nat → Nat, fm_sum (fun s => l' s * φ s) N = fm_sum (fun s => l s * (if s < n then fm_oA b o φ s else φ s)) N := by
  intro n
  induction n with
  | zero =>
    intro L l _ h
    refine ⟨l, h, fun φ => fm_sum_congr N (fun i _ => ?_)⟩
    show l i * φ i = l i * (if i < 0 then _ else φ i)
    rw [if_neg (Nat.not_lt_zero i)]
  | succ n ih =>
    intro L l hn h
    have hnb := hb n (by omega)
    have hge : n ≤ n ||| b := Nat.left_le_or
    have eL : L n * 100 - L n * lN o = lN (l n * (100 - o)) := by
      rw [h n (by omega), show (100 : Int64) = lN 100 from rfl, lN_mul, lN_mul, lN_sub (Nat.mul_le_mul_left _ ho), Nat.mul_sub]
    have eM : L n * lN o = lN (l n * o) := by rw [h n (by omega), lN_mul]
    have e1 : ∀ j, j < N → fm_up L n (L n * 100 - L n * lN o) j = lN (fm_up l n (l n * (100 - o)) j) := by
      intro j hj
      unfold fm_up
      by_cases e : j = n
      · rw [if_pos e, if_pos e, eL]
      · rw [if_neg e, if_neg e, h j hj]
    have e2 : ∀ j, j < N → fm_sp1 b (lN o) N L n j = lN (fm_up (fm_up l n (l n * (100 - o))) (n ||| b) (fm_up l n (l n * (100 - o)) (n ||| b) + l n * o) j) := by
      intro j hj
      unfold fm_sp1
      rw [if_pos hnb]
      show (if j = n ||| b then fm_up L n (L n * 100 - L n * lN o) (n ||| b) + L n * lN o else fm_up L n (L n * 100 - L n * lN o) j) = lN (if j = n ||| b then fm_up l n (l n * (100 - o)) (n ||| b) + l n * o else fm_up l n (l n * (100 - o)) j)
      by_cases e : j = n ||| b
      · rw [if_pos e, if_pos e, e1 _ hnb, eM, lN_add]
      · rw [if_neg e, if_neg e, e1 j hj]
    obtain ⟨l', q1, q2⟩ := ih (fm_sp1 b (lN o) N L n) _ (by omega) e2
    refine ⟨l', fun j hj => q1 j hj, fun φ => ?_⟩
    rw [q2 φ]
    have s2 := fm_sum_up (fm_up l n (l n * (100 - o))) (fun s => if s < n then fm_oA b o φ s else φ s) (n ||| b) (fm_up l n (l n * (100 - o)) (n ||| b) + l n * o) N hnb
    have s1 := fm_sum_up l (fun s => if s < n then fm_oA b o φ s else φ s) n (l n * (100 - o)) N (by omega)
    have s3 := fm_sum_up (fun s => if s < n then fm_oA b o φ s else φ s) l n (fm_oA b o φ n) N (by omega)
    have w1 : (if n < n then fm_oA b o φ n else φ n) = φ n := if_neg (by omega)
    have w2 : (if n ||| b < n then fm_oA b o φ (n ||| b) else φ (n ||| b)) = φ (n ||| b) := if_neg (by omega)
    have s3a : fm_sum (fun i => fm_up (fun s => if s < n then fm_oA b o φ s else φ s) n (fm_oA b o φ n) i * l i) N = fm_sum (fun s => l s * (if s < n + 1 then fm_oA b o φ s else φ s)) N := fm_sum_congr N (fun i _ => by
      show fm_up (fun s => if s < n then fm_oA b o φ s else φ s) n (fm_oA b o φ n) i * l i = l i * _
      rw [Nat.mul_comm]
      congr 1
      unfold fm_up
      by_cases e : i = n
      · rw [if_pos e, if_pos (by omega), e]
      · rw [if_neg e]
        show (if i < n then fm_oA b o φ i else φ i) = _
        by_cases e2 : i < n
        · rw [if_pos e2, if_pos (by omega)]
        · rw [if_neg e2, if_neg (by omega)])
    have s3b : fm_sum (fun i => (if i < n then fm_oA b o φ i else φ i) * l i) N = fm_sum (fun i => l i * (if i < n then fm_oA b o φ i else φ i)) N := fm_sum_congr N (fun i _ => Nat.mul_comm _ _)
    simp only [w1, w2] at s1 s2 s3
    rw [s3a, s3b] at s3
    have a1 : fm_oA b o φ n * l n = l n * (100 - o) * φ n + l n * o * φ (n ||| b) := by
      show ((100 - o) * φ n + o * φ (n ||| b)) * l n = _
      rw [Nat.add_mul, Nat.mul_comm _ (l n), Nat.mul_comm _ (l n), Nat.mul_assoc, Nat.mul_assoc]
    rw [Nat.add_mul] at s2
    rw [a1] at s3
    have c1 : φ n * l n = l n * φ n := Nat.mul_comm _ _
    omega
theorem fm_spr_A {b o N : Nat} (ho : o ≤ 100) (hb : ∀ s, s < N → s ||| b < N) {L : Nat → Int64} {l : Nat → Nat} (h : ∀ j, j < N → L j = lN (l j)) : ∃ l' : Nat → Nat, (∀ j, j < N → fm_spr b (lN o) N N L j = lN (l' j)) ∧ ∀ φ : Nat → Nat, fm_sum (fun s => l' s * φ s) N = fm_sum (fun s => l s * fm_oA b o φ s) N := by
  obtain ⟨l', h1, h2⟩ := fm_spr_sum ho hb N L l (Nat.le_refl _) h
  refine ⟨l', h1, fun φ => ?_⟩
  rw [h2 φ]
  refine fm_sum_congr N (fun i hi => ?_)
  show l i * (if i < N then _ else _) = _
  rw [if_pos hi]
/-- all sources of a row, the last one nearest -/
def fm_Bs (b o : Nat → Nat) : Nat → (Nat → Nat) → Nat → Nat
  | 0, φ => φ
  | n + 1, φ => fm_Bs b o n (fm_oA (b n) (o n) φ)
theorem fm_qq_B {b o : Nat → Nat} {N : Nat} : ∀ (n : Nat) (L : Nat → Int64) (l : Nat → Nat), (∀ i, i < n → o i ≤ 100 ∧ ∀ s, s < N → s ||| b i < N) → (∀ j, j < N → L j = lN (l j)) → ∃ l' : Nat → Nat, (∀ j, j < N → fm_qq b o N n L j = lN (l' j)) ∧ ∀ φ : Nat → Nat, fm_sum (fun s => l' s * φ s) N = fm_sum (fun s => l s * fm_Bs b o n φ s) N := by
  intro n
  induction n with
  | zero => intro L l _ h; exact ⟨l, h, fun φ => rfl⟩
  | succ n ih =>
    intro L l hq h
    obtain ⟨l1, a1, a2⟩ := ih L l (fun i hi => hq i (by omega)) h
    obtain ⟨l2, b1, b2⟩ := fm_spr_A (hq n (by omega)).1 (hq n (by omega)).2 a1
    exact ⟨l2, b1, fun φ => by rw [b2 φ, a2]; rfl⟩
theorem fm_pp_qq (o : Nat → Nat) (N : Nat) (L : Nat → Int64) : ∀ n, fm_pp o N n L = fm_qq (fun i => 2 ^ i) o N n L := by
  intro n
  induction n with
  | zero => rfl
  | succ n ih => unfold fm_pp fm_qq; rw [ih]
/-- the odds that just the sources of s are so -/
def fm_pr (o : Nat → Nat) : Nat → Nat → Nat
  | 0, _ => 1
  | n + 1, s => fm_pr o n s * (if s.testBit n then o n else 100 - o n)
/-- what the sources of s break -/
def fm_br (b : Nat → Nat) : Nat → Nat → Nat
  | 0, _ => 0
  | n + 1, s => if s.testBit n then fm_br b n s ||| b n else fm_br b n s
theorem fm_pr_hi (o : Nat → Nat) (k : Nat) (s : Nat) : ∀ n, n ≤ k → fm_pr o n (2 ^ k + s) = fm_pr o n s := by
  intro n
  induction n with
  | zero => intro _; rfl
  | succ n ih =>
    intro h
    unfold fm_pr
    rw [ih (by omega), Nat.testBit_two_pow_add_gt (show n < k by omega)]
theorem fm_br_hi (b : Nat → Nat) (k : Nat) (s : Nat) : ∀ n, n ≤ k → fm_br b n (2 ^ k + s) = fm_br b n s := by
  intro n
  induction n with
  | zero => intro _; rfl
  | succ n ih =>
    intro h
    unfold fm_br
    rw [ih (by omega), Nat.testBit_two_pow_add_gt (show n < k by omega)]
theorem fm_Bs_sum (b o : Nat → Nat) : ∀ (n : Nat) (φ : Nat → Nat) (x : Nat), fm_Bs b o n φ x = fm_sum (fun y => fm_pr o n y * φ (x ||| fm_br b n y)) (2 ^ n) := by
  intro n
  induction n with
  | zero =>
    intro φ x
    show φ x = 0 + 1 * φ (x ||| 0)
    rw [Nat.or_zero]; omega
  | succ n ih =>
    intro φ x
    have e0 : fm_Bs b o (n + 1) φ x = fm_Bs b o n (fm_oA (b n) (o n) φ) x := rfl
    rw [e0, ih, show 2 ^ (n + 1) = 2 ^ n + 2 ^ n by rw [Nat.pow_succ]; omega, fm_sum_app, ← fm_sum_add]
    refine fm_sum_congr _ (fun i hi => ?_)
    have t1 : i.testBit n = false := Nat.testBit_lt_two_pow hi
    have t2 : (2 ^ n + i).testBit n = true := by rw [Nat.testBit_two_pow_add_eq, t1]; rfl
    have u1 : fm_pr o (n + 1) i = fm_pr o n i * (100 - o n) := by show fm_pr o n i * (if i.testBit n = true then o n else 100 - o n) = _; rw [t1]; rfl
    have u2 : fm_pr o (n + 1) (2 ^ n + i) = fm_pr o n i * o n := by show fm_pr o n (2 ^ n + i) * (if (2 ^ n + i).testBit n = true then o n else 100 - o n) = _; rw [t2, fm_pr_hi o n i n (Nat.le_refl _)]; rfl
    have u3 : fm_br b (n + 1) i = fm_br b n i := by show (if i.testBit n = true then fm_br b n i ||| b n else fm_br b n i) = _; rw [t1]; rfl
    have u4 : fm_br b (n + 1) (2 ^ n + i) = fm_br b n i ||| b n := by show (if (2 ^ n + i).testBit n = true then fm_br b n (2 ^ n + i) ||| b n else fm_br b n (2 ^ n + i)) = _; rw [t2, fm_br_hi b n i n (Nat.le_refl _)]; rfl
    show fm_pr o n i * fm_oA (b n) (o n) φ (x ||| fm_br b n i) = fm_pr o (n + 1) i * φ (x ||| fm_br b (n + 1) i) + fm_pr o (n + 1) (2 ^ n + i) * φ (x ||| fm_br b (n + 1) (2 ^ n + i))
    rw [u1, u2, u3, u4]
    show fm_pr o n i * ((100 - o n) * φ (x ||| fm_br b n i) + o n * φ (x ||| fm_br b n i ||| b n)) = _
    rw [Nat.mul_add, ← Nat.mul_assoc, ← Nat.mul_assoc, Nat.or_assoc]
theorem fm_br_two (n : Nat) : ∀ y, y < 2 ^ n → fm_br (fun i => 2 ^ i) n y = y := by
  induction n with
  | zero => intro y hy; have : y = 0 := by simpa using hy
            rw [this]; rfl
  | succ n ih =>
    intro y hy
    rw [Nat.pow_succ] at hy
    rcases Nat.lt_or_ge y (2 ^ n) with h | h
    · have t1 : y.testBit n = false := Nat.testBit_lt_two_pow h
      unfold fm_br
      rw [t1]
      exact ih y h
    · obtain ⟨z, rfl⟩ : ∃ z, y = 2 ^ n + z := ⟨y - 2 ^ n, by omega⟩
      have hz : z < 2 ^ n := by omega
      have t1 : z.testBit n = false := Nat.testBit_lt_two_pow hz
      have t2 : (2 ^ n + z).testBit n = true := by rw [Nat.testBit_two_pow_add_eq, t1]; rfl
      unfold fm_br
      have e := Nat.two_pow_add_eq_or_of_lt hz 1
      rw [Nat.mul_one] at e
      rw [t2, fm_br_hi _ n z n (Nat.le_refl _), ih z hz, if_pos rfl, Nat.or_comm, e]
theorem fm_br_lt {b : Nat → Nat} {k : Nat} : ∀ n, (∀ i, i < n → b i < 2 ^ k) → ∀ y, fm_br b n y < 2 ^ k := by
  intro n
  induction n with
  | zero => intro _ y; exact Nat.two_pow_pos k
  | succ n ih =>
    intro h y
    unfold fm_br
    split
    · exact Nat.or_lt_two_pow (ih (fun i hi => h i (by omega)) y) (h n (by omega))
    · exact ih (fun i hi => h i (by omega)) y
theorem fm_pr_le {o : Nat → Nat} : ∀ n, (∀ i, i < n → o i ≤ 100) → ∀ y, fm_pr o n y ≤ 100 ^ n := by
  intro n
  induction n with
  | zero => intro _ y; exact Nat.le_refl 1
  | succ n ih =>
    intro h y
    unfold fm_pr
    rw [Nat.pow_succ]
    refine Nat.mul_le_mul (ih (fun i hi => h i (by omega)) y) ?_
    have := h n (by omega)
    split <;> omega
/-- how likely, out of a hundred to the number of sources: the class's way is the sum over causes and sets -/
def fm_ch (o1 o2 b : Nat → Nat) (p c : Nat) (φ : Nat → Nat) : Nat := fm_sum (fun y => fm_sum (fun s => fm_pr o2 c y * fm_pr o1 p s * φ (s ||| fm_br b c y)) (2 ^ p)) (2 ^ c)
theorem fm_ch_B (o1 o2 b : Nat → Nat) (p c : Nat) (φ : Nat → Nat) : fm_ch o1 o2 b p c φ = fm_Bs (fun i => 2 ^ i) o1 p (fm_Bs b o2 c φ) 0 := by
  rw [fm_Bs_sum]
  unfold fm_ch
  rw [fm_sum_swap]
  refine fm_sum_congr _ (fun s hs => ?_)
  show fm_sum (fun y => fm_pr o2 c y * fm_pr o1 p s * φ (s ||| fm_br b c y)) (2 ^ c) = fm_pr o1 p s * fm_Bs b o2 c φ (0 ||| fm_br (fun i => 2 ^ i) p s)
  rw [fm_br_two p s hs, Nat.zero_or, fm_Bs_sum, ← fm_sum_mul]
  refine fm_sum_congr _ (fun y _ => ?_)
  show fm_pr o2 c y * fm_pr o1 p s * φ (s ||| fm_br b c y) = fm_pr o1 p s * (fm_pr o2 c y * φ (s ||| fm_br b c y))
  rw [← Nat.mul_assoc, Nat.mul_comm (fm_pr o1 p s)]
theorem fm_so_sum {T : Int64} {L : Nat → Int64} {l φ : Nat → Nat} : ∀ n, (∀ j, j < n → L j = lN (l j) ∧ φ j = if fm_bit T j then 1 else 0) → fm_so T L n = lN (fm_sum (fun s => l s * φ s) n) := by
  intro n
  induction n with
  | zero => intro _; rfl
  | succ n ih =>
    intro h
    have h1 := ih (fun j hj => h j (by omega))
    obtain ⟨h2, h3⟩ := h n (by omega)
    unfold fm_so fm_sum
    rw [h1]
    show _ = lN (_ + l n * φ n)
    rw [h3]
    cases fm_bit T n with
    | false => simp
    | true => simp [h2, lN_add]
theorem fm_ab_ch {P : fm_P} (hw : fm_wf P) {T : Int64} {so : Int32} {oo : Nat} (hoo : oo ≤ 100) {φ : Nat → Nat} (hφ : ∀ j, j < 64 → φ j = if fm_bit T j then 1 else 0) : fm_ab P T so oo = lN (fm_ch (fm_o1 P so oo) (fm_o2 P so oo) (P 11) (P 0 0) (P 9 0) φ) := by
  have h2c := fm_2c hw.p6
  have q1 : ∀ i, fm_o1 P so oo i ≤ 100 := fun i => by
    unfold fm_o1; split
    · exact hoo
    · exact hw.o100 i
  have q2 : ∀ i, fm_o2 P so oo i ≤ 100 := fun i => by
    unfold fm_o2; split
    · exact hoo
    · exact hw.co i
  have h0 : ∀ j, j < 2 ^ P 0 0 → fm_ini (2 ^ P 0 0) (fun _ => 0) j = lN (if j = 0 then 1 else 0) := fun j hj => by
    unfold fm_ini
    by_cases e : j = 0
    · rw [if_pos e, if_pos e]; rfl
    · rw [if_neg e, if_neg e, if_pos hj]; rfl
  obtain ⟨l1, a1, a2⟩ := fm_qq_B (b := fun i => 2 ^ i) (o := fm_o1 P so oo) (N := 2 ^ P 0 0) (P 0 0) (fm_ini (2 ^ P 0 0) (fun _ => 0)) (fun j => if j = 0 then 1 else 0) (fun i hi => ⟨q1 i, fun s hs => Nat.or_lt_two_pow hs (Nat.pow_lt_pow_right (by omega) hi)⟩) h0
  obtain ⟨l2, b1, b2⟩ := fm_qq_B (b := P 11) (o := fm_o2 P so oo) (N := 2 ^ P 0 0) (P 9 0) (fm_qq (fun i => 2 ^ i) (fm_o1 P so oo) (2 ^ P 0 0) (P 0 0) (fm_ini (2 ^ P 0 0) (fun _ => 0))) l1 (fun i hi => ⟨q2 i, fun s hs => Nat.or_lt_two_pow hs (hw.cb i hi)⟩) a1
  have e : fm_ab P T so oo = fm_so T (fm_qq (P 11) (fm_o2 P so oo) (2 ^ P 0 0) (P 9 0) (fm_qq (fun i => 2 ^ i) (fm_o1 P so oo) (2 ^ P 0 0) (P 0 0) (fm_ini (2 ^ P 0 0) (fun _ => 0)))) (2 ^ P 0 0) := by
    unfold fm_ab fm_abv fm_lk
    rw [fm_pp_qq]
  rw [e, fm_so_sum (l := l2) (φ := φ) _ (fun j hj => ⟨b1 j hj, hφ j (by omega)⟩), b2 φ, a2, fm_ch_B]
  congr 1
  have : ∀ (n : Nat) (f : Nat → Nat), 0 < n → fm_sum (fun s => (if s = 0 then 1 else 0) * f s) n = f 0 := by
    intro n f
    induction n with
    | zero => intro h; omega
    | succ n ih =>
      intro _
      unfold fm_sum
      by_cases e : n = 0
      · subst e
        simp [fm_sum]
      · rw [ih (by omega), if_neg e]; omega
  exact this _ _ (by omega)
