/-! ===== rows over numbers: ints that are nI a ===== -/
theorem nI_mul (a b : Nat) : nI a * nI b = nI (a * b) := (Int32.ofNat_mul a b).symm
theorem nI_sub {a b : Nat} (h : b ≤ a) : nI a - nI b = nI (a - b) := by
  have h1 : nI (a - b) + nI b = nI a := by rw [nI_add]; congr 1; omega
  rw [← h1]
  exact Int32.add_sub_cancel _ _
theorem nI_dec (a : Nat) : nI (a + 1) + Int32.ofInt (-1) = nI a := by
  have h : Int32.ofInt (-1) = -1 := by decide
  rw [h, ← Int32.sub_eq_add_neg]
  exact nI_pred a
section FMN
variable {sh : List fm_S} {X : fm_X} {cc : ByteArray} {nL : Nat} {own : String} {ret : Option FieldType} {pc : Nat} {lv : List (Option Value)} {st : List Value} {M : fm_M} {Q : State → Prop}
theorem fr_ret1 {v : Value} (k : fm_W sh X nL pc lv (v :: st) M Q) : fm_W sh X nL pc lv ((some v).toList ++ st) M Q := k
theorem fr_ret0 (k : fm_W sh X nL pc lv st M Q) : fm_W sh X nL pc lv ((none : Option Value).toList ++ st) M Q := k
theorem fr_iaddN (hB : fm_B sh X cc nL own ret) {a b : Nat} (hd : decode cc pc = .ok (.iadd, 1)) (k : fm_W sh X nL (pc + 1) lv (.int (nI (a + b)) :: st) M Q) : fm_W sh X nL pc lv (.int (nI b) :: .int (nI a) :: st) M Q := fr_iadd hB hd (by rw [nI_add]; exact k)
theorem fr_isubN (hB : fm_B sh X cc nL own ret) {a b : Nat} (hd : decode cc pc = .ok (.isub, 1)) (h : b ≤ a) (k : fm_W sh X nL (pc + 1) lv (.int (nI (a - b)) :: st) M Q) : fm_W sh X nL pc lv (.int (nI b) :: .int (nI a) :: st) M Q := fr_isub hB hd (by rw [nI_sub h]; exact k)
theorem fr_imulN (hB : fm_B sh X cc nL own ret) {a b : Nat} (hd : decode cc pc = .ok (.imul, 1)) (k : fm_W sh X nL (pc + 1) lv (.int (nI (a * b)) :: st) M Q) : fm_W sh X nL pc lv (.int (nI b) :: .int (nI a) :: st) M Q := fr_imul hB hd (by rw [nI_mul]; exact k)
theorem fr_iincN (hB : fm_B sh X cc nL own ret) {i a b : Nat} {n : Int} (hd : decode cc pc = .ok (.iinc i n, 3)) (hx : lv[i]? = some (some (.int (nI a)))) (hv : Int32.ofInt n = nI b) (hn : i < nL) (hk : fm_ok lv i = true) (k : fm_W sh X nL (pc + 3) (lv.set i (some (.int (nI (a + b))))) st M Q) : fm_W sh X nL pc lv st M Q := fr_iinc hB hd hx (by rw [hv, nI_add]) hn hk k
theorem fr_iincP (hB : fm_B sh X cc nL own ret) {i a : Nat} (hd : decode cc pc = .ok (.iinc i (-1), 3)) (hx : lv[i]? = some (some (.int (nI (a + 1))))) (hn : i < nL) (hk : fm_ok lv i = true) (k : fm_W sh X nL (pc + 3) (lv.set i (some (.int (nI a)))) st M Q) : fm_W sh X nL pc lv st M Q := fr_iinc hB hd hx (nI_dec a) hn hk k
theorem nI_eqI {a b : Nat} (ha : a < 2 ^ 31) (hb : b < 2 ^ 31) : nI a = nI b ↔ a = b := nI_eq ha hb
theorem nI_zle {a : Nat} (ha : a < 2 ^ 31) : ¬ nI a < 0 := nI_pos ha
theorem fr_icmp_ltN (hB : fm_B sh X cc nL own ret) {a b : Nat} {off : Int} {tgt : Nat} (hd : decode cc pc = .ok (.if_icmp .lt off, 3)) (ht : (pc : Int) + off = (tgt : Int)) (ha : a < 2 ^ 31) (hb : b < 2 ^ 31) (kt : a < b → fm_W sh X nL tgt lv st M Q) (kf : b ≤ a → fm_W sh X nL (pc + 3) lv st M Q) : fm_W sh X nL pc lv (.int (nI b) :: .int (nI a) :: st) M Q := fr_icmp_lt hB hd ht (fun h => kt ((nI_ltI ha hb).mp h)) (fun h => kf (Nat.not_lt.mp fun q => h ((nI_ltI ha hb).mpr q)))
theorem fr_icmp_geN (hB : fm_B sh X cc nL own ret) {a b : Nat} {off : Int} {tgt : Nat} (hd : decode cc pc = .ok (.if_icmp .ge off, 3)) (ht : (pc : Int) + off = (tgt : Int)) (ha : a < 2 ^ 31) (hb : b < 2 ^ 31) (kt : b ≤ a → fm_W sh X nL tgt lv st M Q) (kf : a < b → fm_W sh X nL (pc + 3) lv st M Q) : fm_W sh X nL pc lv (.int (nI b) :: .int (nI a) :: st) M Q := fr_icmp_ge hB hd ht (fun h => kt ((nI_leI hb ha).mp h)) (fun h => kf (Nat.not_le.mp fun q => h ((nI_leI hb ha).mpr q)))
theorem fr_icmp_gtN (hB : fm_B sh X cc nL own ret) {a b : Nat} {off : Int} {tgt : Nat} (hd : decode cc pc = .ok (.if_icmp .gt off, 3)) (ht : (pc : Int) + off = (tgt : Int)) (ha : a < 2 ^ 31) (hb : b < 2 ^ 31) (kt : b < a → fm_W sh X nL tgt lv st M Q) (kf : a ≤ b → fm_W sh X nL (pc + 3) lv st M Q) : fm_W sh X nL pc lv (.int (nI b) :: .int (nI a) :: st) M Q := fr_icmp_gt hB hd ht (fun h => kt ((nI_ltI hb ha).mp h)) (fun h => kf (Nat.not_lt.mp fun q => h ((nI_ltI hb ha).mpr q)))
theorem fr_icmp_leN (hB : fm_B sh X cc nL own ret) {a b : Nat} {off : Int} {tgt : Nat} (hd : decode cc pc = .ok (.if_icmp .le off, 3)) (ht : (pc : Int) + off = (tgt : Int)) (ha : a < 2 ^ 31) (hb : b < 2 ^ 31) (kt : a ≤ b → fm_W sh X nL tgt lv st M Q) (kf : b < a → fm_W sh X nL (pc + 3) lv st M Q) : fm_W sh X nL pc lv (.int (nI b) :: .int (nI a) :: st) M Q := fr_icmp_le hB hd ht (fun h => kt ((nI_leI ha hb).mp h)) (fun h => kf (Nat.not_le.mp fun q => h ((nI_leI ha hb).mpr q)))
theorem fr_icmp_eqN (hB : fm_B sh X cc nL own ret) {a b : Nat} {off : Int} {tgt : Nat} (hd : decode cc pc = .ok (.if_icmp .eq off, 3)) (ht : (pc : Int) + off = (tgt : Int)) (ha : a < 2 ^ 31) (hb : b < 2 ^ 31) (kt : a = b → fm_W sh X nL tgt lv st M Q) (kf : ¬ a = b → fm_W sh X nL (pc + 3) lv st M Q) : fm_W sh X nL pc lv (.int (nI b) :: .int (nI a) :: st) M Q := fr_icmp_eq hB hd ht (fun h => kt ((nI_eq ha hb).mp h)) (fun h => kf (fun q => h ((nI_eq ha hb).mpr q)))
theorem fr_icmp_neN (hB : fm_B sh X cc nL own ret) {a b : Nat} {off : Int} {tgt : Nat} (hd : decode cc pc = .ok (.if_icmp .ne off, 3)) (ht : (pc : Int) + off = (tgt : Int)) (ha : a < 2 ^ 31) (hb : b < 2 ^ 31) (kt : ¬ a = b → fm_W sh X nL tgt lv st M Q) (kf : a = b → fm_W sh X nL (pc + 3) lv st M Q) : fm_W sh X nL pc lv (.int (nI b) :: .int (nI a) :: st) M Q := fr_icmp_ne hB hd ht (fun h => kt (fun q => h ((nI_eq ha hb).mpr q))) (fun h => kf ((nI_eq ha hb).mp (Decidable.not_not.mp h)))
theorem fr_if_eqN (hB : fm_B sh X cc nL own ret) {a : Nat} {off : Int} {tgt : Nat} (hd : decode cc pc = .ok (.ifCond .eq off, 3)) (ht : (pc : Int) + off = (tgt : Int)) (ha : a < 2 ^ 31) (kt : a = 0 → fm_W sh X nL tgt lv st M Q) (kf : 0 < a → fm_W sh X nL (pc + 3) lv st M Q) : fm_W sh X nL pc lv (.int (nI a) :: st) M Q := fr_if_eq hB hd ht (fun h => kt ((nI_eq ha (by decide)).mp (h.trans nI_0.symm))) (fun h => kf (Nat.pos_of_ne_zero fun q => h (by rw [q]; exact nI_0)))
theorem fr_if_neN (hB : fm_B sh X cc nL own ret) {a : Nat} {off : Int} {tgt : Nat} (hd : decode cc pc = .ok (.ifCond .ne off, 3)) (ht : (pc : Int) + off = (tgt : Int)) (ha : a < 2 ^ 31) (kt : 0 < a → fm_W sh X nL tgt lv st M Q) (kf : a = 0 → fm_W sh X nL (pc + 3) lv st M Q) : fm_W sh X nL pc lv (.int (nI a) :: st) M Q := fr_if_ne hB hd ht (fun h => kt (Nat.pos_of_ne_zero fun q => h (by rw [q]; exact nI_0))) (fun h => kf ((nI_eq ha (by decide)).mp ((Decidable.not_not.mp h).trans nI_0.symm)))
theorem fr_if_ltN (hB : fm_B sh X cc nL own ret) {a : Nat} {off : Int} {tgt : Nat} (hd : decode cc pc = .ok (.ifCond .lt off, 3)) (ht : (pc : Int) + off = (tgt : Int)) (ha : a < 2 ^ 31) (kf : fm_W sh X nL (pc + 3) lv st M Q) : fm_W sh X nL pc lv (.int (nI a) :: st) M Q := fr_if_lt hB hd ht (fun h => absurd h (nI_pos ha)) (fun _ => kf)
theorem fr_if_geN (hB : fm_B sh X cc nL own ret) {a : Nat} {off : Int} {tgt : Nat} (hd : decode cc pc = .ok (.ifCond .ge off, 3)) (ht : (pc : Int) + off = (tgt : Int)) (ha : a < 2 ^ 31) (kt : fm_W sh X nL tgt lv st M Q) : fm_W sh X nL pc lv (.int (nI a) :: st) M Q := fr_if_ge hB hd ht (fun _ => kt) (fun h => absurd (nI_pos' ha) h)
theorem fr_if_gtN (hB : fm_B sh X cc nL own ret) {a : Nat} {off : Int} {tgt : Nat} (hd : decode cc pc = .ok (.ifCond .gt off, 3)) (ht : (pc : Int) + off = (tgt : Int)) (ha : a < 2 ^ 31) (kt : 0 < a → fm_W sh X nL tgt lv st M Q) (kf : a = 0 → fm_W sh X nL (pc + 3) lv st M Q) : fm_W sh X nL pc lv (.int (nI a) :: st) M Q := fr_if_gt hB hd ht (fun h => kt (by rw [← nI_0] at h; exact (nI_ltI (by decide) ha).mp h)) (fun h => kf (by
  rcases Nat.eq_zero_or_pos a with q | q
  · exact q
  · exact absurd (by rw [← nI_0]; exact nI_lt q ha) h))
theorem fr_if_leN (hB : fm_B sh X cc nL own ret) {a : Nat} {off : Int} {tgt : Nat} (hd : decode cc pc = .ok (.ifCond .le off, 3)) (ht : (pc : Int) + off = (tgt : Int)) (ha : a < 2 ^ 31) (kt : a = 0 → fm_W sh X nL tgt lv st M Q) (kf : 0 < a → fm_W sh X nL (pc + 3) lv st M Q) : fm_W sh X nL pc lv (.int (nI a) :: st) M Q := fr_if_le hB hd ht (fun h => kt (by
  rcases Nat.eq_zero_or_pos a with q | q
  · exact q
  · exact absurd h (nI_nle q ha))) (fun h => kf (by
  rcases Nat.eq_zero_or_pos a with q | q
  · exact absurd (by rw [q, nI_0]; exact Int32.le_refl 0) h
  · exact q))
end FMN
