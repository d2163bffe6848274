/-! ===== a packed code, read ===== -/
theorem mk_lt {d : Nat → Nat} : ∀ n, (∀ i, i < n → d i < 128) → ma_sum (fun i => d i * 128 ^ i) n < 128 ^ n := by
  intro n
  induction n with
  | zero => intro _; exact Nat.lt_succ_self 0
  | succ n ih =>
    intro h
    have h1 := ih (fun i hi => h i (Nat.lt_succ_of_lt hi))
    have h2 : d n * 128 ^ n ≤ 127 * 128 ^ n := Nat.mul_le_mul_right _ (by have := h n (Nat.lt_succ_self n); omega)
    show ma_sum (fun i => d i * 128 ^ i) n + d n * 128 ^ n < 128 ^ (n + 1)
    rw [Nat.pow_succ]
    omega
theorem mk_dig {d : Nat → Nat} : ∀ n, (∀ i, i < n → d i < 128) → ∀ i, i < n → ma_sum (fun i => d i * 128 ^ i) n / 128 ^ i % 128 = d i := by
  intro n
  induction n with
  | zero => intro _ i hi; exact absurd hi (Nat.not_lt_zero i)
  | succ n ih =>
    intro h i hi
    have h1 := mk_lt n (fun i hi => h i (Nat.lt_succ_of_lt hi))
    show (ma_sum (fun i => d i * 128 ^ i) n + d n * 128 ^ n) / 128 ^ i % 128 = d i
    rcases Nat.lt_or_ge i n with q | q
    · have e : d n * 128 ^ n = 128 ^ i * (d n * 128 ^ (n - i)) := by
        rw [Nat.mul_left_comm, ← Nat.pow_add, show i + (n - i) = n by omega]
      rw [e, Nat.add_mul_div_left _ _ (Nat.pow_pos (by decide)), show n - i = (n - i - 1) + 1 by omega, Nat.pow_succ, ← Nat.mul_assoc, Nat.add_mul_mod_self_right]
      exact ih (fun i hi => h i (Nat.lt_succ_of_lt hi)) i q
    · obtain rfl : i = n := by omega
      rw [Nat.add_mul_div_right _ _ (Nat.pow_pos (by decide)), Nat.div_eq_of_lt h1, Nat.zero_add, Nat.mod_eq_of_lt (h i (Nat.lt_succ_self i))]
theorem mk_pack_d (R : Nat → Nat) (F j : Nat) : mk_pack R F j = ma_sum (fun i => (if 8 * j + i < F then R (8 * j + i) else 0) * 128 ^ i) 8 := by
  refine ma_sum_congr 8 (fun i _ => ?_)
  unfold mk_c
  by_cases q : 8 * j + i < F
  · rw [if_pos q, if_pos q]
  · rw [if_neg q, if_neg q, Nat.zero_mul]
theorem mk_pack_lt {R : Nat → Nat} {F j : Nat} (h : ∀ k, k < F → R k < 128) : mk_pack R F j < 2 ^ 56 := by
  rw [mk_pack_d, show (2 : Nat) ^ 56 = 128 ^ 8 from rfl]
  refine mk_lt 8 (fun i _ => ?_)
  by_cases q : 8 * j + i < F
  · rw [if_pos q]; exact h _ q
  · rw [if_neg q]; decide
theorem mk_pack_dig {R : Nat → Nat} {F k : Nat} (h : ∀ k, k < F → R k < 128) (hk : k < F) : mk_pack R F (k / 8) / 128 ^ (k % 8) % 128 = R k := by
  rw [mk_pack_d, mk_dig 8 (fun i _ => by
    by_cases q : 8 * (k / 8) + i < F
    · rw [if_pos q]; exact h _ q
    · rw [if_neg q]; decide) (k % 8) (Nat.mod_lt _ (by decide)), show 8 * (k / 8) + k % 8 = k by omega, if_pos hk]
