/-! ===== the free line's codes, packed ===== -/
theorem ma_sum_add {f g : Nat → Nat} : ∀ n, ma_sum (fun i => f i + g i) n = ma_sum f n + ma_sum g n := by
  intro n
  induction n with
  | zero => rfl
  | succ n ih =>
    show ma_sum (fun i => f i + g i) n + (f n + g n) = ma_sum f n + f n + (ma_sum g n + g n)
    rw [ih]
    omega
theorem ma_sum_one {g : Nat → Nat} {r : Nat} : ∀ n, ma_sum (fun i => if i = r then g i else 0) n = if r < n then g r else 0 := by
  intro n
  induction n with
  | zero => rfl
  | succ n ih =>
    show ma_sum (fun i => if i = r then g i else 0) n + (if n = r then g n else 0) = _
    rw [ih]
    rcases Nat.lt_trichotomy r n with q | q | q
    · rw [if_pos q, if_neg (by omega), if_pos (by omega)]
      rfl
    · rw [if_neg (by omega), if_pos q.symm, if_pos (by omega), q, Nat.zero_add]
    · rw [if_neg (by omega), if_neg (by omega), if_neg (by omega)]
theorem mk_pack_step (t : Nat → Nat) (k j : Nat) : mk_pack t (k + 1) j = mk_pack t k j + (if j = k / 8 then t k * 128 ^ (k % 8) else 0) := by
  have e : ∀ i, i < 8 → mk_c t (k + 1) j i = mk_c t k j i + (if i = k - 8 * j then (if j = k / 8 then t k * 128 ^ i else 0) else 0) := by
    intro i hi
    unfold mk_c
    rcases Nat.lt_trichotomy (8 * j + i) k with q | q | q
    · rw [if_pos (show 8 * j + i < k + 1 by omega), if_pos q, if_neg (show ¬ i = k - 8 * j by omega), Nat.add_zero]
    · rw [if_pos (show 8 * j + i < k + 1 by omega), if_neg (show ¬ 8 * j + i < k by omega), if_pos (show i = k - 8 * j by omega), if_pos (show j = k / 8 by omega), q, Nat.zero_add]
    · rw [if_neg (show ¬ 8 * j + i < k + 1 by omega), if_neg (show ¬ 8 * j + i < k by omega), Nat.zero_add]
      by_cases z : i = k - 8 * j
      · rw [if_pos z, if_neg (show ¬ j = k / 8 by omega)]
      · rw [if_neg z]
  show ma_sum (mk_c t (k + 1) j) 8 = ma_sum (mk_c t k j) 8 + _
  rw [ma_sum_congr 8 e, ma_sum_add, ma_sum_one (g := fun i => if j = k / 8 then t k * 128 ^ i else 0)]
  congr 1
  by_cases z : j = k / 8
  · rw [if_pos (show k - 8 * j < 8 by omega), if_pos z, if_pos z, show k - 8 * j = k % 8 by omega]
  · by_cases z2 : k - 8 * j < 8
    · rw [if_pos z2, if_neg z, if_neg z]
    · rw [if_neg z2, if_neg z]
