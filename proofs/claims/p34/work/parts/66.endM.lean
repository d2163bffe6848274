/-! ===== the reference: a sentence ends, is joined; settings ===== -/
theorem mk_pack_0 (R : Nat → Nat) (j : Nat) : mk_pack R 0 j = 0 := by
  have : ∀ n, ma_sum (mk_c R 0 j) n = 0 := by
    intro n
    induction n with
    | zero => rfl
    | succ n ih =>
      show ma_sum (mk_c R 0 j) n + (if 8 * j + n < 0 then R (8 * j + n) * 128 ^ n else 0) = 0
      rw [ih, if_neg (Nat.not_lt_zero _)]
  exact this 8
