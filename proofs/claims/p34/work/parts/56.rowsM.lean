/-! ===== the reference's page: a row of longs ===== -/
def mk_c (R : Nat → Nat) (F j i : Nat) : Nat := if 8 * j + i < F then R (8 * j + i) * 128 ^ i else 0
def mk_pack (R : Nat → Nat) (F j : Nat) : Nat := ma_sum (mk_c R F j) 8
/-! ===== the reference's small methods ===== -/
theorem kI_tm1 {n : Nat} (h : n < 2 ^ 31) : (nI n - (1 : Int32)).toInt = (n : Int) - 1 := by
  rcases Nat.eq_zero_or_pos n with q | q
  · subst q
    rfl
  · rw [kI_lit, kI_sub (show 1 ≤ n from q), nI_toInt (by omega)]
    omega
theorem kI_ex {v : Int32} {n : Nat} (h0 : 0 ≤ v.toInt) (h1 : v.toInt < n) : ∃ i, i < n ∧ v = nI i := by
  have hv : ¬ v < 0 := by
    rw [Int32.lt_iff_toInt_lt, Int32.toInt_zero]
    omega
  obtain ⟨i, hi, rfl⟩ := nI_of hv
  rw [nI_toInt hi] at h1
  exact ⟨i, by omega, rfl⟩
theorem kI_l (v : Int32) : v.toInt64.toInt = v.toInt := Int32.toInt_toInt64 v
