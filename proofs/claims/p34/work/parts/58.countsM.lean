/-! ===== the reference's page, read (nested) ===== -/
theorem ma_M_C {l l' : List Nat} (h : ma_p l) (h' : ma_p l' ∨ l' = []) : ma_M l < ma_M l' ↔ ma_C l < ma_C l' := by
  rcases h' with h' | h'
  · rw [ma_M_cmp h h', ma_C_cmp h.g h'.g]
  · rw [h', ma_M_nil, ma_C_nil]
    exact ⟨fun q => absurd q (Nat.not_lt_zero _), fun q => absurd q (Nat.not_lt_zero _)⟩
