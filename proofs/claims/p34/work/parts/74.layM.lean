/-! ===== the reference's layout: rows ===== -/
def xrow (k : ka_K) (n : Nat) : Prop := (32 ≤ k.1 ∧ k.1 ≤ 34) ∨ (k = (25, 0, 0) ∧ n = 12)
def xy (k : ka_K) (n : Nat) : Prop := (27 ≤ k.1 ∧ k.1 ≤ 34) ∨ (k = (25, 0, 0) ∧ 11 ≤ n ∧ n ≤ 13)
theorem xrow_y (k : ka_K) (n : Nat) (h : xrow k n) : xy k n := by
  rcases h with h | h
  · exact Or.inl ⟨Nat.le_trans (by decide) h.1, h.2⟩
  · exact Or.inr ⟨h.1, by rw [h.2]; exact ⟨by decide, by decide⟩⟩
