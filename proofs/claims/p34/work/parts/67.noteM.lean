/-! ===== the reference's diary ===== -/
def xd (k : ka_K) (j : Nat) : Prop := k = (39, 0, 0) ∨ (k = (25, 0, 0) ∧ j = 8)
