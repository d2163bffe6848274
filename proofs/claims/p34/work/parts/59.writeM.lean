/-! ===== the reference's rows, written ===== -/
def xc (a : ka_K) (d n : Nat) (k : ka_K) (j : Nat) : Prop := k = a ∧ d ≤ j ∧ j < d + n
/-- a row of its own -/
def xr (a : ka_K) (k : ka_K) (j : Nat) : Prop := k = a
theorem xc_r {a : ka_K} {d n : Nat} (k : ka_K) (j : Nat) (h : xc a d n k j) : xr a k j := h.1
theorem lN_m1 {n : Nat} (h : 1 ≤ n) : lN n - (1 : Int64) = lN (n - 1) := lN_sub h
