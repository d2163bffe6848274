/-! ===== the reference's text; settings allowed ===== -/
theorem lN_tI (n : Nat) (h : n < 2 ^ 31) : (lN n).toInt = n := lN_toInt h
