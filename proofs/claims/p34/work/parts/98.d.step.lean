/-! ===== every call keeps the invariant; it holds behind the constructors ===== -/
def kx_new : ma_X := ((0, fun _ => 0), mp_new, (0, fun _ => mp_new), (fun _ => 0, fun _ => mp_new))
theorem ko_new : ko kx_new := ⟨Nat.zero_le _, fun k hk => absurd hk (Nat.not_lt_zero k), mp_new_ok, Nat.zero_le _, fun j hj => absurd hj (Nat.not_lt_zero j), fun s hs => ⟨Nat.zero_le _, fun h => absurd (show (0 : Nat) = 1 from h) (by decide)⟩⟩
