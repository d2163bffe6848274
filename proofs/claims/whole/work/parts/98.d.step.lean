/-! ===== every call keeps the invariant; it holds behind the constructors ===== -/
theorem kl_all {σ : ka_S} {xs : Nat → Int32} {i : Nat} {o : Int64} (hK : kK σ) : kl_step σ xs i o (fun σ1 _ => kK σ1) :=
  ⟨fun _ => kl_0 hK, fun _ => ⟨fun _ => kl_1 hK, fun _ => ⟨fun _ => kl_2 hK, fun _ => ⟨fun _ => kl_3 hK, fun _ => ⟨fun _ => kl_4 hK, fun _ => ⟨fun _ => kl_5 hK, fun _ => ⟨fun _ => kl_6 hK, fun _ => ⟨fun _ => kl_7 hK, fun _ => ⟨fun _ => kl_8 hK, fun _ => ⟨fun _ => kl_9 hK, fun _ => ⟨fun _ => kl_10 hK, fun _ => ⟨fun _ => kl_11 hK, fun _ => ⟨fun _ => kl_12 hK, fun _ => ⟨fun _ => kl_13 hK, fun _ => ⟨fun _ => kl_14 hK, fun _ => ⟨fun _ => kl_15 hK, fun _ => ⟨fun _ => kl_16 hK, fun _ => ⟨fun _ => kl_17 hK, fun _ => ⟨fun _ => kl_18 hK, fun _ => ⟨fun _ => kl_19 hK, fun _ => ⟨fun _ => kl_20 hK, fun _ => ⟨fun _ => kl_21 hK, fun _ => ⟨fun _ => kl_22 hK, fun _ => ⟨fun _ => kl_23 hK, fun _ => ⟨fun _ => kl_24 hK, fun _ => ⟨fun _ => kl_25 hK, fun _ => ⟨fun _ => kl_26 hK, fun _ => ⟨fun _ => kl_27 hK, fun _ => ⟨fun _ => kl_28 hK, fun _ => ⟨fun _ => kl_29 hK, fun _ => ⟨fun _ => kl_30 hK, fun _ => hK⟩⟩⟩⟩⟩⟩⟩⟩⟩⟩⟩⟩⟩⟩⟩⟩⟩⟩⟩⟩⟩⟩⟩⟩⟩⟩⟩⟩⟩⟩⟩
def kx_new : ma_X := ((0, fun _ => 0), mp_new, (0, fun _ => mp_new), (fun _ => 0, fun _ => mp_new))
theorem ko_new : ko kx_new := ⟨Nat.zero_le _, fun k hk => absurd hk (Nat.not_lt_zero k), mp_new_ok, Nat.zero_le _, fun j hj => absurd hj (Nat.not_lt_zero j), fun s hs => ⟨Nat.zero_le _, fun h => absurd (show (0 : Nat) = 1 from h) (by decide)⟩⟩
theorem kl_init : kw_X9_clean kn_σ (37, 0, 0) kK := by
  refine sp_X9_clean rfl (fun σ a r => ⟨kx_new, ko_new, ?_, ?_⟩)
  · have n0 : ∀ κ o i m, κ ≤ 24 → ¬ xr (37, 0, 0) (κ, o, i) m := fun κ o i m hk q => by
      have : κ = 37 := congrArg Prod.fst (show (κ, o, i) = (37, 0, 0) from q)
      omega
    have g : ∀ κ o i m, κ ≤ 24 → σ.1 (κ, o, i) m = kn_σ.1 (κ, o, i) m := fun κ o i m hk => (a _ _ (n0 κ o i m hk)).1
    refine ⟨rc_T_0 (g 10 0 0 1 (by decide)), ⟨⟨g 0 0 0 2 (by decide), g 0 0 0 3 (by decide), g 0 0 0 4 (by decide), g 0 0 0 5 (by decide)⟩, ⟨g 2 0 0 2 (by decide), fun e he => absurd he (Nat.not_lt_zero e)⟩, fun i hi => absurd hi (Nat.not_lt_zero i)⟩,
      ⟨0, by decide, ⟨g 20 0 0 1 (by decide), g 20 0 0 2 (by decide)⟩, fun j hj => absurd hj (Nat.not_lt_zero j)⟩, fun s hs => ⟨g 24 0 0 s (by decide), fun h => absurd (show (0 : Nat) = 1 from h) (by decide)⟩⟩
  · have n0 : ∀ κ m, κ ≠ 37 → ¬ xr (37, 0, 0) (κ, 0, 0) m := fun κ m hk q => hk (congrArg Prod.fst (show (κ, 0, 0) = (37, 0, 0) from q))
    have g : ∀ κ m, κ ≠ 37 → σ.1 (κ, 0, 0) m = kn_σ.1 (κ, 0, 0) m := fun κ m hk => (a _ _ (n0 κ m hk)).1
    exact ⟨rd_T_0 (g 25 2 (by decide)), r, ⟨g 25 8 (by decide), fun j hj => absurd hj (Nat.not_lt_zero j)⟩, fun s hs => ⟨g 35 s (by decide), fun h => absurd (show (0 : Nat) = 1 from h) (by decide)⟩⟩
