/-! ===== calls: the text; what never throws ===== -/
def xtx (k : ka_K) (n : Nat) : Prop := k = (26, 0, 0) ∨ (k = (25, 0, 0) ∧ n = 2)
theorem xt_C (k : ka_K) (n : Nat) (h : xt k n) : xC k n := by
  rcases h with h | h
  · show k.1 ≤ 24; omega
  · show k.1 ≤ 24; omega
theorem kc_text {σ σ' : ka_S} {A : ma_X} {n : Nat} {t : Nat → Nat} (hc : kc σ A) (a : ag xt σ σ') (ht : rc_T σ' n t) : kc σ' (kx_setT A n t) := by
  obtain ⟨h1, h2, ⟨od, h3, h4⟩, h5⟩ := hc
  have n0 : ∀ κ o i m, κ ≠ 10 → κ ≠ 11 → ¬ xt (κ, o, i) m := fun κ o i m h h' q => by
    rcases q with q | q
    · exact h q
    · exact h' q
  exact ⟨ht, rc_P_ag h2 a (fun κ i n hk => n0 κ 0 i n (by omega) (by omega)), ⟨od, h3, rc_H_ag h4 a (fun j => n0 20 0 0 j (by decide) (by decide)) (fun κ o i m hk _ _ => n0 κ o i m (by omega) (by omega))⟩,
    fun s hs => ⟨(a _ _ (n0 24 0 0 s (by decide) (by decide))).1.trans (h5 s hs).1, fun hb => rc_P_ag ((h5 s hs).2 hb) a (fun κ i n hk => n0 κ (s + 2) i n (by omega) (by omega))⟩⟩
theorem ko_text {A : ma_X} {n : Nat} {t : Nat → Nat} (ok : ko A) (hn : n ≤ 60) (ht : ∀ k, k < n → t k < 256) : ko (kx_setT A n t) := ⟨hn, ht, ok.2.2⟩
theorem rc_T_0 {σ : ka_S} {t : Nat → Nat} (h : σ.1 (10, 0, 0) 1 = 0) : rc_T σ 0 t := ⟨h, fun k hk => absurd hk (Nat.not_lt_zero k)⟩
