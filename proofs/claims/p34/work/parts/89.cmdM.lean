/-! ===== the reference's scripts and simulations ===== -/
def xtm (k : ka_K) (n : Nat) : Prop := k = (38, 0, 0) ∨ xy k n
theorem xr_tm (k : ka_K) (n : Nat) (h : xr (38, 0, 0) k n) : xtm k n := Or.inl h
theorem xy_tm (k : ka_K) (n : Nat) (h : xy k n) : xtm k n := Or.inr h
theorem mt_fillW_le {i : Nat} : ∀ (n p : Nat) (s : ma_P × Nat), (mt_fillW i n p s).2 ≤ s.2 + n := by
  intro n
  induction n with
  | zero => intro p s; exact Nat.le_refl _
  | succ n ih =>
    intro p s
    have z := ih (p + 1) (mu_fill s i p)
    have e : (mu_fill s i p).2 ≤ s.2 + 1 := by
      unfold mu_fill
      by_cases q : mw_G (mp_D s.1 i) p = [] ∧ mq_find s.1 (mw_P (mp_D s.1 i) p) < mp_L s.1
      · rw [if_pos q]; exact Nat.le_refl _
      · rw [if_neg q]; exact Nat.le_succ _
    show (mt_fillW i n (p + 1) (mu_fill s i p)).2 ≤ s.2 + (n + 1)
    omega
theorem mt_fillP_le : ∀ (n i : Nat) (s : ma_P × Nat), mp_ok s.1 → i + n ≤ mp_N s.1 → (mt_fillP n i s).2 ≤ s.2 + 4 * n := by
  intro n
  induction n with
  | zero => intro i s _ _; exact Nat.le_refl _
  | succ n ih =>
    intro i s ok hi
    have z := mt_fillW_ok (i := i) (mw_S (mp_D s.1 i)) 0 s ok (by omega)
    have z2 := mt_fillW_le (i := i) (mw_S (mp_D s.1 i)) 0 s
    have z3 := ih (i + 1) _ z.1 (by omega)
    have hS := (ok.2.2.2.2.2.1 i (by omega)).1
    show (mt_fillP n (i + 1) (mt_fillW i (mw_S (mp_D s.1 i)) 0 s)).2 ≤ s.2 + 4 * (n + 1)
    omega
theorem mt_fill_le {M : ma_P} (ok : mp_ok M) : (mt_fill M).2 ≤ 48 := by
  have z := mt_fillP_le (mp_N M) 0 (M, 0) ok (by show 0 + mp_N M ≤ mp_N M; omega)
  have := ok.1
  have e : ((M, 0) : ma_P × Nat).2 = 0 := rfl
  show (mt_fillP (mp_N M) 0 (M, 0)).2 ≤ 48
  omega
