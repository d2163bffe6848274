/-! ===== sums ===== -/
def ma_sum (f : Nat → Nat) : Nat → Nat
  | 0 => 0
  | n + 1 => ma_sum f n + f n
theorem ma_sum_le {f : Nat → Nat} {c : Nat} : ∀ (n : Nat), (∀ k, k < n → f k ≤ c) → ma_sum f n ≤ n * c := by
  intro n
  induction n with
  | zero => intro _; exact Nat.zero_le _
  | succ n ih =>
    intro h
    have h1 := ih (fun k hk => h k (Nat.lt_succ_of_lt hk))
    have h2 := h n (Nat.lt_succ_self n)
    show ma_sum f n + f n ≤ _
    rw [Nat.succ_mul]
    omega
theorem ma_sum_mono {f : Nat → Nat} {n m : Nat} (h : n ≤ m) : ma_sum f n ≤ ma_sum f m := by
  induction m with
  | zero => rw [Nat.le_zero.mp h]; exact Nat.le_refl _
  | succ m ih =>
    rcases Nat.lt_or_ge m n with q | q
    · rw [show n = m + 1 by omega]; exact Nat.le_refl _
    · exact Nat.le_trans (ih q) (Nat.le_add_right _ _)
theorem ma_sum_congr {f g : Nat → Nat} : ∀ (n : Nat), (∀ k, k < n → f k = g k) → ma_sum f n = ma_sum g n := by
  intro n
  induction n with
  | zero => intro _; rfl
  | succ n ih =>
    intro h
    show ma_sum f n + f n = ma_sum g n + g n
    rw [ih (fun k hk => h k (Nat.lt_succ_of_lt hk)), h n (Nat.lt_succ_self n)]
/-! ===== a word, a page ===== -/
abbrev ma_W : Type := (Nat × Nat × Nat) × ((Nat → List Nat) × (Nat → List Nat)) × ((Nat → Nat) × (Nat → Nat))
def mw_S (w : ma_W) : Nat := w.1.1
def mw_E (w : ma_W) : Nat := w.1.2.1
def mw_F (w : ma_W) : Nat := w.1.2.2
def mw_P (w : ma_W) : Nat → List Nat := w.2.1.1
def mw_G (w : ma_W) : Nat → List Nat := w.2.1.2
def mw_M (w : ma_W) : Nat → Nat := w.2.2.1
def mw_R (w : ma_W) : Nat → Nat := w.2.2.2
def mw_ok (w : ma_W) : Prop := (1 ≤ mw_S w ∧ mw_S w ≤ 4) ∧ mw_E w ≤ 1 ∧ mw_F w ≤ 24 ∧ (0 < mw_F w → mw_E w = 1) ∧
  (∀ p, p < mw_S w → ma_p (mw_P w p) ∧ ma_g (mw_G w p) ∧ (0 < p → mw_M w p = 45 ∨ mw_M w p = 61)) ∧ ∀ k, k < mw_F w → 32 ≤ mw_R w k ∧ mw_R w k ≤ 126
abbrev ma_P : Type := ((Nat × Nat) × (Nat × Nat × Nat)) × (Nat → ma_W) × ((Nat → List Nat) × (Nat → List Nat))
def mp_N (M : ma_P) : Nat := M.1.1.1
def mp_L (M : ma_P) : Nat := M.1.1.2
def mp_W (M : ma_P) : Nat := M.1.2.1
def mp_S (M : ma_P) : Nat := M.1.2.2.1
def mp_Y (M : ma_P) : Nat := M.1.2.2.2
def mp_D (M : ma_P) : Nat → ma_W := M.2.1
def mp_A (M : ma_P) : Nat → List Nat := M.2.2.1
def mp_B (M : ma_P) : Nat → List Nat := M.2.2.2
def mp_ok (M : ma_P) : Prop := mp_N M ≤ 12 ∧ mp_L M ≤ 16 ∧ (10 ≤ mp_W M ∧ mp_W M ≤ 60) ∧ (1 ≤ mp_S M ∧ mp_S M ≤ 3) ∧ mp_Y M ≤ 1 ∧
  (∀ i, i < mp_N M → mw_ok (mp_D M i)) ∧ ∀ e, e < mp_L M → ma_p (mp_A M e) ∧ ma_g (mp_B M e) ∧ mp_B M e ≠ []
/-! ===== the store, place by place ===== -/
theorem st_I {σ : ka_S} {k k' : ka_K} {j n : Nat} {x : Int32} : (ka_wI σ k j x).1 k' n = if k' = k ∧ n = j then x else σ.1 k' n := by
  by_cases h : k' = k
  · subst h
    rw [ka_wI_eq]
    show (if n = j then x else σ.1 k' n) = _
    by_cases h2 : n = j
    · rw [if_pos h2, if_pos ⟨rfl, h2⟩]
    · rw [if_neg h2, if_neg (fun q => h2 q.2)]
  · rw [ka_wI_ne h, if_neg (fun q => h q.1)]
theorem st_I2 {σ : ka_S} {k k' : ka_K} {j n : Nat} {x : Int32} : (ka_wI σ k j x).2 k' n = σ.2 k' n := rfl
theorem st_L {σ : ka_S} {k k' : ka_K} {j n : Nat} {x : Int64} : (ka_wL σ k j x).2 k' n = if k' = k ∧ n = j then x else σ.2 k' n := by
  by_cases h : k' = k
  · subst h
    rw [ka_wL_eq]
    show (if n = j then x else σ.2 k' n) = _
    by_cases h2 : n = j
    · rw [if_pos h2, if_pos ⟨rfl, h2⟩]
    · rw [if_neg h2, if_neg (fun q => h2 q.2)]
  · rw [ka_wL_ne h, if_neg (fun q => h q.1)]
theorem st_L1 {σ : ka_S} {k k' : ka_K} {j n : Nat} {x : Int64} : (ka_wL σ k j x).1 k' n = σ.1 k' n := rfl
/-- what is outside X stays -/
def ag (X : ka_K → Nat → Prop) (σ σ' : ka_S) : Prop := ∀ k n, ¬ X k n → σ'.1 k n = σ.1 k n ∧ σ'.2 k n = σ.2 k n
theorem ag_refl {X : ka_K → Nat → Prop} {σ : ka_S} : ag X σ σ := fun _ _ _ => ⟨rfl, rfl⟩
theorem ag_trans {X : ka_K → Nat → Prop} {σ σ1 σ2 : ka_S} (h : ag X σ σ1) (h2 : ag X σ1 σ2) : ag X σ σ2 := fun k n hx =>
  ⟨(h2 k n hx).1.trans (h k n hx).1, (h2 k n hx).2.trans (h k n hx).2⟩
theorem ag_mono {X Y : ka_K → Nat → Prop} {σ σ1 : ka_S} (h : ag X σ σ1) (hy : ∀ k n, X k n → Y k n) : ag Y σ σ1 := fun k n hx => h k n (fun q => hx (hy k n q))
theorem ag_I {X : ka_K → Nat → Prop} {σ σ1 : ka_S} {k : ka_K} {j : Nat} {x : Int32} (h : ag X σ σ1) (hx : X k j) : ag X σ (ka_wI σ1 k j x) := fun k' n hn => by
  rw [st_I, st_I2, if_neg (fun q => hn (by rw [q.1, q.2]; exact hx))]
  exact h k' n hn
theorem ag_L {X : ka_K → Nat → Prop} {σ σ1 : ka_S} {k : ka_K} {j : Nat} {x : Int64} (h : ag X σ σ1) (hx : X k j) : ag X σ (ka_wL σ1 k j x) := fun k' n hn => by
  rw [st_L, st_L1, if_neg (fun q => hn (by rw [q.1, q.2]; exact hx))]
  exact h k' n hn
/-! ===== the class's word ===== -/
def rc_Wn (σ : ka_S) (o i : Nat) (w : ma_W) (s f : Nat) : Prop := (σ.1 (5, o, i) 4 = nI (mw_S w) ∧ σ.1 (5, o, i) 5 = nI (mw_F w) ∧ σ.1 (5, o, i) 6 = nI (mw_E w)) ∧
  (∀ p, p < s → σ.2 (6, o, i) p = lN (ma_C (mw_P w p)) ∧ σ.2 (7, o, i) p = lN (ma_C (mw_G w p)) ∧ σ.1 (8, o, i) p = if p = 0 then -9 else nI (mw_M w p)) ∧
  ∀ k, k < f → σ.1 (9, o, i) k = nI (mw_R w k)
def rc_W (σ : ka_S) (o i : Nat) (w : ma_W) : Prop := rc_Wn σ o i w (mw_S w) (mw_F w)
def xw (o i : Nat) (k : ka_K) (_ : Nat) : Prop := k.2.1 = o ∧ k.2.2 = i ∧ 5 ≤ k.1 ∧ k.1 ≤ 9
theorem rc_Wn_ag {X : ka_K → Nat → Prop} {σ σ' : ka_S} {o i s f : Nat} {w : ma_W} (h : rc_Wn σ o i w s f) (a : ag X σ σ') (hx : ∀ κ n, 5 ≤ κ → κ ≤ 9 → ¬ X (κ, o, i) n) : rc_Wn σ' o i w s f := by
  refine ⟨⟨?_, ?_, ?_⟩, fun p hp => ⟨?_, ?_, ?_⟩, fun k hk => ?_⟩
  · exact (a _ _ (hx 5 4 (by decide) (by decide))).1.trans h.1.1
  · exact (a _ _ (hx 5 5 (by decide) (by decide))).1.trans h.1.2.1
  · exact (a _ _ (hx 5 6 (by decide) (by decide))).1.trans h.1.2.2
  · exact (a _ _ (hx 6 p (by decide) (by decide))).2.trans (h.2.1 p hp).1
  · exact (a _ _ (hx 7 p (by decide) (by decide))).2.trans (h.2.1 p hp).2.1
  · exact (a _ _ (hx 8 p (by decide) (by decide))).1.trans (h.2.1 p hp).2.2
  · exact (a _ _ (hx 9 k (by decide) (by decide))).1.trans (h.2.2 k hk)
theorem rc_W_ag {X : ka_K → Nat → Prop} {σ σ' : ka_S} {o i : Nat} {w : ma_W} (h : rc_W σ o i w) (a : ag X σ σ') (hx : ∀ κ n, 5 ≤ κ → κ ≤ 9 → ¬ X (κ, o, i) n) : rc_W σ' o i w := rc_Wn_ag h a hx
theorem rc_Wn_part {σ : ka_S} {o i s f : Nat} {w : ma_W} {a b : Int64} {c : Int32} (h : rc_Wn σ o i w s f) (ha : a = lN (ma_C (mw_P w s))) (hb : b = lN (ma_C (mw_G w s)))
    (hc : c = if s = 0 then -9 else nI (mw_M w s)) : rc_Wn (ka_wI (ka_wL (ka_wL σ (6, o, i) s a) (7, o, i) s b) (8, o, i) s c) o i w (s + 1) f := by
  refine ⟨⟨?_, ?_, ?_⟩, fun p hp => ?_, fun k hk => ?_⟩
  · simp only [st_I, st_L, st_I2, st_L1, Prod.mk.injEq, Nat.reduceEqDiff, false_and, and_false, true_and, and_true, and_self, if_false, if_true, reduceIte]
    exact h.1.1
  · simp only [st_I, st_L, st_I2, st_L1, Prod.mk.injEq, Nat.reduceEqDiff, false_and, and_false, true_and, and_true, and_self, if_false, if_true, reduceIte]
    exact h.1.2.1
  · simp only [st_I, st_L, st_I2, st_L1, Prod.mk.injEq, Nat.reduceEqDiff, false_and, and_false, true_and, and_true, and_self, if_false, if_true, reduceIte]
    exact h.1.2.2
  · simp only [st_I, st_L, st_I2, st_L1, Prod.mk.injEq, Nat.reduceEqDiff, false_and, and_false, true_and, and_true, and_self, if_false, if_true, reduceIte]
    by_cases q : p = s
    · subst q
      rw [if_pos rfl, if_pos rfl, if_pos rfl]
      exact ⟨ha, hb, hc⟩
    · rw [if_neg q, if_neg q, if_neg q]
      exact h.2.1 p (by omega)
  · simp only [st_I, st_L, st_I2, st_L1, Prod.mk.injEq, Nat.reduceEqDiff, false_and, and_false, true_and, and_true, and_self, if_false, if_true, reduceIte]
    exact h.2.2 k hk
theorem rc_Wn_free {σ : ka_S} {o i s f : Nat} {w : ma_W} {c : Int32} (h : rc_Wn σ o i w s f) (hc : c = nI (mw_R w f)) : rc_Wn (ka_wI σ (9, o, i) f c) o i w s (f + 1) := by
  refine ⟨⟨?_, ?_, ?_⟩, fun p hp => ?_, fun k hk => ?_⟩
  · simp only [st_I, st_L, st_I2, st_L1, Prod.mk.injEq, Nat.reduceEqDiff, false_and, and_false, true_and, and_true, and_self, if_false, if_true, reduceIte]
    exact h.1.1
  · simp only [st_I, st_L, st_I2, st_L1, Prod.mk.injEq, Nat.reduceEqDiff, false_and, and_false, true_and, and_true, and_self, if_false, if_true, reduceIte]
    exact h.1.2.1
  · simp only [st_I, st_L, st_I2, st_L1, Prod.mk.injEq, Nat.reduceEqDiff, false_and, and_false, true_and, and_true, and_self, if_false, if_true, reduceIte]
    exact h.1.2.2
  · simp only [st_I, st_L, st_I2, st_L1, Prod.mk.injEq, Nat.reduceEqDiff, false_and, and_false, true_and, and_true, and_self, if_false, if_true, reduceIte]
    exact h.2.1 p hp
  · simp only [st_I, st_L, st_I2, st_L1, Prod.mk.injEq, Nat.reduceEqDiff, false_and, and_false, true_and, and_true, and_self, if_false, if_true, reduceIte]
    by_cases q : k = f
    · rw [if_pos q, hc, q]
    · rw [if_neg q]
      exact h.2.2 k (by omega)
