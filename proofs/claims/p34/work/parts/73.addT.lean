/-! ===== a code is appended to the text (class) ===== -/
def xt (k : ka_K) (_ : Nat) : Prop := k.1 = 10 ∨ k.1 = 11
def mt_put (t : Nat → Nat) (n v k : Nat) : Nat := if k = n then v else t k
theorem sp_X6_add {σ : ka_S} {n v : Nat} {t : Nat → Nat} {Q : ka_S → Prop} (ht : rc_T σ n t) (hn : n < 60) (h : ∀ σ', ag xt σ σ' → rc_T σ' (n + 1) (mt_put t n v) → Q σ') : kw_X6_add σ (nI v) Q := by
  unfold kw_X6_add
  rw [ht.1, kI_lit, nI_leI (by decide) (by omega), nI_clamp (by omega)]
  refine ⟨fun q => absurd q (by omega), fun _ => ⟨(kI_in (by omega)).mpr hn, ?_⟩⟩
  have c : (ka_wI σ (11, 0, 0) n (nI v)).1 (10, 0, 0) 1 = nI n := by
    simp only [st_I, st_L, st_I2, st_L1, Prod.mk.injEq, Nat.reduceEqDiff, false_and, and_false, true_and, and_true, and_self, if_false, if_true, reduceIte]
    exact ht.1
  rw [forall_eq, c, forall_eq]
  refine h _ (ag_I (ag_I ag_refl (Or.inr rfl)) (Or.inl rfl)) ⟨?_, fun k hk => ?_⟩
  · simp only [st_I, st_L, st_I2, st_L1, Prod.mk.injEq, Nat.reduceEqDiff, false_and, and_false, true_and, and_true, and_self, if_false, if_true, reduceIte]
    exact nI_1 n
  · simp only [st_I, st_L, st_I2, st_L1, Prod.mk.injEq, Nat.reduceEqDiff, false_and, and_false, true_and, and_true, and_self, if_false, if_true, reduceIte]
    unfold mt_put
    by_cases q : k = n
    · rw [if_pos q, if_pos q]
    · rw [if_neg q, if_neg q]
      exact ht.2 k (by omega)
