/-! ===== act: what it answers and leaves hangs on what held ===== -/
theorem dt_via {A A1 : ma_X} {kw1 kw : ka_S → (Int64 → ka_S → Prop) → Prop} (e : A1.2 = A.2) (h1 : dt A1 kw1) (h : ∀ {σ : ka_S} {Q : Int64 → ka_S → Prop}, kv σ A → (∀ σ1, kv σ1 A1 → kw1 σ1 Q) → kw σ Q) : dt A kw := by
  obtain ⟨r, A', hz, h2⟩ := h1
  have e1 : kx_M A1 = kx_M A := by
    show A1.2.1 = A.2.1
    rw [e]
  exact ⟨r, A', fun okm z => hz (by rw [e1]; exact okm) (kz_2 e z), fun {σ Q} hv k => h hv (fun σ1 hh => h2 hh k)⟩
theorem dt_const {A A1 : ma_X} {kw : ka_S → (Int64 → ka_S → Prop) → Prop} (r : Int64) (e : A1.2 = A.2) (h : ∀ {σ : ka_S} {Q : Int64 → ka_S → Prop}, kv σ A → (∀ σ1, kv σ1 A1 → Q r σ1) → kw σ Q) : dt A kw :=
  ⟨r, A1, fun _ z => kz_2 e z, fun {σ Q} hv k => h hv k⟩
theorem dt_tells_insert (A : ma_X) (v1 v2 v : Int32) : dt A (fun σ Q => kw_L_tells σ v1 v2 (fun r s => (r = (0 : Int32) → Q (-1 : Int64) s) ∧ (¬ r = (0 : Int32) → kw_L_insert s v Q))) := by
  obtain ⟨A1, r1, e2, -, h⟩ := lt_tells v1 v2 A
  rcases Classical.em (r1 = 0) with hr | hr
  · exact dt_const (-1) e2 (fun {σ Q} hv k => h hv (fun σ1 h1 => kb_eq hr (k σ1 h1)))
  · exact dt_via e2 (dt_insert A1 v) (fun {σ Q} hv k => h hv (fun σ1 h1 => kb_ne hr (k σ1 h1)))
theorem dt_tells_free (A : ma_X) (v1 v2 v : Int32) : dt A (fun σ Q => kw_L_tells σ v1 v2 (fun r s => (r = (0 : Int32) → Q (-1 : Int64) s) ∧ (¬ r = (0 : Int32) → kw_L_setFree s v Q))) := by
  obtain ⟨A1, r1, e2, -, h⟩ := lt_tells v1 v2 A
  rcases Classical.em (r1 = 0) with hr | hr
  · exact dt_const (-1) e2 (fun {σ Q} hv k => h hv (fun σ1 h1 => kb_eq hr (k σ1 h1)))
  · exact dt_via e2 (dt_setFree A1 v) (fun {σ Q} hv k => h hv (fun σ1 h1 => kb_ne hr (k σ1 h1)))
theorem l1_put {σ : ka_S} {A : ma_X} {c : Nat} {Q : Int64 → ka_S → Prop} (hv : kv σ A) (hc : c < 256) (hn : kx_n A < 60) (h : ∀ σ1, kv σ1 (kx_put A c) → Q (lN (kx_n A + 1)) σ1) : kw_L_append σ (nI c) Q := l1_append hv hc hn h
theorem dt_192 (A : ma_X) {y : Nat} (hy : y < 2 ^ 31) (hn : kx_n A ≤ 1) (u v : Int32) : dt A (fun σ Q => kw_L_act_192 Q σ (nI y) u v) := by
  have e3 : nI y - nI y / (3 : Int32) * (3 : Int32) = nI (y % 3) := pk_rem (d := 3) hy (by decide) (by decide)
  rcases Classical.em (y % 3 = 0) with h3 | h3
  · refine dt_via rfl (dt_setGloss A u v) (fun {σ Q} hv k => ?_)
    unfold kw_L_act_192 kw_L_act_209
    rw [e3]
    exact kb_i (y % 3) 0 (fun _ => k σ hv) (fun q => absurd h3 q)
  · refine dt_via (A1 := kx_put A 46) rfl (dt_setGloss _ u v) (fun {σ Q} hv k => ?_)
    unfold kw_L_act_192 kw_L_act_209
    rw [e3]
    refine kb_i (y % 3) 0 (fun q => absurd q h3) (fun _ => ?_)
    exact l1_put (c := 46) hv (by decide) (by omega) (fun σ1 h1 => kb_lLE (kx_n A + 1) 0 (fun q => absurd q (by omega)) (fun _ => k σ1 h1))
theorem dt_gloss (A : ma_X) {y : Nat} (hy : y < 2 ^ 31) (u v : Int32) : dt A (fun σ Q => kw_X8_clearText σ (fun r s => (r < (0 : Int32) → Q (-1 : Int64) s) ∧ (¬ r < (0 : Int32) → ((nI y - nI y / (5 : Int32) * (5 : Int32)) = (0 : Int32) → kw_L_act_192 Q s (nI y) u v) ∧ (¬ (nI y - nI y / (5 : Int32) * (5 : Int32)) = (0 : Int32) → kw_L_append s ((97 : Int32) + (nI y - nI y / (26 : Int32) * (26 : Int32))) (fun r2 s2 => (r2 ≤ (0 : Int64) → Q (-1 : Int64) s2) ∧ (¬ r2 ≤ (0 : Int64) → kw_L_act_192 Q s2 (nI y) u v)))))) := by
  have e5 : nI y - nI y / (5 : Int32) * (5 : Int32) = nI (y % 5) := pk_rem (d := 5) hy (by decide) (by decide)
  have e26 : nI y - nI y / (26 : Int32) * (26 : Int32) = nI (y % 26) := pk_rem (d := 26) hy (by decide) (by decide)
  have m26 : y % 26 < 26 := Nat.mod_lt _ (by decide)
  rcases Classical.em (y % 5 = 0) with h5 | h5
  · refine dt_via (A1 := kx_setT A 0 (kx_t A)) rfl (dt_192 _ hy (Nat.zero_le _) u v) (fun {σ Q} hv k => ?_)
    have hn := hv.1.1
    refine s_clearText hv (fun σ1 h1 => kb_lt (kx_n A) 0 (fun q => absurd q (Nat.not_lt_zero _)) (fun _ => ?_))
    rw [e5]
    exact kb_i (y % 5) 0 (fun _ => k σ1 h1) (fun q => absurd h5 q)
  · refine dt_via (A1 := kx_put (kx_setT A 0 (kx_t A)) (97 + y % 26)) rfl (dt_192 _ hy (Nat.le_refl _) u v) (fun {σ Q} hv k => ?_)
    have hn := hv.1.1
    refine s_clearText hv (fun σ1 h1 => kb_lt (kx_n A) 0 (fun q => absurd q (Nat.not_lt_zero _)) (fun _ => ?_))
    rw [e5, e26, show (97 : Int32) + nI (y % 26) = nI (97 + y % 26) from nI_add 97 _]
    refine kb_i (y % 5) 0 (fun q => absurd q h5) (fun _ => ?_)
    exact l1_put h1 (by omega) (by show 0 < 60; decide) (fun σ2 h2 => kb_lLE 1 0 (fun q => absurd q (by omega)) (fun _ => k σ2 h2))
theorem dt_sets (A : ma_X) {y : Nat} (hy : y < 2 ^ 31) : dt A (fun σ Q => ((nI y - nI y / (3 : Int32) * (3 : Int32)) = (0 : Int32) → kw_L_set σ (9 : Int32) ((10 : Int32) + ((nI y / (3 : Int32)) - (nI y / (3 : Int32)) / (30 : Int32) * (30 : Int32))) Q) ∧ (¬ (nI y - nI y / (3 : Int32) * (3 : Int32)) = (0 : Int32) → ((nI y - nI y / (3 : Int32) * (3 : Int32)) = (1 : Int32) → kw_L_set σ (10 : Int32) ((1 : Int32) + ((nI y / (3 : Int32)) - (nI y / (3 : Int32)) / (3 : Int32) * (3 : Int32))) Q) ∧ (¬ (nI y - nI y / (3 : Int32) * (3 : Int32)) = (1 : Int32) → kw_L_set σ (11 : Int32) ((nI y / (3 : Int32)) - (nI y / (3 : Int32)) / (2 : Int32) * (2 : Int32)) Q))) := by
  have e3 : nI y - nI y / (3 : Int32) * (3 : Int32) = nI (y % 3) := pk_rem (d := 3) hy (by decide) (by decide)
  have d3 : nI y / (3 : Int32) = nI (y / 3) := pk_div (d := 3) hy (by decide) (by decide)
  have r30 : nI (y / 3) - nI (y / 3) / (30 : Int32) * (30 : Int32) = nI (y / 3 % 30) := pk_rem (d := 30) (by omega) (by decide) (by decide)
  have r3 : nI (y / 3) - nI (y / 3) / (3 : Int32) * (3 : Int32) = nI (y / 3 % 3) := pk_rem (d := 3) (by omega) (by decide) (by decide)
  have r2 : nI (y / 3) - nI (y / 3) / (2 : Int32) * (2 : Int32) = nI (y / 3 % 2) := pk_rem (d := 2) (by omega) (by decide) (by decide)
  have m30 : y / 3 % 30 < 30 := Nat.mod_lt _ (by decide)
  have m3 : y / 3 % 3 < 3 := Nat.mod_lt _ (by decide)
  have m2 : y / 3 % 2 < 2 := Nat.mod_lt _ (by decide)
  have mm : y % 3 < 3 := Nat.mod_lt _ (by decide)
  rcases (show y % 3 = 0 ∨ y % 3 = 1 ∨ y % 3 = 2 by omega) with h | h | h
  · refine dt_via rfl (dt_set A (k := 9) (x := 10 + y / 3 % 30) (Or.inl ⟨rfl, by omega, by omega⟩)) (fun {σ Q} hv k => ?_)
    rw [e3, d3, r30, show (10 : Int32) + nI (y / 3 % 30) = nI (10 + y / 3 % 30) from nI_add 10 _]
    exact kb_i (y % 3) 0 (fun _ => k σ hv) (fun q => absurd h q)
  · refine dt_via rfl (dt_set A (k := 10) (x := 1 + y / 3 % 3) (Or.inr (Or.inl ⟨rfl, by omega, by omega⟩))) (fun {σ Q} hv k => ?_)
    rw [e3, d3, r3, show (1 : Int32) + nI (y / 3 % 3) = nI (1 + y / 3 % 3) from nI_add 1 _]
    exact kb_i (y % 3) 0 (fun q => absurd q (by omega)) (fun _ => kb_i (y % 3) 1 (fun _ => k σ hv) (fun q => absurd h q))
  · refine dt_via rfl (dt_set A (k := 11) (x := y / 3 % 2) (Or.inr (Or.inr ⟨rfl, by omega⟩))) (fun {σ Q} hv k => ?_)
    rw [e3, d3, r2]
    exact kb_i (y % 3) 0 (fun q => absurd q (by omega)) (fun _ => kb_i (y % 3) 1 (fun q => absurd q (by omega)) (fun _ => k σ hv))
theorem dt_15 (A : ma_X) {y : Nat} (hy : y < 2 ^ 31) : dt A (fun σ Q => ((nI y - nI y / (3 : Int32) * (3 : Int32)) = (0 : Int32) → kw_L_forget σ ((nI y / (3 : Int32)) - (nI y / (3 : Int32)) / (4 : Int32) * (4 : Int32)) Q) ∧ (¬ (nI y - nI y / (3 : Int32) * (3 : Int32)) = (0 : Int32) → kw_X8_fillGaps σ (fun r s => Q r.toInt64 s))) := by
  have e3 : nI y - nI y / (3 : Int32) * (3 : Int32) = nI (y % 3) := pk_rem (d := 3) hy (by decide) (by decide)
  have mm : y % 3 < 3 := Nat.mod_lt _ (by decide)
  rcases Classical.em (y % 3 = 0) with h | h
  · refine dt_via rfl (dt_forget A ((nI y / (3 : Int32)) - (nI y / (3 : Int32)) / (4 : Int32) * (4 : Int32))) (fun {σ Q} hv k => ?_)
    rw [e3]
    exact kb_i (y % 3) 0 (fun _ => k σ hv) (fun q => absurd h q)
  · refine dt_via rfl (dt_fill A) (fun {σ Q} hv k => ?_)
    rw [e3]
    exact kb_i (y % 3) 0 (fun q => absurd q h) (fun _ => k σ hv)
theorem dt_17 (A : ma_X) {y : Nat} (hy : y < 2 ^ 31) : dt A (fun σ Q => ((nI y - nI y / (2 : Int32) * (2 : Int32)) = (0 : Int32) → kw_L_save σ ((nI y / (2 : Int32)) &&& (1 : Int32)) Q) ∧ (¬ (nI y - nI y / (2 : Int32) * (2 : Int32)) = (0 : Int32) → kw_L_restore σ ((nI y / (2 : Int32)) &&& (1 : Int32)) Q)) := by
  have e2 : nI y - nI y / (2 : Int32) * (2 : Int32) = nI (y % 2) := pk_rem (d := 2) hy (by decide) (by decide)
  have mm : y % 2 < 2 := Nat.mod_lt _ (by decide)
  obtain ⟨s, hs, es⟩ := kI_andN (nI y / (2 : Int32)) 1 (by decide)
  have es' : (nI y / (2 : Int32)) &&& (1 : Int32) = nI s := es
  rcases Classical.em (y % 2 = 0) with h | h
  · refine dt_via rfl (dt_save A (s := s) (by omega)) (fun {σ Q} hv k => ?_)
    rw [e2, es']
    exact kb_i (y % 2) 0 (fun _ => k σ hv) (fun q => absurd h q)
  · refine dt_via rfl (dt_restore A (s := s) (by omega)) (fun {σ Q} hv k => ?_)
    rw [e2, es']
    exact kb_i (y % 2) 0 (fun q => absurd q h) (fun _ => k σ hv)
theorem l_act (A : ma_X) {x y : Nat} (hx : x < 2 ^ 31) (hy : y < 2 ^ 31) : dt A (fun σ Q => kw_L_act σ (nI x) (nI y) Q) := by
  have e12 : nI y - nI y / (12 : Int32) * (12 : Int32) = nI (y % 12) := pk_rem (d := 12) hy (by decide) (by decide)
  have d12 : nI y / (12 : Int32) = nI (y / 12) := pk_div (d := 12) hy (by decide) (by decide)
  have e3 : nI (y / 12) - nI (y / 12) / (3 : Int32) * (3 : Int32) = nI (y / 12 % 3) := pk_rem (d := 3) (by omega) (by decide) (by decide)
  have e18 : nI x - nI x / (18 : Int32) * (18 : Int32) = nI (x % 18) := pk_rem (d := 18) hx (by decide) (by decide)
  have m18 : x % 18 < 18 := Nat.mod_lt _ (by decide)
  rcases (show x % 18 = 0 ∨ x % 18 = 1 ∨ x % 18 = 2 ∨ x % 18 = 3 ∨ x % 18 = 4 ∨ x % 18 = 5 ∨ x % 18 = 6 ∨ x % 18 = 7 ∨ x % 18 = 8 ∨ x % 18 = 9 ∨ x % 18 = 10 ∨ x % 18 = 11 ∨ x % 18 = 12 ∨ x % 18 = 13 ∨ x % 18 = 14 ∨ x % 18 = 15 ∨ x % 18 = 16 ∨ x % 18 = 17 by omega) with h | h | h | h | h | h | h | h | h | h | h | h | h | h | h | h | h | h
  · refine dt_via rfl (dt_tells_insert A (nI x) (nI y) (nI (y % 12))) (fun {σ Q} hv k => ?_)
    unfold kw_L_act
    intro x1 e1 x2 e2 x3 e9
    rw [e12] at e1
    rw [d12, e3] at e2
    rw [e18, h] at e9
    subst e1 e2 e9
    exact kb_eq rfl (k σ hv)
  · refine dt_via rfl (dt_tells_insert A (nI x) (nI y) (nI (y % 12))) (fun {σ Q} hv k => ?_)
    unfold kw_L_act
    intro x1 e1 x2 e2 x3 e9
    rw [e12] at e1
    rw [d12, e3] at e2
    rw [e18, h] at e9
    subst e1 e2 e9
    exact kb_ne (by decide) (kb_eq rfl (k σ hv))
  · refine dt_via rfl (dt_tells_insert A (nI x) (nI y) (nI (y % 12))) (fun {σ Q} hv k => ?_)
    unfold kw_L_act
    intro x1 e1 x2 e2 x3 e9
    rw [e12] at e1
    rw [d12, e3] at e2
    rw [e18, h] at e9
    subst e1 e2 e9
    exact kb_ne (by decide) (kb_ne (by decide) (kb_eq rfl (k σ hv)))
  · refine dt_via rfl (dt_remove A (nI (y % 12))) (fun {σ Q} hv k => ?_)
    unfold kw_L_act
    intro x1 e1 x2 e2 x3 e9
    rw [e12] at e1
    rw [d12, e3] at e2
    rw [e18, h] at e9
    subst e1 e2 e9
    exact kb_ne (by decide) (kb_ne (by decide) (kb_ne (by decide) (kb_eq rfl (k σ hv))))
  · refine dt_via rfl (dt_end A (nI (y % 12))) (fun {σ Q} hv k => ?_)
    unfold kw_L_act
    intro x1 e1 x2 e2 x3 e9
    rw [e12] at e1
    rw [d12, e3] at e2
    rw [e18, h] at e9
    subst e1 e2 e9
    exact kb_ne (by decide) (kb_ne (by decide) (kb_ne (by decide) (kb_ne (by decide) (kb_eq rfl (k σ hv)))))
  · refine dt_via rfl (dt_end A (nI (y % 12))) (fun {σ Q} hv k => ?_)
    unfold kw_L_act
    intro x1 e1 x2 e2 x3 e9
    rw [e12] at e1
    rw [d12, e3] at e2
    rw [e18, h] at e9
    subst e1 e2 e9
    exact kb_ne (by decide) (kb_ne (by decide) (kb_ne (by decide) (kb_ne (by decide) (kb_ne (by decide) (kb_eq rfl (k σ hv))))))
  · refine dt_via rfl (dt_join A (nI (y % 12))) (fun {σ Q} hv k => ?_)
    unfold kw_L_act
    intro x1 e1 x2 e2 x3 e9
    rw [e12] at e1
    rw [d12, e3] at e2
    rw [e18, h] at e9
    subst e1 e2 e9
    exact kb_ne (by decide) (kb_ne (by decide) (kb_ne (by decide) (kb_ne (by decide) (kb_ne (by decide) (kb_ne (by decide) (kb_eq rfl (k σ hv)))))))
  · refine dt_via rfl (dt_tells_free A ((7 : Int32) * nI x) (nI y) (nI (y % 12))) (fun {σ Q} hv k => ?_)
    unfold kw_L_act
    intro x1 e1 x2 e2 x3 e9
    rw [e12] at e1
    rw [d12, e3] at e2
    rw [e18, h] at e9
    subst e1 e2 e9
    exact kb_ne (by decide) (kb_ne (by decide) (kb_ne (by decide) (kb_ne (by decide) (kb_ne (by decide) (kb_ne (by decide) (kb_ne (by decide) (kb_eq rfl (k σ hv))))))))
  · refine dt_via rfl (dt_tells_free A ((7 : Int32) * nI x) (nI y) (nI (y % 12))) (fun {σ Q} hv k => ?_)
    unfold kw_L_act
    intro x1 e1 x2 e2 x3 e9
    rw [e12] at e1
    rw [d12, e3] at e2
    rw [e18, h] at e9
    subst e1 e2 e9
    exact kb_ne (by decide) (kb_ne (by decide) (kb_ne (by decide) (kb_ne (by decide) (kb_ne (by decide) (kb_ne (by decide) (kb_ne (by decide) (kb_ne (by decide) (kb_eq rfl (k σ hv)))))))))
  · refine dt_via rfl (dt_gloss A hy (nI (y % 12)) (nI (y / 12 % 3))) (fun {σ Q} hv k => ?_)
    unfold kw_L_act
    intro x1 e1 x2 e2 x3 e9
    rw [e12] at e1
    rw [d12, e3] at e2
    rw [e18, h] at e9
    subst e1 e2 e9
    exact kb_ne (by decide) (kb_ne (by decide) (kb_ne (by decide) (kb_ne (by decide) (kb_ne (by decide) (kb_ne (by decide) (kb_ne (by decide) (kb_ne (by decide) (kb_ne (by decide) (kb_eq rfl (k σ hv))))))))))
  · refine dt_via rfl (dt_gloss A hy (nI (y % 12)) (nI (y / 12 % 3))) (fun {σ Q} hv k => ?_)
    unfold kw_L_act
    intro x1 e1 x2 e2 x3 e9
    rw [e12] at e1
    rw [d12, e3] at e2
    rw [e18, h] at e9
    subst e1 e2 e9
    exact kb_ne (by decide) (kb_ne (by decide) (kb_ne (by decide) (kb_ne (by decide) (kb_ne (by decide) (kb_ne (by decide) (kb_ne (by decide) (kb_ne (by decide) (kb_ne (by decide) (kb_ne (by decide) (kb_eq rfl (k σ hv)))))))))))
  · refine dt_via rfl (dt_sets A hy) (fun {σ Q} hv k => ?_)
    unfold kw_L_act
    intro x1 e1 x2 e2 x3 e9
    rw [e12] at e1
    rw [d12, e3] at e2
    rw [e18, h] at e9
    subst e1 e2 e9
    exact kb_ne (by decide) (kb_ne (by decide) (kb_ne (by decide) (kb_ne (by decide) (kb_ne (by decide) (kb_ne (by decide) (kb_ne (by decide) (kb_ne (by decide) (kb_ne (by decide) (kb_ne (by decide) (kb_ne (by decide) (kb_eq rfl (k σ hv))))))))))))
  · refine dt_via rfl (dt_sets A hy) (fun {σ Q} hv k => ?_)
    unfold kw_L_act
    intro x1 e1 x2 e2 x3 e9
    rw [e12] at e1
    rw [d12, e3] at e2
    rw [e18, h] at e9
    subst e1 e2 e9
    exact kb_ne (by decide) (kb_ne (by decide) (kb_ne (by decide) (kb_ne (by decide) (kb_ne (by decide) (kb_ne (by decide) (kb_ne (by decide) (kb_ne (by decide) (kb_ne (by decide) (kb_ne (by decide) (kb_ne (by decide) (kb_ne (by decide) (kb_eq rfl (k σ hv)))))))))))))
  · refine dt_via rfl (dt_learn A (nI (y % 12)) (nI (y / 12 % 3))) (fun {σ Q} hv k => ?_)
    unfold kw_L_act
    intro x1 e1 x2 e2 x3 e9
    rw [e12] at e1
    rw [d12, e3] at e2
    rw [e18, h] at e9
    subst e1 e2 e9
    exact kb_ne (by decide) (kb_ne (by decide) (kb_ne (by decide) (kb_ne (by decide) (kb_ne (by decide) (kb_ne (by decide) (kb_ne (by decide) (kb_ne (by decide) (kb_ne (by decide) (kb_ne (by decide) (kb_ne (by decide) (kb_ne (by decide) (kb_ne (by decide) (kb_eq rfl (k σ hv))))))))))))))
  · refine dt_via rfl (dt_learn A (nI (y % 12)) (nI (y / 12 % 3))) (fun {σ Q} hv k => ?_)
    unfold kw_L_act
    intro x1 e1 x2 e2 x3 e9
    rw [e12] at e1
    rw [d12, e3] at e2
    rw [e18, h] at e9
    subst e1 e2 e9
    exact kb_ne (by decide) (kb_ne (by decide) (kb_ne (by decide) (kb_ne (by decide) (kb_ne (by decide) (kb_ne (by decide) (kb_ne (by decide) (kb_ne (by decide) (kb_ne (by decide) (kb_ne (by decide) (kb_ne (by decide) (kb_ne (by decide) (kb_ne (by decide) (kb_ne (by decide) (kb_eq rfl (k σ hv)))))))))))))))
  · refine dt_via rfl (dt_15 A hy) (fun {σ Q} hv k => ?_)
    unfold kw_L_act
    intro x1 e1 x2 e2 x3 e9
    rw [e12] at e1
    rw [d12, e3] at e2
    rw [e18, h] at e9
    subst e1 e2 e9
    exact kb_ne (by decide) (kb_ne (by decide) (kb_ne (by decide) (kb_ne (by decide) (kb_ne (by decide) (kb_ne (by decide) (kb_ne (by decide) (kb_ne (by decide) (kb_ne (by decide) (kb_ne (by decide) (kb_ne (by decide) (kb_ne (by decide) (kb_ne (by decide) (kb_ne (by decide) (kb_ne (by decide) (kb_eq rfl (k σ hv))))))))))))))))
  · refine dt_via rfl (dt_undo A) (fun {σ Q} hv k => ?_)
    unfold kw_L_act
    intro x1 e1 x2 e2 x3 e9
    rw [e12] at e1
    rw [d12, e3] at e2
    rw [e18, h] at e9
    subst e1 e2 e9
    exact kb_ne (by decide) (kb_ne (by decide) (kb_ne (by decide) (kb_ne (by decide) (kb_ne (by decide) (kb_ne (by decide) (kb_ne (by decide) (kb_ne (by decide) (kb_ne (by decide) (kb_ne (by decide) (kb_ne (by decide) (kb_ne (by decide) (kb_ne (by decide) (kb_ne (by decide) (kb_ne (by decide) (kb_ne (by decide) (kb_eq rfl (k σ hv)))))))))))))))))
  · refine dt_via rfl (dt_17 A hy) (fun {σ Q} hv k => ?_)
    unfold kw_L_act
    intro x1 e1 x2 e2 x3 e9
    rw [e12] at e1
    rw [d12, e3] at e2
    rw [e18, h] at e9
    subst e1 e2 e9
    exact kb_ne (by decide) (kb_ne (by decide) (kb_ne (by decide) (kb_ne (by decide) (kb_ne (by decide) (kb_ne (by decide) (kb_ne (by decide) (kb_ne (by decide) (kb_ne (by decide) (kb_ne (by decide) (kb_ne (by decide) (kb_ne (by decide) (kb_ne (by decide) (kb_ne (by decide) (kb_ne (by decide) (kb_ne (by decide) (kb_ne (by decide) (k σ hv)))))))))))))))))
