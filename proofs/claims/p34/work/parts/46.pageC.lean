/-! ===== the class's page ===== -/
def rc_Ln (σ : ka_S) (o : Nat) (M : ma_P) (l : Nat) : Prop := σ.1 (2, o, 0) 2 = nI (mp_L M) ∧ ∀ e, e < l → σ.2 (3, o, 0) e = lN (ma_C (mp_A M e)) ∧ σ.2 (4, o, 0) e = lN (ma_C (mp_B M e))
def rc_P (σ : ka_S) (o : Nat) (M : ma_P) : Prop := (σ.1 (0, o, 0) 2 = nI (mp_N M) ∧ σ.1 (0, o, 0) 3 = nI (mp_W M) ∧ σ.1 (0, o, 0) 4 = nI (mp_S M) ∧ σ.1 (0, o, 0) 5 = nI (mp_Y M)) ∧
  rc_Ln σ o M (mp_L M) ∧ ∀ i, i < mp_N M → rc_W σ o i (mp_D M i)
def xz (k : ka_K) (_ : Nat) : Prop := k.1 = 0
def xl (o : Nat) (k : ka_K) (_ : Nat) : Prop := k.2.1 = o ∧ 2 ≤ k.1 ∧ k.1 ≤ 4
def xp (o : Nat) (k : ka_K) (_ : Nat) : Prop := k.2.1 = o ∧ k.1 ≤ 9
theorem xl_k {κ o i n : Nat} (h5 : 2 ≤ κ) (h9 : κ ≤ 4) : xl o (κ, o, i) n := ⟨rfl, h5, h9⟩
theorem xp_k {κ o i n : Nat} (h9 : κ ≤ 9) : xp o (κ, o, i) n := ⟨rfl, h9⟩
theorem xw_p {o i : Nat} (k : ka_K) (n : Nat) (h : xw o i k n) : xp o k n := ⟨h.1, h.2.2.2⟩
theorem xl_p {o : Nat} (k : ka_K) (n : Nat) (h : xl o k n) : xp o k n := ⟨h.1, Nat.le_trans h.2.2 (by decide)⟩
theorem rc_Ln_ag {X : ka_K → Nat → Prop} {σ σ' : ka_S} {o l : Nat} {M : ma_P} (h : rc_Ln σ o M l) (a : ag X σ σ') (hx : ∀ κ n, κ ≤ 4 → ¬ X (κ, o, 0) n) : rc_Ln σ' o M l :=
  ⟨(a _ _ (hx 2 2 (by decide))).1.trans h.1, fun e he => ⟨(a _ _ (hx 3 e (by decide))).2.trans (h.2 e he).1, (a _ _ (hx 4 e (by decide))).2.trans (h.2 e he).2⟩⟩
theorem rc_P_ag {X : ka_K → Nat → Prop} {σ σ' : ka_S} {o : Nat} {M : ma_P} (h : rc_P σ o M) (a : ag X σ σ') (hx : ∀ κ i n, κ ≤ 9 → ¬ X (κ, o, i) n) : rc_P σ' o M :=
  ⟨⟨(a _ _ (hx 0 0 2 (by decide))).1.trans h.1.1, (a _ _ (hx 0 0 3 (by decide))).1.trans h.1.2.1, (a _ _ (hx 0 0 4 (by decide))).1.trans h.1.2.2.1, (a _ _ (hx 0 0 5 (by decide))).1.trans h.1.2.2.2⟩,
    rc_Ln_ag h.2.1 a (fun κ n hk => hx κ 0 n (Nat.le_trans hk (by decide))), fun i hi => rc_W_ag (h.2.2 i hi) a (fun κ n _ hk => hx κ i n hk)⟩
theorem rc_P_xp {σ σ' : ka_S} {o o2 : Nat} {M : ma_P} (h : rc_P σ o2 M) (hne : o2 ≠ o) (a : ag (xp o) σ σ') : rc_P σ' o2 M := rc_P_ag h a (fun _ _ _ _ q => hne q.1)
theorem sp_X3_copyFrom_10 {σ0 : ka_S} {o o2 : Nat} {M : ma_P} {Q : ka_S → Prop} (hne : o2 ≠ o) (hl : rc_Ln σ0 o2 M (mp_L M)) (ok : mp_ok M) (h : ∀ σ', ag (xl o) σ0 σ' → rc_Ln σ' o M (mp_L M) → Q σ') :
    ∀ (n k : Nat) (σ : ka_S), k ≤ mp_L M → mp_L M < k + n → ag (xl o) σ0 σ → rc_Ln σ o M k → kw_X3_copyFrom_10 o o2 Q n σ (nI k) := by
  intro n
  induction n with
  | zero => intro k σ h1 h2; omega
  | succ n ih =>
    intro k σ h1 h2 ha hr
    have hL := ok.2.1
    have hl' := rc_Ln_ag hl ha (fun κ n _ q => hne q.1)
    rw [kw_X3_copyFrom_10, hr.1]
    refine ⟨fun q => ?_, fun q => ?_⟩
    · simp (disch := omega) only [nI_leI, nI_ltI, nI_eq, nI_add, nI_clamp, kI_in, pk_mul, pk_sub, kI_lit, kI_litL, nI_l, lN_i, lN_add, pk_lEQ, forall_eq, kI_m1, Nat.reduceAdd, Nat.reduceMul, Nat.reduceSub, Nat.reduceLT, Nat.reduceLeDiff, Nat.reduceEqDiff, Nat.reducePow, Nat.reduceMod, Nat.reduceDiv, true_implies, false_implies, and_true, true_and, not_true_eq_false, not_false_eq_true, implies_true, Nat.zero_add, Nat.add_zero] at q
      rw [show k = mp_L M by omega] at hr
      exact h σ ha hr
    · simp (disch := omega) only [nI_leI, nI_ltI, nI_eq, nI_add, nI_clamp, kI_in, pk_mul, pk_sub, kI_lit, kI_litL, nI_l, lN_i, lN_add, pk_lEQ, forall_eq, kI_m1, Nat.reduceAdd, Nat.reduceMul, Nat.reduceSub, Nat.reduceLT, Nat.reduceLeDiff, Nat.reduceEqDiff, Nat.reducePow, Nat.reduceMod, Nat.reduceDiv, true_implies, false_implies, and_true, true_and, not_true_eq_false, not_false_eq_true, implies_true, Nat.zero_add, Nat.add_zero] at q
      have hi : vp_in (nI k) 16 := (kI_in (by omega)).mpr (by omega)
      refine ⟨hi, hi, ?_⟩
      rw [forall_eq]
      refine ⟨hi, hi, ?_⟩
      simp (disch := omega) only [nI_leI, nI_ltI, nI_eq, nI_add, nI_clamp, kI_in, pk_mul, pk_sub, kI_lit, kI_litL, nI_l, lN_i, lN_add, pk_lEQ, forall_eq, kI_m1, Nat.reduceAdd, Nat.reduceMul, Nat.reduceSub, Nat.reduceLT, Nat.reduceLeDiff, Nat.reduceEqDiff, Nat.reducePow, Nat.reduceMod, Nat.reduceDiv, true_implies, false_implies, and_true, true_and, not_true_eq_false, not_false_eq_true, implies_true, Nat.zero_add, Nat.add_zero]
      refine ih (k + 1) _ (by omega) (by omega) (ag_L (ag_L ha (xl_k (by decide) (by decide))) (xl_k (by decide) (by decide))) ⟨hr.1, fun e he => ?_⟩
      by_cases q2 : e = k
      · subst q2
        simp only [st_I, st_L, st_I2, st_L1, Prod.mk.injEq, Nat.reduceEqDiff, false_and, and_false, true_and, and_true, and_self, if_false, if_true, reduceIte]
        exact hl'.2 e (by omega)
      · simp only [st_I, st_L, st_I2, st_L1, Prod.mk.injEq, Nat.reduceEqDiff, false_and, and_false, true_and, and_true, and_self, if_false, if_true, reduceIte]
        rw [if_neg q2, if_neg q2]
        exact hr.2 e (by omega)
theorem sp_X3_copyFrom {σ : ka_S} {o o2 : Nat} {M : ma_P} {Q : ka_S → Prop} (hne : o2 ≠ o) (hl : rc_Ln σ o2 M (mp_L M)) (ok : mp_ok M) (h : ∀ σ', ag (xl o) σ σ' → rc_Ln σ' o M (mp_L M) → Q σ') : kw_X3_copyFrom σ o o2 Q := by
  unfold kw_X3_copyFrom
  rw [forall_eq, hl.1]
  refine ⟨17, sp_X3_copyFrom_10 hne hl ok h 17 0 _ (Nat.zero_le _) (by have := ok.2.1; omega) (ag_I ag_refl (xl_k (by decide) (by decide))) ⟨?_, fun e he => absurd he (Nat.not_lt_zero e)⟩⟩
  simp only [st_I, st_L, st_I2, st_L1, Prod.mk.injEq, Nat.reduceEqDiff, false_and, and_false, true_and, and_true, and_self, if_false, if_true, reduceIte]
theorem sp_X4_copyFrom_10 {σ0 : ka_S} {o o2 : Nat} {M : ma_P} {Q : ka_S → Prop} (hne : o2 ≠ o) (hp : rc_P σ0 o2 M) (ok : mp_ok M) (h : ∀ σ', ag (xp o) σ0 σ' → rc_P σ' o M → Q σ') :
    ∀ (n k : Nat) (σ : ka_S), k ≤ mp_N M → mp_N M < k + n → ag (xp o) σ0 σ → σ.1 (0, o, 0) 2 = nI (mp_N M) → (∀ i, i < k → rc_W σ o i (mp_D M i)) → kw_X4_copyFrom_10 o o2 Q n σ (nI k) := by
  intro n
  induction n with
  | zero => intro k σ h1 h2; omega
  | succ n ih =>
    intro k σ h1 h2 ha hc hr
    have hN := ok.1
    have hp' := rc_P_xp hp hne ha
    rw [kw_X4_copyFrom_10, hc]
    refine ⟨fun q => ?_, fun q => ?_⟩
    · simp (disch := omega) only [nI_leI, nI_ltI, nI_eq, nI_add, nI_clamp, kI_in, pk_mul, pk_sub, kI_lit, kI_litL, nI_l, lN_i, lN_add, pk_lEQ, forall_eq, kI_m1, Nat.reduceAdd, Nat.reduceMul, Nat.reduceSub, Nat.reduceLT, Nat.reduceLeDiff, Nat.reduceEqDiff, Nat.reducePow, Nat.reduceMod, Nat.reduceDiv, true_implies, false_implies, and_true, true_and, not_true_eq_false, not_false_eq_true, implies_true, Nat.zero_add, Nat.add_zero] at q
      have hk : k = mp_N M := by omega
      subst hk
      refine sp_X3_copyFrom hne hp'.2.1 ok (fun σ1 a1 r1 => ?_)
      have hp1 := rc_P_ag hp' a1 (fun _ _ _ _ q => hne q.1)
      have n2 : (o2 = o) ↔ False := ⟨hne, fun q => q.elim⟩
      rw [forall_eq, forall_eq, forall_eq]
      refine h _ (ag_I (ag_I (ag_I (ag_trans ha (ag_mono a1 xl_p)) (xp_k (by decide))) (xp_k (by decide))) (xp_k (by decide))) ⟨⟨?_, ?_, ?_, ?_⟩, ⟨?_, fun e he => ?_⟩, fun i hi => ?_⟩
      · simp only [st_I, st_L, st_I2, st_L1, Prod.mk.injEq, Nat.reduceEqDiff, false_and, and_false, true_and, and_true, and_self, if_false, if_true, reduceIte]
        exact (a1 _ _ (fun q => absurd (show 2 ≤ 0 from q.2.1) (by decide))).1.trans hc
      · simp only [st_I, st_L, st_I2, st_L1, Prod.mk.injEq, Nat.reduceEqDiff, false_and, and_false, true_and, and_true, and_self, if_false, if_true, reduceIte]
        exact hp1.1.2.1
      · simp only [st_I, st_L, st_I2, st_L1, Prod.mk.injEq, Nat.reduceEqDiff, false_and, and_false, true_and, and_true, and_self, if_false, if_true, reduceIte, n2]
        exact hp1.1.2.2.1
      · simp only [st_I, st_L, st_I2, st_L1, Prod.mk.injEq, Nat.reduceEqDiff, false_and, and_false, true_and, and_true, and_self, if_false, if_true, reduceIte, n2]
        exact hp1.1.2.2.2
      · simp only [st_I, st_L, st_I2, st_L1, Prod.mk.injEq, Nat.reduceEqDiff, false_and, and_false, true_and, and_true, and_self, if_false, if_true, reduceIte]
        exact r1.1
      · simp only [st_I, st_L, st_I2, st_L1, Prod.mk.injEq, Nat.reduceEqDiff, false_and, and_false, true_and, and_true, and_self, if_false, if_true, reduceIte]
        exact r1.2 e he
      · have t := rc_W_ag (hr i hi) a1 (fun κ n h5 _ q => absurd (Nat.le_trans h5 q.2.2) (by decide))
        exact rc_W_ag (X := xz) t (ag_I (ag_I (ag_I ag_refl rfl) rfl) rfl) (fun κ n h5 _ q => by
          have : κ = 0 := q
          omega)
    · simp (disch := omega) only [nI_leI, nI_ltI, nI_eq, nI_add, nI_clamp, kI_in, pk_mul, pk_sub, kI_lit, kI_litL, nI_l, lN_i, lN_add, pk_lEQ, forall_eq, kI_m1, Nat.reduceAdd, Nat.reduceMul, Nat.reduceSub, Nat.reduceLT, Nat.reduceLeDiff, Nat.reduceEqDiff, Nat.reducePow, Nat.reduceMod, Nat.reduceDiv, true_implies, false_implies, and_true, true_and, not_true_eq_false, not_false_eq_true, implies_true, Nat.zero_add, Nat.add_zero] at q
      have hk : k < mp_N M := by omega
      have hi : vp_in (nI k) 12 := (kI_in (by omega)).mpr (by omega)
      refine ⟨hi, hi, ?_⟩
      rw [nI_clamp (by omega)]
      refine sp_X7_copyFrom (fun q => hne q.1) (hp'.2.2 k hk) (ok.2.2.2.2.2.1 k hk) (fun σ1 a1 r1 => ?_)
      simp (disch := omega) only [nI_leI, nI_ltI, nI_eq, nI_add, nI_clamp, kI_in, pk_mul, pk_sub, kI_lit, kI_litL, nI_l, lN_i, lN_add, pk_lEQ, forall_eq, kI_m1, Nat.reduceAdd, Nat.reduceMul, Nat.reduceSub, Nat.reduceLT, Nat.reduceLeDiff, Nat.reduceEqDiff, Nat.reducePow, Nat.reduceMod, Nat.reduceDiv, true_implies, false_implies, and_true, true_and, not_true_eq_false, not_false_eq_true, implies_true, Nat.zero_add, Nat.add_zero]
      refine ih (k + 1) σ1 (by omega) (by omega) (ag_trans ha (ag_mono a1 xw_p)) ((a1 _ _ (fun q => absurd (show 5 ≤ 0 from q.2.2.1) (by decide))).1.trans hc) (fun i hi => ?_)
      by_cases q2 : i = k
      · rw [q2]; exact r1
      · exact rc_W_ag (hr i (by omega)) a1 (fun κ n _ _ q => q2 q.2.1)
theorem sp_X4_copyFrom {σ : ka_S} {o o2 : Nat} {M : ma_P} {Q : ka_S → Prop} (hne : o2 ≠ o) (hp : rc_P σ o2 M) (ok : mp_ok M) (h : ∀ σ', ag (xp o) σ σ' → rc_P σ' o M → Q σ') : kw_X4_copyFrom σ o o2 Q := by
  unfold kw_X4_copyFrom
  rw [forall_eq, hp.1.1]
  refine ⟨13, sp_X4_copyFrom_10 hne hp ok h 13 0 _ (Nat.zero_le _) (by have := ok.1; omega) (ag_I ag_refl (xp_k (by decide))) ?_ (fun i hi => absurd hi (Nat.not_lt_zero i))⟩
  simp only [st_I, st_L, st_I2, st_L1, Prod.mk.injEq, Nat.reduceEqDiff, false_and, and_false, true_and, and_true, and_self, if_false, if_true, reduceIte]
theorem sp_X4_hasWord {σ : ka_S} {o i : Nat} {M : ma_P} {Q : Int32 → ka_S → Prop} (hp : rc_P σ o M) (ok : mp_ok M) (hi : i < 2 ^ 31) (h1 : i < mp_N M → Q 1 σ) (h0 : ¬ i < mp_N M → Q 0 σ) : kw_X4_hasWord σ o (nI i) Q := by
  have hN := ok.1
  unfold kw_X4_hasWord
  rw [hp.1.1]
  refine ⟨fun q => absurd q (nI_pos hi), fun _ => ⟨fun q => ?_, fun q => ?_⟩⟩
  · simp (disch := omega) only [nI_leI, nI_ltI, nI_eq, nI_add, nI_clamp, kI_in, pk_mul, pk_sub, kI_lit, kI_litL, nI_l, lN_i, lN_add, pk_lEQ, forall_eq, kI_m1, Nat.reduceAdd, Nat.reduceMul, Nat.reduceSub, Nat.reduceLT, Nat.reduceLeDiff, Nat.reduceEqDiff, Nat.reducePow, Nat.reduceMod, Nat.reduceDiv, true_implies, false_implies, and_true, true_and, not_true_eq_false, not_false_eq_true, implies_true, Nat.zero_add, Nat.add_zero] at q
    exact h0 (by omega)
  · simp (disch := omega) only [nI_leI, nI_ltI, nI_eq, nI_add, nI_clamp, kI_in, pk_mul, pk_sub, kI_lit, kI_litL, nI_l, lN_i, lN_add, pk_lEQ, forall_eq, kI_m1, Nat.reduceAdd, Nat.reduceMul, Nat.reduceSub, Nat.reduceLT, Nat.reduceLeDiff, Nat.reduceEqDiff, Nat.reducePow, Nat.reduceMod, Nat.reduceDiv, true_implies, false_implies, and_true, true_and, not_true_eq_false, not_false_eq_true, implies_true, Nat.zero_add, Nat.add_zero] at q
    exact h1 (by omega)
theorem sp_X4_hasWordV {σ : ka_S} {o : Nat} {v : Int32} {M : ma_P} {Q : Int32 → ka_S → Prop} (hp : rc_P σ o M) (ok : mp_ok M) (h1 : ∀ i, i < mp_N M → v = nI i → Q 1 σ) (h0 : (∀ i, i < mp_N M → v ≠ nI i) → Q 0 σ) : kw_X4_hasWord σ o v Q := by
  by_cases hv : v < 0
  · refine ⟨fun _ => h0 (fun i hi e => ?_), fun q => absurd hv q⟩
    have := ok.1
    rw [e] at hv
    exact nI_pos (by omega) hv
  · obtain ⟨i, hi, rfl⟩ := nI_of hv
    have hN := ok.1
    refine sp_X4_hasWord hp ok hi (fun q => h1 i q rfl) (fun q => h0 (fun j hj e => ?_))
    rw [nI_eq (by omega) (by omega)] at e
    omega
theorem sp_X4_hasPartV {σ : ka_S} {o : Nat} {v u : Int32} {M : ma_P} {Q : Int32 → ka_S → Prop} (hp : rc_P σ o M) (ok : mp_ok M) (h1 : ∀ i p, i < mp_N M → p < mw_S (mp_D M i) → v = nI i → u = nI p → Q 1 σ)
    (h0 : (∀ i p, i < mp_N M → p < mw_S (mp_D M i) → ¬ (v = nI i ∧ u = nI p)) → Q 0 σ) : kw_X4_hasPart σ o v u Q := by
  have hN := ok.1
  unfold kw_X4_hasPart
  refine sp_X4_hasWordV hp ok (fun i hi e => ⟨fun q => absurd q (by decide), fun _ => ?_⟩) (fun q => ⟨fun _ => h0 (fun i p hi _ e => q i hi e.1), fun q2 => absurd rfl q2⟩)
  subst e
  have hS := (ok.2.2.2.2.2.1 i hi).1
  refine ⟨fun q => h0 (fun j p hj hp' e => ?_), fun q => ⟨(kI_in (by omega)).mpr (by omega), ?_⟩⟩
  · have hS' := (ok.2.2.2.2.2.1 j hj).1
    rw [e.2] at q
    exact nI_pos (by omega) q
  · obtain ⟨p, hp', rfl⟩ := nI_of q
    rw [nI_clamp (by omega), (hp.2.2 i hi).1.1]
    refine ⟨fun q2 => ?_, fun q2 => ?_⟩
    · simp (disch := omega) only [nI_leI, nI_ltI, nI_eq, nI_add, nI_clamp, kI_in, pk_mul, pk_sub, kI_lit, kI_litL, nI_l, lN_i, lN_add, pk_lEQ, forall_eq, kI_m1, Nat.reduceAdd, Nat.reduceMul, Nat.reduceSub, Nat.reduceLT, Nat.reduceLeDiff, Nat.reduceEqDiff, Nat.reducePow, Nat.reduceMod, Nat.reduceDiv, true_implies, false_implies, and_true, true_and, not_true_eq_false, not_false_eq_true, implies_true, Nat.zero_add, Nat.add_zero] at q2
      refine h0 (fun j p' hj hp2 e => ?_)
      have hS' := (ok.2.2.2.2.2.1 j hj).1
      rw [nI_eq (by omega) (by omega), nI_eq (by omega) (by omega)] at e
      obtain ⟨e1, e2⟩ := e
      subst e1
      omega
    · simp (disch := omega) only [nI_leI, nI_ltI, nI_eq, nI_add, nI_clamp, kI_in, pk_mul, pk_sub, kI_lit, kI_litL, nI_l, lN_i, lN_add, pk_lEQ, forall_eq, kI_m1, Nat.reduceAdd, Nat.reduceMul, Nat.reduceSub, Nat.reduceLT, Nat.reduceLeDiff, Nat.reduceEqDiff, Nat.reducePow, Nat.reduceMod, Nat.reduceDiv, true_implies, false_implies, and_true, true_and, not_true_eq_false, not_false_eq_true, implies_true, Nat.zero_add, Nat.add_zero] at q2
      exact h1 i p hi (by omega) rfl rfl
