/-! ===== the class: an entry and a word are dropped, words are added ===== -/
def mf_cut {α : Type} (f : Nat → α) (n : Nat) (e : Nat) : α := if e < n then f e else f (e + 1)
def mp_forget (M : ma_P) (e : Nat) : ma_P := (((mp_N M, mp_L M - 1), M.1.2), M.2.1, (mf_cut (mp_A M) e, mf_cut (mp_B M) e))
theorem mp_forget_ok {M : ma_P} {e : Nat} (ok : mp_ok M) (he : e < mp_L M) : mp_ok (mp_forget M e) := by
  refine ⟨ok.1, (by show mp_L M - 1 ≤ 16; have := ok.2.1; omega), ok.2.2.1, ok.2.2.2.1, ok.2.2.2.2.1, ok.2.2.2.2.2.1, fun j hj => ?_⟩
  have hj' : j < mp_L M - 1 := hj
  show ma_p (mf_cut (mp_A M) e j) ∧ ma_g (mf_cut (mp_B M) e j) ∧ mf_cut (mp_B M) e j ≠ []
  unfold mf_cut
  by_cases q : j < e
  · rw [if_pos q, if_pos q]; exact ok.2.2.2.2.2.2 j (by omega)
  · rw [if_neg q, if_neg q]; exact ok.2.2.2.2.2.2 (j + 1) (by omega)
theorem sp_X3_drop_25 {σ0 : ka_S} {o e : Nat} {M : ma_P} {Q : ka_S → Prop} (ok : mp_ok M) (he : e < mp_L M) (h : ∀ σ, ag (xl o) σ0 σ → rc_Ln σ o (mp_forget M e) (mp_L M - 1) → Q σ) :
    ∀ (n k : Nat) (σ : ka_S), e ≤ k → k ≤ mp_L M - 1 → mp_L M - 1 < k + n → ag (xl o) σ0 σ → σ.1 (2, o, 0) 2 = nI (mp_L M - 1) →
      (∀ j, j < mp_L M → (j < k → σ.2 (3, o, 0) j = lN (ma_C (mf_cut (mp_A M) e j)) ∧ σ.2 (4, o, 0) j = lN (ma_C (mf_cut (mp_B M) e j))) ∧ (k ≤ j → σ.2 (3, o, 0) j = lN (ma_C (mp_A M j)) ∧ σ.2 (4, o, 0) j = lN (ma_C (mp_B M j)))) → kw_X3_drop_25 o Q n σ (nI k) := by
  intro n
  induction n with
  | zero => intro k σ _ h1 h2; omega
  | succ n ih =>
    intro k σ h0 h1 h2 ha hc hr
    have hL := ok.2.1
    rw [kw_X3_drop_25, hc]
    refine ⟨fun q => ?_, fun q => ?_⟩
    · simp (disch := omega) only [nI_leI, nI_ltI, nI_eq, nI_add, nI_clamp, kI_in, pk_mul, pk_sub, kI_lit, kI_litL, nI_l, lN_i, lN_add, pk_lEQ, forall_eq, kI_m1, Nat.reduceAdd, Nat.reduceMul, Nat.reduceSub, Nat.reduceLT, Nat.reduceLeDiff, Nat.reduceEqDiff, Nat.reducePow, Nat.reduceMod, Nat.reduceDiv, true_implies, false_implies, and_true, true_and, not_true_eq_false, not_false_eq_true, implies_true, Nat.zero_add, Nat.add_zero] at q
      exact h σ ha ⟨hc, fun j hj => (hr j (by omega)).1 (by omega)⟩
    · simp (disch := omega) only [nI_leI, nI_ltI, nI_eq, nI_add, nI_clamp, kI_in, pk_mul, pk_sub, kI_lit, kI_litL, nI_l, lN_i, lN_add, pk_lEQ, forall_eq, kI_m1, Nat.reduceAdd, Nat.reduceMul, Nat.reduceSub, Nat.reduceLT, Nat.reduceLeDiff, Nat.reduceEqDiff, Nat.reducePow, Nat.reduceMod, Nat.reduceDiv, true_implies, false_implies, and_true, true_and, not_true_eq_false, not_false_eq_true, implies_true, Nat.zero_add, Nat.add_zero] at q
      have hi : vp_in (nI k) 16 := (kI_in (by omega)).mpr (by omega)
      have hi1 : vp_in (nI (k + 1)) 16 := (kI_in (by omega)).mpr (by omega)
      rw [show (nI k + 1 : Int32) = nI (k + 1) from nI_1 k, nI_clamp (by omega), nI_clamp (by omega)]
      refine ⟨hi1, hi, ?_⟩
      rw [forall_eq]
      refine ⟨hi1, hi, ?_⟩
      rw [forall_eq, forall_eq]
      have s1 := (hr (k + 1) (by omega)).2 (by omega)
      refine ih (k + 1) _ (by omega) (by omega) (by omega) (ag_L (ag_L ha (xl_k (by decide) (by decide))) (xl_k (by decide) (by decide))) ?_ (fun j hj => ⟨fun hjk => ?_, fun hjk => ?_⟩)
      · simp only [st_I, st_L, st_I2, st_L1, Prod.mk.injEq, Nat.reduceEqDiff, false_and, and_false, true_and, and_true, and_self, if_false, if_true, reduceIte]
        exact hc
      · simp only [st_I, st_L, st_I2, st_L1, Prod.mk.injEq, Nat.reduceEqDiff, false_and, and_false, true_and, and_true, and_self, if_false, if_true, reduceIte]
        by_cases q2 : j = k
        · rw [if_pos q2, if_pos q2, q2]
          unfold mf_cut
          simp only [if_neg (show ¬ k < e by omega)]
          exact s1
        · rw [if_neg q2, if_neg q2]
          exact (hr j hj).1 (by omega)
      · simp only [st_I, st_L, st_I2, st_L1, Prod.mk.injEq, Nat.reduceEqDiff, false_and, and_false, true_and, and_true, and_self, if_false, if_true, reduceIte]
        rw [if_neg (by omega), if_neg (by omega)]
        exact (hr j hj).2 (by omega)
theorem sp_X3_drop {σ : ka_S} {o e : Nat} {M : ma_P} {Q : ka_S → Prop} (hp : rc_P σ o M) (ok : mp_ok M) (he : e < mp_L M) (h : ∀ σ', ag (xp o) σ σ' → rc_P σ' o (mp_forget M e) → Q σ') : kw_X3_drop σ o (nI e) Q := by
  have hL := ok.2.1
  unfold kw_X3_drop
  rw [hp.2.1.1]
  refine ⟨fun q => absurd q (nI_pos (by omega)), fun _ => ⟨fun _ => ?_, fun q => absurd (nI_lt he (by omega)) q⟩⟩
  rw [forall_eq, show nI (mp_L M) - (1 : Int32) = nI (mp_L M - 1) by rw [kI_lit, pk_sub (by omega)]]
  refine ⟨17, sp_X3_drop_25 (σ0 := σ) ok he (fun σ1 a1 r1 => h σ1 (ag_mono a1 xl_p) (rc_P_lex hp a1 r1 rfl rfl rfl)) 17 e _ (Nat.le_refl _) (by omega) (by omega) (ag_I ag_refl (xl_k (by decide) (by decide))) ?_ (fun j hj => ⟨fun hje => ?_, fun _ => ?_⟩)⟩
  · simp only [st_I, st_L, st_I2, st_L1, Prod.mk.injEq, Nat.reduceEqDiff, false_and, and_false, true_and, and_true, and_self, if_false, if_true, reduceIte]
  · simp only [st_I, st_L, st_I2, st_L1, Prod.mk.injEq, Nat.reduceEqDiff, false_and, and_false, true_and, and_true, and_self, if_false, if_true, reduceIte]
    unfold mf_cut
    simp only [if_pos hje]
    exact hp.2.1.2 j hj
  · simp only [st_I, st_L, st_I2, st_L1, Prod.mk.injEq, Nat.reduceEqDiff, false_and, and_false, true_and, and_true, and_self, if_false, if_true, reduceIte]
    exact hp.2.1.2 j hj
/-- the words from the page's word k on -/
def mp_remove (M : ma_P) (i : Nat) : ma_P := (((mp_N M - 1, mp_L M), M.1.2), mf_cut (mp_D M) i, M.2.2)
theorem mp_remove_ok {M : ma_P} {i : Nat} (ok : mp_ok M) (hi : i < mp_N M) : mp_ok (mp_remove M i) := by
  refine ⟨(by show mp_N M - 1 ≤ 12; have := ok.1; omega), ok.2.1, ok.2.2.1, ok.2.2.2.1, ok.2.2.2.2.1, fun j hj => ?_, ok.2.2.2.2.2.2⟩
  have hj' : j < mp_N M - 1 := hj
  show mw_ok (mf_cut (mp_D M) i j)
  unfold mf_cut
  by_cases q : j < i
  · rw [if_pos q]; exact ok.2.2.2.2.2.1 j (by omega)
  · rw [if_neg q]; exact ok.2.2.2.2.2.1 (j + 1) (by omega)
/-- pages with other words -/
def xq (o : Nat) (k : ka_K) (_ : Nat) : Prop := k.2.1 = o ∧ 5 ≤ k.1 ∧ k.1 ≤ 9
theorem xw_q {o i : Nat} (k : ka_K) (n : Nat) (h : xw o i k n) : xq o k n := ⟨h.1, h.2.2.1, h.2.2.2⟩
theorem rc_P_words {σ σ' : ka_S} {o : Nat} {M M' : ma_P} {X : ka_K → Nat → Prop} (hp : rc_P σ o M) (a : ag X σ σ') (hX : ∀ κ n, κ ≤ 4 → ¬ (κ = 0 ∧ n = 2) → ¬ X (κ, o, 0) n) (h0 : σ'.1 (0, o, 0) 2 = nI (mp_N M')) (hw : ∀ j, j < mp_N M' → rc_W σ' o j (mp_D M' j))
    (h1 : mp_L M' = mp_L M) (h2 : M'.1.2 = M.1.2) (h3 : M'.2.2 = M.2.2) : rc_P σ' o M' := by
  have e1 : mp_W M' = mp_W M := congrArg Prod.fst h2
  have e2 : mp_S M' = mp_S M := congrArg (fun x => x.2.1) h2
  have e3 : mp_Y M' = mp_Y M := congrArg (fun x => x.2.2) h2
  have e4 : mp_A M' = mp_A M := congrArg Prod.fst h3
  have e5 : mp_B M' = mp_B M := congrArg Prod.snd h3
  refine ⟨⟨h0, ?_, ?_, ?_⟩, ⟨?_, fun e he => ?_⟩, hw⟩
  · rw [e1]; exact (a _ _ (hX 0 3 (by decide) (by decide))).1.trans hp.1.2.1
  · rw [e2]; exact (a _ _ (hX 0 4 (by decide) (by decide))).1.trans hp.1.2.2.1
  · rw [e3]; exact (a _ _ (hX 0 5 (by decide) (by decide))).1.trans hp.1.2.2.2
  · rw [h1]; exact (a _ _ (hX 2 2 (by decide) (by decide))).1.trans hp.2.1.1
  · rw [e4, e5]
    rw [h1] at he
    exact ⟨(a _ _ (hX 3 e (by decide) (fun q => absurd q.1 (by decide)))).2.trans (hp.2.1.2 e he).1, (a _ _ (hX 4 e (by decide) (fun q => absurd q.1 (by decide)))).2.trans (hp.2.1.2 e he).2⟩
theorem sp_X4_dropWord_21 {σ0 : ka_S} {o i : Nat} {M : ma_P} {Q : ka_S → Prop} (ok : mp_ok M) (hi : i < mp_N M) (h : ∀ σ, ag (xq o) σ0 σ → (∀ j, j < mp_N M - 1 → rc_W σ o j (mf_cut (mp_D M) i j)) → Q σ) (hc0 : σ0.1 (0, o, 0) 2 = nI (mp_N M - 1)) :
    ∀ (n k : Nat) (σ : ka_S), i ≤ k → k ≤ mp_N M - 1 → mp_N M - 1 < k + n → ag (xq o) σ0 σ →
      (∀ j, j < mp_N M → (j < k → rc_W σ o j (mf_cut (mp_D M) i j)) ∧ (k ≤ j → rc_W σ o j (mp_D M j))) → kw_X4_dropWord_21 o Q n σ (nI k) := by
  intro n
  induction n with
  | zero => intro k σ _ h1 h2; omega
  | succ n ih =>
    intro k σ h0 h1 h2 ha hr
    have hN := ok.1
    have hc : σ.1 (0, o, 0) 2 = nI (mp_N M - 1) := (ha _ _ (fun q => absurd (show 5 ≤ 0 from q.2.1) (by decide))).1.trans hc0
    rw [kw_X4_dropWord_21, hc]
    refine ⟨fun q => ?_, fun q => ?_⟩
    · simp (disch := omega) only [nI_leI, nI_ltI, nI_eq, nI_add, nI_clamp, kI_in, pk_mul, pk_sub, kI_lit, kI_litL, nI_l, lN_i, lN_add, pk_lEQ, forall_eq, kI_m1, Nat.reduceAdd, Nat.reduceMul, Nat.reduceSub, Nat.reduceLT, Nat.reduceLeDiff, Nat.reduceEqDiff, Nat.reducePow, Nat.reduceMod, Nat.reduceDiv, true_implies, false_implies, and_true, true_and, not_true_eq_false, not_false_eq_true, implies_true, Nat.zero_add, Nat.add_zero] at q
      exact h σ ha (fun j hj => (hr j (by omega)).1 (by omega))
    · simp (disch := omega) only [nI_leI, nI_ltI, nI_eq, nI_add, nI_clamp, kI_in, pk_mul, pk_sub, kI_lit, kI_litL, nI_l, lN_i, lN_add, pk_lEQ, forall_eq, kI_m1, Nat.reduceAdd, Nat.reduceMul, Nat.reduceSub, Nat.reduceLT, Nat.reduceLeDiff, Nat.reduceEqDiff, Nat.reducePow, Nat.reduceMod, Nat.reduceDiv, true_implies, false_implies, and_true, true_and, not_true_eq_false, not_false_eq_true, implies_true, Nat.zero_add, Nat.add_zero] at q
      have hi0 : vp_in (nI k) 12 := (kI_in (by omega)).mpr (by omega)
      have hi1 : vp_in (nI (k + 1)) 12 := (kI_in (by omega)).mpr (by omega)
      rw [show (nI k + 1 : Int32) = nI (k + 1) from nI_1 k, nI_clamp (by omega), nI_clamp (by omega)]
      refine ⟨hi0, hi1, ?_⟩
      refine sp_X7_copyFrom (fun q => absurd q.2 (by omega)) ((hr (k + 1) (by omega)).2 (by omega)) (ok.2.2.2.2.2.1 (k + 1) (by omega)) (fun σ1 a1 r1 => ?_)
      rw [forall_eq]
      refine ih (k + 1) σ1 (by omega) (by omega) (by omega) (ag_trans ha (ag_mono a1 xw_q)) (fun j hj => ⟨fun hjk => ?_, fun hjk => ?_⟩)
      · by_cases q2 : j = k
        · rw [q2]
          unfold mf_cut
          rw [if_neg (by omega)]
          exact r1
        · exact rc_W_ag ((hr j hj).1 (by omega)) a1 (fun κ n _ _ q => q2 q.2.1)
      · exact rc_W_ag ((hr j hj).2 (by omega)) a1 (fun κ n _ _ q => absurd (show j = k from q.2.1) (by omega))
def xn (o : Nat) (k : ka_K) (n : Nat) : Prop := k.2.1 = o ∧ ((5 ≤ k.1 ∧ k.1 ≤ 9) ∨ (k.1 = 0 ∧ n = 2))
theorem xq_n {o : Nat} (k : ka_K) (n : Nat) (h : xq o k n) : xn o k n := ⟨h.1, Or.inl h.2⟩
theorem xn_p {o : Nat} (k : ka_K) (n : Nat) (h : xn o k n) : xp o k n := ⟨h.1, by rcases h.2 with q | q <;> omega⟩
theorem xn_X {o : Nat} (κ n : Nat) (h : κ ≤ 4) (h2 : ¬ (κ = 0 ∧ n = 2)) : ¬ xn o (κ, o, 0) n := fun q => by
  rcases q.2 with q | q
  · have : 5 ≤ κ := q.1
    omega
  · exact h2 q
theorem sp_X4_dropWord {σ : ka_S} {o i : Nat} {M : ma_P} {Q : ka_S → Prop} (hp : rc_P σ o M) (ok : mp_ok M) (hi : i < mp_N M) (h : ∀ σ', ag (xp o) σ σ' → rc_P σ' o (mp_remove M i) → Q σ') : kw_X4_dropWord σ o (nI i) Q := by
  have hN := ok.1
  unfold kw_X4_dropWord
  refine sp_X4_hasWord hp ok (by omega) (fun _ => ⟨fun q => absurd q (by decide), fun _ => ?_⟩) (fun q => absurd hi q)
  rw [forall_eq, hp.1.1, show nI (mp_N M) - (1 : Int32) = nI (mp_N M - 1) by rw [kI_lit, pk_sub (by omega)]]
  have a0 : ag (xn o) σ (ka_wI σ (0, o, 0) 2 (nI (mp_N M - 1))) := ag_I ag_refl ⟨rfl, Or.inr ⟨rfl, rfl⟩⟩
  have c0 : (ka_wI σ (0, o, 0) 2 (nI (mp_N M - 1))).1 (0, o, 0) 2 = nI (mp_N M - 1) := by
    simp only [st_I, st_L, st_I2, st_L1, Prod.mk.injEq, Nat.reduceEqDiff, false_and, and_false, true_and, and_true, and_self, if_false, if_true, reduceIte]
  refine ⟨13, sp_X4_dropWord_21 ok hi (fun σ1 a1 r1 => ?_) c0 13 i _ (Nat.le_refl _) (by omega) (by omega) ag_refl (fun j hj => ⟨fun hjk => ?_, fun _ => ?_⟩)⟩
  · have a2 := ag_trans a0 (ag_mono a1 xq_n)
    exact h σ1 (ag_mono a2 xn_p) (rc_P_words hp a2 xn_X ((a1 _ _ (fun q => absurd (show 5 ≤ 0 from q.2.1) (by decide))).1.trans c0) r1 rfl rfl rfl)
  · unfold mf_cut
    rw [if_pos hjk]
    exact rc_W_ag (X := xz) (hp.2.2 j hj) (ag_I ag_refl rfl) (fun κ n h5 _ q => by
      have : κ = 0 := q
      omega)
  · exact rc_W_ag (X := xz) (hp.2.2 j hj) (ag_I ag_refl rfl) (fun κ n h5 _ q => by
      have : κ = 0 := q
      omega)
