/-! ===== the class's page, written ===== -/
def mp_setD (M : ma_P) (i : Nat) (w : ma_W) : ma_P := (M.1, (fun j => if j = i then w else mp_D M j), M.2.2)
theorem mp_setD_ok {M : ma_P} {i : Nat} {w : ma_W} (ok : mp_ok M) (hw : mw_ok w) : mp_ok (mp_setD M i w) := by
  refine ⟨ok.1, ok.2.1, ok.2.2.1, ok.2.2.2.1, ok.2.2.2.2.1, fun j hj => ?_, ok.2.2.2.2.2.2⟩
  show mw_ok (if j = i then w else mp_D M j)
  by_cases e : j = i
  · rw [if_pos e]; exact hw
  · rw [if_neg e]; exact ok.2.2.2.2.2.1 j hj
theorem rc_P_setD {σ σ' : ka_S} {o i : Nat} {M : ma_P} {w : ma_W} (hp : rc_P σ o M) (a : ag (xw o i) σ σ') (hw : rc_W σ' o i w) : rc_P σ' o (mp_setD M i w) := by
  have z : ∀ κ n, κ < 5 → ¬ xw o i (κ, o, 0) n := fun κ n h q => absurd (show 5 ≤ κ from q.2.2.1) (by omega)
  refine ⟨⟨(a _ _ (z 0 2 (by decide))).1.trans hp.1.1, (a _ _ (z 0 3 (by decide))).1.trans hp.1.2.1, (a _ _ (z 0 4 (by decide))).1.trans hp.1.2.2.1, (a _ _ (z 0 5 (by decide))).1.trans hp.1.2.2.2⟩,
    rc_Ln_ag hp.2.1 a (fun κ n h => z κ n (by omega)), fun j hj => ?_⟩
  show rc_W σ' o j (if j = i then w else mp_D M j)
  by_cases e : j = i
  · rw [if_pos e, e]; exact hw
  · rw [if_neg e]
    exact rc_W_ag (hp.2.2 j hj) a (fun κ n _ _ q => e q.2.1)
/-- a sentence ends, is joined; a free line -/
def mw_end (w : ma_W) : ma_W := ((mw_S w, 1, mw_F w), w.2)
def mw_join (w : ma_W) : ma_W := ((mw_S w, 0, 0), w.2)
def mw_free (w : ma_W) (n : Nat) (t : Nat → Nat) : ma_W := ((mw_S w, (if 0 < n then 1 else mw_E w), n), w.2.1, (mw_M w, t))
theorem mw_end_ok {w : ma_W} (ok : mw_ok w) : mw_ok (mw_end w) := ⟨ok.1, Nat.le_refl _, ok.2.2.1, fun _ => rfl, ok.2.2.2.2⟩
theorem mw_join_ok {w : ma_W} (ok : mw_ok w) : mw_ok (mw_join w) := ⟨ok.1, Nat.zero_le _, Nat.zero_le _, fun h => absurd h (Nat.lt_irrefl 0), ok.2.2.2.2.1, fun k hk => absurd hk (Nat.not_lt_zero k)⟩
theorem mw_free_ok {w : ma_W} {n : Nat} {t : Nat → Nat} (ok : mw_ok w) (hn : n ≤ 24) (ht : ∀ k, k < n → 32 ≤ t k ∧ t k ≤ 126) : mw_ok (mw_free w n t) := by
  refine ⟨ok.1, ?_, hn, fun h => if_pos h, ok.2.2.2.2.1, ht⟩
  show (if 0 < n then 1 else mw_E w) ≤ 1
  by_cases q : 0 < n
  · rw [if_pos q]; exact Nat.le_refl _
  · rw [if_neg q]; exact ok.2.1
theorem rc_W_end {σ : ka_S} {o i : Nat} {w : ma_W} (hw : rc_W σ o i w) : rc_W (ka_wI σ (5, o, i) 6 1) o i (mw_end w) := by
  refine ⟨⟨?_, ?_, ?_⟩, fun p hp => ?_, fun k hk => ?_⟩
  · simp only [st_I, st_L, st_I2, st_L1, Prod.mk.injEq, Nat.reduceEqDiff, false_and, and_false, true_and, and_true, and_self, if_false, if_true, reduceIte]
    exact hw.1.1
  · simp only [st_I, st_L, st_I2, st_L1, Prod.mk.injEq, Nat.reduceEqDiff, false_and, and_false, true_and, and_true, and_self, if_false, if_true, reduceIte]
    exact hw.1.2.1
  · simp only [st_I, st_L, st_I2, st_L1, Prod.mk.injEq, Nat.reduceEqDiff, false_and, and_false, true_and, and_true, and_self, if_false, if_true, reduceIte]
    rfl
  · simp only [st_I, st_L, st_I2, st_L1, Prod.mk.injEq, Nat.reduceEqDiff, false_and, and_false, true_and, and_true, and_self, if_false, if_true, reduceIte]
    exact hw.2.1 p hp
  · simp only [st_I, st_L, st_I2, st_L1, Prod.mk.injEq, Nat.reduceEqDiff, false_and, and_false, true_and, and_true, and_self, if_false, if_true, reduceIte]
    exact hw.2.2 k hk
theorem rc_W_join {σ : ka_S} {o i : Nat} {w : ma_W} (hw : rc_W σ o i w) : rc_W (ka_wI (ka_wI σ (5, o, i) 6 0) (5, o, i) 5 0) o i (mw_join w) := by
  refine ⟨⟨?_, ?_, ?_⟩, fun p hp => ?_, fun k hk => absurd hk (Nat.not_lt_zero k)⟩
  · simp only [st_I, st_L, st_I2, st_L1, Prod.mk.injEq, Nat.reduceEqDiff, false_and, and_false, true_and, and_true, and_self, if_false, if_true, reduceIte]
    exact hw.1.1
  · simp only [st_I, st_L, st_I2, st_L1, Prod.mk.injEq, Nat.reduceEqDiff, false_and, and_false, true_and, and_true, and_self, if_false, if_true, reduceIte]
    rfl
  · simp only [st_I, st_L, st_I2, st_L1, Prod.mk.injEq, Nat.reduceEqDiff, false_and, and_false, true_and, and_true, and_self, if_false, if_true, reduceIte]
    rfl
  · simp only [st_I, st_L, st_I2, st_L1, Prod.mk.injEq, Nat.reduceEqDiff, false_and, and_false, true_and, and_true, and_self, if_false, if_true, reduceIte]
    exact hw.2.1 p hp
theorem sp_X7_dropEnd {σ : ka_S} {o i : Nat} {w : ma_W} {Q : ka_S → Prop} (hw : rc_W σ o i w) (h : ∀ σ', ag (xw o i) σ σ' → rc_W σ' o i (mw_join w) → Q σ') : kw_X7_dropEnd σ o i Q := by
  unfold kw_X7_dropEnd
  rw [forall_eq, forall_eq]
  exact h _ (ag_I (ag_I ag_refl (xw_k (by decide) (by decide))) (xw_k (by decide) (by decide))) (rc_W_join hw)
def mw_turn (w : ma_W) : ma_W := if mw_E w = 0 then mw_end w else mw_join w
theorem mw_turn_ok {w : ma_W} (ok : mw_ok w) : mw_ok (mw_turn w) := by
  unfold mw_turn
  by_cases q : mw_E w = 0
  · rw [if_pos q]; exact mw_end_ok ok
  · rw [if_neg q]; exact mw_join_ok ok
theorem sp_X7_turnEnd {σ : ka_S} {o i : Nat} {w : ma_W} {Q : ka_S → Prop} (hw : rc_W σ o i w) (ok : mw_ok w) (h : ∀ σ', ag (xw o i) σ σ' → rc_W σ' o i (mw_turn w) → Q σ') : kw_X7_turnEnd σ o i Q := by
  have hE := ok.2.1
  unfold kw_X7_turnEnd
  unfold mw_turn at h
  rw [hw.1.2.2]
  refine ⟨fun q => ?_, fun q => sp_X7_dropEnd hw ?_⟩
  · simp (disch := omega) only [nI_leI, nI_ltI, nI_eq, nI_add, nI_clamp, kI_in, pk_mul, pk_sub, kI_lit, kI_litL, nI_l, lN_i, lN_add, pk_lEQ, forall_eq, kI_m1, Nat.reduceAdd, Nat.reduceMul, Nat.reduceSub, Nat.reduceLT, Nat.reduceLeDiff, Nat.reduceEqDiff, Nat.reducePow, Nat.reduceMod, Nat.reduceDiv, true_implies, false_implies, and_true, true_and, not_true_eq_false, not_false_eq_true, implies_true, Nat.zero_add, Nat.add_zero] at q
    rw [if_pos q] at h
    rw [forall_eq]
    exact h _ (ag_I ag_refl (xw_k (by decide) (by decide))) (rc_W_end hw)
  · simp (disch := omega) only [nI_leI, nI_ltI, nI_eq, nI_add, nI_clamp, kI_in, pk_mul, pk_sub, kI_lit, kI_litL, nI_l, lN_i, lN_add, pk_lEQ, forall_eq, kI_m1, Nat.reduceAdd, Nat.reduceMul, Nat.reduceSub, Nat.reduceLT, Nat.reduceLeDiff, Nat.reduceEqDiff, Nat.reducePow, Nat.reduceMod, Nat.reduceDiv, true_implies, false_implies, and_true, true_and, not_true_eq_false, not_false_eq_true, implies_true, Nat.zero_add, Nat.add_zero] at q
    rw [if_neg q] at h
    exact h
/-- the text: its length and its codes -/
def rc_T (σ : ka_S) (n : Nat) (t : Nat → Nat) : Prop := σ.1 (10, 0, 0) 1 = nI n ∧ ∀ k, k < n → σ.1 (11, 0, 0) k = nI (t k)
theorem sp_X7_takeFree_15 {σ0 : ka_S} {o i m : Nat} {t : Nat → Nat} {w : ma_W} {Q : ka_S → Prop} (hw : rc_W σ0 o i w) (ht : rc_T σ0 m t) (hm : m ≤ 24) (h : ∀ σ', ag (xw o i) σ0 σ' → rc_W σ' o i (mw_free w m t) → Q σ') :
    ∀ (n k : Nat) (σ : ka_S), k ≤ m → m < k + n → ag (xw o i) σ0 σ → (σ.1 (5, o, i) 4 = nI (mw_S w) ∧ σ.1 (5, o, i) 5 = nI m ∧ σ.1 (5, o, i) 6 = nI (mw_E w)) → (∀ κ n, 6 ≤ κ → κ ≤ 8 → σ.1 (κ, o, i) n = σ0.1 (κ, o, i) n ∧ σ.2 (κ, o, i) n = σ0.2 (κ, o, i) n) →
      (∀ j, j < k → σ.1 (9, o, i) j = nI (t j)) → kw_X7_takeFree_15 o i Q n σ (nI k) := by
  intro n
  induction n with
  | zero => intro k σ h1 h2; omega
  | succ n ih =>
    intro k σ h1 h2 ha hf hr hc
    rw [kw_X7_takeFree_15, hf.2.1]
    refine ⟨fun q => ?_, fun q => ⟨(kI_in (by omega)).mpr ?_, (kI_in (by omega)).mpr ?_, ?_⟩⟩
    · simp (disch := omega) only [nI_leI, nI_ltI, nI_eq, nI_add, nI_clamp, kI_in, pk_mul, pk_sub, kI_lit, kI_litL, nI_l, lN_i, lN_add, pk_lEQ, forall_eq, kI_m1, Nat.reduceAdd, Nat.reduceMul, Nat.reduceSub, Nat.reduceLT, Nat.reduceLeDiff, Nat.reduceEqDiff, Nat.reducePow, Nat.reduceMod, Nat.reduceDiv, true_implies, false_implies, and_true, true_and, not_true_eq_false, not_false_eq_true, implies_true, Nat.zero_add, Nat.add_zero] at q
      obtain rfl : k = m := by omega
      refine ⟨fun q2 => ?_, fun q2 => ?_⟩
      · simp (disch := omega) only [nI_leI, nI_ltI, nI_eq, nI_add, nI_clamp, kI_in, pk_mul, pk_sub, kI_lit, kI_litL, nI_l, lN_i, lN_add, pk_lEQ, forall_eq, kI_m1, Nat.reduceAdd, Nat.reduceMul, Nat.reduceSub, Nat.reduceLT, Nat.reduceLeDiff, Nat.reduceEqDiff, Nat.reducePow, Nat.reduceMod, Nat.reduceDiv, true_implies, false_implies, and_true, true_and, not_true_eq_false, not_false_eq_true, implies_true, Nat.zero_add, Nat.add_zero] at q2
        refine h σ ha ⟨⟨hf.1, hf.2.1, ?_⟩, fun p hp => ⟨?_, ?_, ?_⟩, hc⟩
        · show _ = nI (if 0 < k then 1 else mw_E w)
          rw [if_neg (by omega)]
          exact hf.2.2
        · exact (hr 6 p (by decide) (by decide)).2.trans (hw.2.1 p hp).1
        · exact (hr 7 p (by decide) (by decide)).2.trans (hw.2.1 p hp).2.1
        · exact (hr 8 p (by decide) (by decide)).1.trans (hw.2.1 p hp).2.2
      · simp (disch := omega) only [nI_leI, nI_ltI, nI_eq, nI_add, nI_clamp, kI_in, pk_mul, pk_sub, kI_lit, kI_litL, nI_l, lN_i, lN_add, pk_lEQ, forall_eq, kI_m1, Nat.reduceAdd, Nat.reduceMul, Nat.reduceSub, Nat.reduceLT, Nat.reduceLeDiff, Nat.reduceEqDiff, Nat.reducePow, Nat.reduceMod, Nat.reduceDiv, true_implies, false_implies, and_true, true_and, not_true_eq_false, not_false_eq_true, implies_true, Nat.zero_add, Nat.add_zero] at q2
        rw [forall_eq]
        refine h _ (ag_I ha (xw_k (by decide) (by decide))) ⟨⟨?_, ?_, ?_⟩, fun p hp => ?_, fun j hj => ?_⟩
        · simp only [st_I, st_L, st_I2, st_L1, Prod.mk.injEq, Nat.reduceEqDiff, false_and, and_false, true_and, and_true, and_self, if_false, if_true, reduceIte]
          exact hf.1
        · simp only [st_I, st_L, st_I2, st_L1, Prod.mk.injEq, Nat.reduceEqDiff, false_and, and_false, true_and, and_true, and_self, if_false, if_true, reduceIte]
          exact hf.2.1
        · simp only [st_I, st_L, st_I2, st_L1, Prod.mk.injEq, Nat.reduceEqDiff, false_and, and_false, true_and, and_true, and_self, if_false, if_true, reduceIte]
          show _ = nI (if 0 < k then 1 else mw_E w)
          rw [if_pos (by omega)]
          rfl
        · simp only [st_I, st_L, st_I2, st_L1, Prod.mk.injEq, Nat.reduceEqDiff, false_and, and_false, true_and, and_true, and_self, if_false, if_true, reduceIte]
          exact ⟨(hr 6 p (by decide) (by decide)).2.trans (hw.2.1 p hp).1, (hr 7 p (by decide) (by decide)).2.trans (hw.2.1 p hp).2.1, (hr 8 p (by decide) (by decide)).1.trans (hw.2.1 p hp).2.2⟩
        · simp only [st_I, st_L, st_I2, st_L1, Prod.mk.injEq, Nat.reduceEqDiff, false_and, and_false, true_and, and_true, and_self, if_false, if_true, reduceIte]
          exact hc j hj
    · simp (disch := omega) only [nI_leI, nI_ltI, nI_eq, nI_add, nI_clamp, kI_in, pk_mul, pk_sub, kI_lit, kI_litL, nI_l, lN_i, lN_add, pk_lEQ, forall_eq, kI_m1, Nat.reduceAdd, Nat.reduceMul, Nat.reduceSub, Nat.reduceLT, Nat.reduceLeDiff, Nat.reduceEqDiff, Nat.reducePow, Nat.reduceMod, Nat.reduceDiv, true_implies, false_implies, and_true, true_and, not_true_eq_false, not_false_eq_true, implies_true, Nat.zero_add, Nat.add_zero] at q; omega
    · simp (disch := omega) only [nI_leI, nI_ltI, nI_eq, nI_add, nI_clamp, kI_in, pk_mul, pk_sub, kI_lit, kI_litL, nI_l, lN_i, lN_add, pk_lEQ, forall_eq, kI_m1, Nat.reduceAdd, Nat.reduceMul, Nat.reduceSub, Nat.reduceLT, Nat.reduceLeDiff, Nat.reduceEqDiff, Nat.reducePow, Nat.reduceMod, Nat.reduceDiv, true_implies, false_implies, and_true, true_and, not_true_eq_false, not_false_eq_true, implies_true, Nat.zero_add, Nat.add_zero] at q; omega
    · simp (disch := omega) only [nI_leI, nI_ltI, nI_eq, nI_add, nI_clamp, kI_in, pk_mul, pk_sub, kI_lit, kI_litL, nI_l, lN_i, lN_add, pk_lEQ, forall_eq, kI_m1, Nat.reduceAdd, Nat.reduceMul, Nat.reduceSub, Nat.reduceLT, Nat.reduceLeDiff, Nat.reduceEqDiff, Nat.reducePow, Nat.reduceMod, Nat.reduceDiv, true_implies, false_implies, and_true, true_and, not_true_eq_false, not_false_eq_true, implies_true, Nat.zero_add, Nat.add_zero] at q
      have e : σ.1 (11, 0, 0) k = nI (t k) := (ha _ _ (fun q => absurd (show 11 ≤ 9 from q.2.2.2) (by decide))).1.trans (ht.2 k (by omega))
      simp (disch := omega) only [nI_leI, nI_ltI, nI_eq, nI_add, nI_clamp, kI_in, pk_mul, pk_sub, kI_lit, kI_litL, nI_l, lN_i, lN_add, pk_lEQ, forall_eq, kI_m1, Nat.reduceAdd, Nat.reduceMul, Nat.reduceSub, Nat.reduceLT, Nat.reduceLeDiff, Nat.reduceEqDiff, Nat.reducePow, Nat.reduceMod, Nat.reduceDiv, true_implies, false_implies, and_true, true_and, not_true_eq_false, not_false_eq_true, implies_true, Nat.zero_add, Nat.add_zero]
      rw [e]
      refine ih (k + 1) _ (by omega) (by omega) (ag_I ha (xw_k (by decide) (by decide))) ⟨?_, ?_, ?_⟩ (fun κ n h6 h8 => ?_) (fun j hj => ?_)
      · simp only [st_I, st_L, st_I2, st_L1, Prod.mk.injEq, Nat.reduceEqDiff, false_and, and_false, true_and, and_true, and_self, if_false, if_true, reduceIte]
        exact hf.1
      · simp only [st_I, st_L, st_I2, st_L1, Prod.mk.injEq, Nat.reduceEqDiff, false_and, and_false, true_and, and_true, and_self, if_false, if_true, reduceIte]
        exact hf.2.1
      · simp only [st_I, st_L, st_I2, st_L1, Prod.mk.injEq, Nat.reduceEqDiff, false_and, and_false, true_and, and_true, and_self, if_false, if_true, reduceIte]
        exact hf.2.2
      · rw [st_I, st_I2, if_neg (fun q => by
          have := congrArg Prod.fst q.1
          simp only at this
          omega)]
        exact hr κ n h6 h8
      · simp only [st_I, st_L, st_I2, st_L1, Prod.mk.injEq, Nat.reduceEqDiff, false_and, and_false, true_and, and_true, and_self, if_false, if_true, reduceIte]
        by_cases q2 : j = k
        · rw [if_pos q2, q2]
        · rw [if_neg q2]
          exact hc j (by omega)
theorem sp_X7_takeFree {σ : ka_S} {o i m : Nat} {t : Nat → Nat} {w : ma_W} {Q : ka_S → Prop} (hw : rc_W σ o i w) (ht : rc_T σ m t) (hm : m ≤ 24) (h : ∀ σ', ag (xw o i) σ σ' → rc_W σ' o i (mw_free w m t) → Q σ') : kw_X7_takeFree σ o i Q := by
  unfold kw_X7_takeFree
  rw [forall_eq, ht.1, if_neg (by simp (disch := omega) only [nI_leI, nI_ltI, nI_eq, nI_add, nI_clamp, kI_in, pk_mul, pk_sub, kI_lit, kI_litL, nI_l, lN_i, lN_add, pk_lEQ, forall_eq, kI_m1, Nat.reduceAdd, Nat.reduceMul, Nat.reduceSub, Nat.reduceLT, Nat.reduceLeDiff, Nat.reduceEqDiff, Nat.reducePow, Nat.reduceMod, Nat.reduceDiv, true_implies, false_implies, and_true, true_and, not_true_eq_false, not_false_eq_true, implies_true, Nat.zero_add, Nat.add_zero]; omega)]
  refine ⟨25, sp_X7_takeFree_15 hw ht hm h 25 0 _ (Nat.zero_le _) (by omega) (ag_I ag_refl (xw_k (by decide) (by decide))) ⟨?_, ?_, ?_⟩ (fun κ n h6 h8 => ?_) (fun j hj => absurd hj (Nat.not_lt_zero j))⟩
  · simp only [st_I, st_L, st_I2, st_L1, Prod.mk.injEq, Nat.reduceEqDiff, false_and, and_false, true_and, and_true, and_self, if_false, if_true, reduceIte]
    exact hw.1.1
  · simp only [st_I, st_L, st_I2, st_L1, Prod.mk.injEq, Nat.reduceEqDiff, false_and, and_false, true_and, and_true, and_self, if_false, if_true, reduceIte]
  · simp only [st_I, st_L, st_I2, st_L1, Prod.mk.injEq, Nat.reduceEqDiff, false_and, and_false, true_and, and_true, and_self, if_false, if_true, reduceIte]
    exact hw.1.2.2
  · rw [st_I, st_I2, if_neg (fun q => by
      have := congrArg Prod.fst q.1
      simp only at this
      omega)]
    exact ⟨rfl, rfl⟩
/-! the gaps filled -/
def mu_fill (s : ma_P × Nat) (i p : Nat) : ma_P × Nat := if mw_G (mp_D s.1 i) p = [] ∧ mq_find s.1 (mw_P (mp_D s.1 i) p) < mp_L s.1 then (mp_setG s.1 i p (mp_B s.1 (mq_find s.1 (mw_P (mp_D s.1 i) p))), s.2 + 1) else s
def mt_fillW (i : Nat) : Nat → Nat → ma_P × Nat → ma_P × Nat
  | 0, _, s => s
  | n + 1, p, s => mt_fillW i n (p + 1) (mu_fill s i p)
def mt_fillP : Nat → Nat → ma_P × Nat → ma_P × Nat
  | 0, _, s => s
  | n + 1, i, s => mt_fillP n (i + 1) (mt_fillW i (mw_S (mp_D s.1 i)) 0 s)
def mt_fill (M : ma_P) : ma_P × Nat := mt_fillP (mp_N M) 0 (M, 0)
theorem mu_fill_N (s : ma_P × Nat) (i p : Nat) : mp_N (mu_fill s i p).1 = mp_N s.1 := by
  unfold mu_fill
  by_cases q : mw_G (mp_D s.1 i) p = [] ∧ mq_find s.1 (mw_P (mp_D s.1 i) p) < mp_L s.1
  · rw [if_pos q]; rfl
  · rw [if_neg q]
theorem mu_fill_S (s : ma_P × Nat) (i p j : Nat) : mw_S (mp_D (mu_fill s i p).1 j) = mw_S (mp_D s.1 j) := by
  unfold mu_fill
  by_cases q : mw_G (mp_D s.1 i) p = [] ∧ mq_find s.1 (mw_P (mp_D s.1 i) p) < mp_L s.1
  · rw [if_pos q]
    show mw_S (if j = i then mw_setG (mp_D s.1 i) p _ else mp_D s.1 j) = _
    by_cases e : j = i
    · rw [if_pos e, e]; rfl
    · rw [if_neg e]
  · rw [if_neg q]
theorem mu_fill_ok {s : ma_P × Nat} {i p : Nat} (ok : mp_ok s.1) (hi : i < mp_N s.1) : mp_ok (mu_fill s i p).1 := by
  unfold mu_fill
  by_cases q : mw_G (mp_D s.1 i) p = [] ∧ mq_find s.1 (mw_P (mp_D s.1 i) p) < mp_L s.1
  · rw [if_pos q]
    exact mp_setG_ok ok hi (ok.2.2.2.2.2.2 _ q.2).2.1
  · rw [if_neg q]; exact ok
theorem sp_X4_fill_14 {σ0 : ka_S} {o i N : Nat} {K : ka_S → Int32 → Int32 → Prop} {Q : Int32 → ka_S → Prop} {J : ma_P × Nat → Prop} (hi : i < N)
    (h : ∀ σ (s : ma_P × Nat), ag (xp o) σ0 σ → rc_P σ o s.1 → mp_ok s.1 → mp_N s.1 = N → J s → K σ (nI s.2) (nI (i + 1))) :
    ∀ (n k m : Nat) (s : ma_P × Nat) (σ : ka_S), k + m = mw_S (mp_D s.1 i) → m < n → ag (xp o) σ0 σ → rc_P σ o s.1 → mp_ok s.1 → mp_N s.1 = N → J (mt_fillW i m k s) → kw_X4_fill_14 o K Q n σ (nI s.2) (nI i) (nI k) := by
  intro n
  induction n with
  | zero => intro k m s σ h1 h2; omega
  | succ n ih =>
    intro k m s σ h1 h2 ha hp ok hNN hJ
    have hN := ok.1
    have hi' : i < mp_N s.1 := by omega
    have hS := (ok.2.2.2.2.2.1 i hi').1
    have hii : vp_in (nI i) 12 := (kI_in (by omega)).mpr (by omega)
    rw [kw_X4_fill_14]
    refine ⟨hii, ?_⟩
    rw [nI_clamp (by omega), (hp.2.2 i hi').1.1]
    refine ⟨fun q => ?_, fun q => ⟨hii, (kI_in (by omega)).mpr ?_, ?_⟩⟩
    · simp (disch := omega) only [nI_leI, nI_ltI, nI_eq, nI_add, nI_clamp, kI_in, pk_mul, pk_sub, kI_lit, kI_litL, nI_l, lN_i, lN_add, pk_lEQ, forall_eq, kI_m1, Nat.reduceAdd, Nat.reduceMul, Nat.reduceSub, Nat.reduceLT, Nat.reduceLeDiff, Nat.reduceEqDiff, Nat.reducePow, Nat.reduceMod, Nat.reduceDiv, true_implies, false_implies, and_true, true_and, not_true_eq_false, not_false_eq_true, implies_true, Nat.zero_add, Nat.add_zero] at q
      obtain rfl : m = 0 := by omega
      rw [forall_eq, show (nI i + 1 : Int32) = nI (i + 1) from nI_1 i]
      exact h σ s ha hp ok hNN hJ
    · simp (disch := omega) only [nI_leI, nI_ltI, nI_eq, nI_add, nI_clamp, kI_in, pk_mul, pk_sub, kI_lit, kI_litL, nI_l, lN_i, lN_add, pk_lEQ, forall_eq, kI_m1, Nat.reduceAdd, Nat.reduceMul, Nat.reduceSub, Nat.reduceLT, Nat.reduceLeDiff, Nat.reduceEqDiff, Nat.reducePow, Nat.reduceMod, Nat.reduceDiv, true_implies, false_implies, and_true, true_and, not_true_eq_false, not_false_eq_true, implies_true, Nat.zero_add, Nat.add_zero] at q
      omega
    · simp (disch := omega) only [nI_leI, nI_ltI, nI_eq, nI_add, nI_clamp, kI_in, pk_mul, pk_sub, kI_lit, kI_litL, nI_l, lN_i, lN_add, pk_lEQ, forall_eq, kI_m1, Nat.reduceAdd, Nat.reduceMul, Nat.reduceSub, Nat.reduceLT, Nat.reduceLeDiff, Nat.reduceEqDiff, Nat.reducePow, Nat.reduceMod, Nat.reduceDiv, true_implies, false_implies, and_true, true_and, not_true_eq_false, not_false_eq_true, implies_true, Nat.zero_add, Nat.add_zero] at q
      obtain ⟨m, rfl⟩ : ∃ m', m = m' + 1 := ⟨m - 1, by omega⟩
      have hk : k < mw_S (mp_D s.1 i) := by omega
      have hw := (ok.2.2.2.2.2.1 i hi').2.2.2.2.1 k hk
      have ok' := mu_fill_ok (p := k) ok hi'
      have e1 := mu_fill_N s i k
      have e2 := mu_fill_S s i k i
      unfold mt_fillW at hJ
      have hn := fun σ1 a1 r1 => ih (k + 1) m (mu_fill s i k) σ1 (by omega) (by omega) a1 r1 ok' (by omega) hJ
      unfold mu_fill at hn
      have hvk : vp_in (nI k) 4 := (kI_in (by omega)).mpr (by omega)
      rw [nI_clamp (by omega), rc_p (hp.2.2 i hi') hk]
      refine sp_X3_find hp ok hw.1.g ⟨hii, hvk, ?_⟩
      rw [rc_g (hp.2.2 i hi') hk, ma_C_z hw.2.1, mi_find_9 ok]
      refine ⟨fun z => ⟨fun z2 => ?_, fun z2 => ?_⟩, fun z => ?_⟩
      · rw [if_neg (fun q => z2 q.2)] at hn
        rw [forall_eq, show (nI k + 1 : Int32) = nI (k + 1) from nI_1 k]
        exact hn σ ha hp
      · have z3 : mq_find s.1 (mw_P (mp_D s.1 i) k) < mp_L s.1 := Decidable.not_not.mp z2
        have hL := ok.2.1
        rw [if_pos ⟨z, z3⟩] at hn
        rw [mi_find_in z3, nI_clamp (by omega)]
        refine ⟨hii, (kI_in (by omega)).mpr (by omega), hvk, ?_⟩
        rw [forall_eq, forall_eq, forall_eq, show (nI k + 1 : Int32) = nI (k + 1) from nI_1 k, show (nI s.2 + 1 : Int32) = nI (s.2 + 1) from nI_1 _]
        exact hn _ (ag_L ha (xp_k (by decide))) (rc_P_setG hp hi' (hp.2.1.2 _ z3).2)
      · rw [if_neg (fun q => z q.1)] at hn
        rw [forall_eq, show (nI k + 1 : Int32) = nI (k + 1) from nI_1 k]
        exact hn σ ha hp
theorem sp_X4_fill_4 {σ0 : ka_S} {o : Nat} {Q : Int32 → ka_S → Prop} :
    ∀ (n k m : Nat) (s : ma_P × Nat) (σ : ka_S), k + m = mp_N s.1 → m < n → ag (xp o) σ0 σ → rc_P σ o s.1 → mp_ok s.1 →
      (∀ σ', ag (xp o) σ0 σ' → rc_P σ' o (mt_fillP m k s).1 → mp_ok (mt_fillP m k s).1 → Q (nI (mt_fillP m k s).2) σ') → kw_X4_fill_4 o Q n σ (nI s.2) (nI k) := by
  intro n
  induction n with
  | zero => intro k m s σ h1 h2; omega
  | succ n ih =>
    intro k m s σ h1 h2 ha hp ok hJ
    have hN := ok.1
    rw [kw_X4_fill_4, hp.1.1]
    refine ⟨fun q => ?_, fun q => ?_⟩
    · simp (disch := omega) only [nI_leI, nI_ltI, nI_eq, nI_add, nI_clamp, kI_in, pk_mul, pk_sub, kI_lit, kI_litL, nI_l, lN_i, lN_add, pk_lEQ, forall_eq, kI_m1, Nat.reduceAdd, Nat.reduceMul, Nat.reduceSub, Nat.reduceLT, Nat.reduceLeDiff, Nat.reduceEqDiff, Nat.reducePow, Nat.reduceMod, Nat.reduceDiv, true_implies, false_implies, and_true, true_and, not_true_eq_false, not_false_eq_true, implies_true, Nat.zero_add, Nat.add_zero] at q
      obtain rfl : m = 0 := by omega
      exact hJ σ ha hp ok
    · simp (disch := omega) only [nI_leI, nI_ltI, nI_eq, nI_add, nI_clamp, kI_in, pk_mul, pk_sub, kI_lit, kI_litL, nI_l, lN_i, lN_add, pk_lEQ, forall_eq, kI_m1, Nat.reduceAdd, Nat.reduceMul, Nat.reduceSub, Nat.reduceLT, Nat.reduceLeDiff, Nat.reduceEqDiff, Nat.reducePow, Nat.reduceMod, Nat.reduceDiv, true_implies, false_implies, and_true, true_and, not_true_eq_false, not_false_eq_true, implies_true, Nat.zero_add, Nat.add_zero] at q
      obtain ⟨m, rfl⟩ : ∃ m', m = m' + 1 := ⟨m - 1, by omega⟩
      have hk : k < mp_N s.1 := by omega
      exact ⟨5, sp_X4_fill_14 (J := fun s' => ∀ σ', ag (xp o) σ0 σ' → rc_P σ' o (mt_fillP m (k + 1) s').1 → mp_ok (mt_fillP m (k + 1) s').1 → Q (nI (mt_fillP m (k + 1) s').2) σ') hk
        (fun σ1 s1 a1 r1 ok1 e1 h => ih (k + 1) m s1 σ1 (by omega) (by omega) a1 r1 ok1 h) 5 0 _ s σ (Nat.zero_add _) (by have := (ok.2.2.2.2.2.1 k hk).1; omega) ha hp ok rfl hJ⟩
theorem sp_X4_fill {σ : ka_S} {o : Nat} {M : ma_P} {Q : Int32 → ka_S → Prop} (hp : rc_P σ o M) (ok : mp_ok M) (h : ∀ σ', ag (xp o) σ σ' → rc_P σ' o (mt_fill M).1 → mp_ok (mt_fill M).1 → Q (nI (mt_fill M).2) σ') : kw_X4_fill σ o Q :=
  ⟨13, sp_X4_fill_4 13 0 (mp_N M) (M, 0) σ (Nat.zero_add _) (by have := ok.1; omega) ag_refl hp ok h⟩
