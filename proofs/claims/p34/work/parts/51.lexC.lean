/-! ===== the class's lexicon and rows of words, written ===== -/
def mt_pos (M : ma_P) (l : List Nat) : Nat → Nat
  | 0 => 0
  | k + 1 => if ma_C (mp_A M k) ≤ ma_C l then k + 1 else mt_pos M l k
theorem mt_pos_le (M : ma_P) (l : List Nat) : ∀ k, mt_pos M l k ≤ k := by
  intro k
  induction k with
  | zero => exact Nat.le_refl _
  | succ k ih =>
    unfold mt_pos
    by_cases q : ma_C (mp_A M k) ≤ ma_C l
    · rw [if_pos q]; exact Nat.le_refl _
    · rw [if_neg q]; exact Nat.le_succ_of_le ih
def mf_ins (f : Nat → List Nat) (n : Nat) (x : List Nat) (e : Nat) : List Nat := if e < n then f e else if e = n then x else f (e - 1)
def mp_learn (M : ma_P) (l g : List Nat) : ma_P := if mq_find M l < mp_L M then (M.1, M.2.1, (mp_A M, fun e => if e = mq_find M l then g else mp_B M e))
  else (((mp_N M, mp_L M + 1), M.1.2), M.2.1, (mf_ins (mp_A M) (mt_pos M l (mp_L M)) l, mf_ins (mp_B M) (mt_pos M l (mp_L M)) g))
theorem mp_learn_ok {M : ma_P} {l g : List Nat} (ok : mp_ok M) (hl : ma_p l) (hg : ma_g g) (hn : g ≠ []) (hc : mp_L M < 16 ∨ mq_find M l < mp_L M) : mp_ok (mp_learn M l g) := by
  unfold mp_learn
  by_cases q : mq_find M l < mp_L M
  · rw [if_pos q]
    refine ⟨ok.1, ok.2.1, ok.2.2.1, ok.2.2.2.1, ok.2.2.2.2.1, ok.2.2.2.2.2.1, fun e he => ?_⟩
    have h := ok.2.2.2.2.2.2 e he
    show ma_p (mp_A M e) ∧ ma_g (if e = mq_find M l then g else mp_B M e) ∧ (if e = mq_find M l then g else mp_B M e) ≠ []
    by_cases q2 : e = mq_find M l
    · rw [if_pos q2]; exact ⟨h.1, hg, hn⟩
    · rw [if_neg q2]; exact h
  · rw [if_neg q]
    refine ⟨ok.1, (by show mp_L M + 1 ≤ 16; omega), ok.2.2.1, ok.2.2.2.1, ok.2.2.2.2.1, ok.2.2.2.2.2.1, fun e he => ?_⟩
    have he' : e < mp_L M + 1 := he
    have hp := mt_pos_le M l (mp_L M)
    show ma_p (mf_ins (mp_A M) _ l e) ∧ ma_g (mf_ins (mp_B M) _ g e) ∧ mf_ins (mp_B M) _ g e ≠ []
    unfold mf_ins
    by_cases q1 : e < mt_pos M l (mp_L M)
    · rw [if_pos q1, if_pos q1]; exact ok.2.2.2.2.2.2 e (by omega)
    · rw [if_neg q1, if_neg q1]
      by_cases q2 : e = mt_pos M l (mp_L M)
      · rw [if_pos q2, if_pos q2]; exact ⟨hl, hg, hn⟩
      · rw [if_neg q2, if_neg q2]; exact ok.2.2.2.2.2.2 (e - 1) (by omega)
/-- pages whose words are the same: only the lexicon is another -/
theorem rc_P_lex {σ σ' : ka_S} {o : Nat} {M M' : ma_P} (hp : rc_P σ o M) (a : ag (xl o) σ σ') (hl : rc_Ln σ' o M' (mp_L M')) (h1 : mp_N M' = mp_N M) (h2 : M'.1.2 = M.1.2) (h3 : M'.2.1 = M.2.1) : rc_P σ' o M' := by
  have z : ∀ n, ¬ xl o (0, o, 0) n := fun n q => absurd (show 2 ≤ 0 from q.2.1) (by decide)
  have e1 : mp_W M' = mp_W M := congrArg Prod.fst h2
  have e2 : mp_S M' = mp_S M := congrArg (fun x => x.2.1) h2
  have e3 : mp_Y M' = mp_Y M := congrArg (fun x => x.2.2) h2
  have e4 : mp_D M' = mp_D M := h3
  refine ⟨⟨?_, ?_, ?_, ?_⟩, hl, fun i hi => ?_⟩
  · rw [h1]; exact (a _ _ (z 2)).1.trans hp.1.1
  · rw [e1]; exact (a _ _ (z 3)).1.trans hp.1.2.1
  · rw [e2]; exact (a _ _ (z 4)).1.trans hp.1.2.2.1
  · rw [e3]; exact (a _ _ (z 5)).1.trans hp.1.2.2.2
  · rw [e4]
    rw [h1] at hi
    exact rc_W_ag (hp.2.2 i hi) a (fun κ n h5 _ q => absurd (Nat.le_trans h5 q.2.2) (by decide))
/-- the place k is being made free: what lay from k on lies one further -/
def rc_sh (σ : ka_S) (o : Nat) (M : ma_P) (k : Nat) : Prop := σ.1 (2, o, 0) 2 = nI (mp_L M) ∧ ∀ e, (e < k → σ.2 (3, o, 0) e = lN (ma_C (mp_A M e)) ∧ σ.2 (4, o, 0) e = lN (ma_C (mp_B M e))) ∧
  (k < e → e < mp_L M + 1 → σ.2 (3, o, 0) e = lN (ma_C (mp_A M (e - 1))) ∧ σ.2 (4, o, 0) e = lN (ma_C (mp_B M (e - 1))))
theorem sp_X3_makePlaceFor_17 {σ0 : ka_S} {o : Nat} {M : ma_P} {l : List Nat} {Q : Int32 → ka_S → Prop} (ok : mp_ok M) (hl : ma_g l) (hL : mp_L M < 16)
    (h : ∀ σ, ag (xl o) σ0 σ → rc_sh σ o M (mt_pos M l (mp_L M)) → kw_X3_makePlaceFor_68 o Q σ (nI (mt_pos M l (mp_L M)))) :
    ∀ (n k : Nat) (σ : ka_S), k < n → k ≤ mp_L M → mt_pos M l k = mt_pos M l (mp_L M) → ag (xl o) σ0 σ → rc_sh σ o M k → kw_X3_makePlaceFor_17 o Q n σ (lN (ma_C l)) (nI k) := by
  intro n
  induction n with
  | zero => intro k σ h1; omega
  | succ n ih =>
    intro k σ h1 h2 h3 ha hr
    rw [kw_X3_makePlaceFor_17]
    refine ⟨fun q => ?_, fun q => ⟨?_, ?_⟩⟩
    · simp (disch := omega) only [nI_leI, nI_ltI, nI_eq, nI_add, nI_clamp, kI_in, pk_mul, pk_sub, kI_lit, kI_litL, nI_l, lN_i, lN_add, pk_lEQ, forall_eq, kI_m1, Nat.reduceAdd, Nat.reduceMul, Nat.reduceSub, Nat.reduceLT, Nat.reduceLeDiff, Nat.reduceEqDiff, Nat.reducePow, Nat.reduceMod, Nat.reduceDiv, true_implies, false_implies, and_true, true_and, not_true_eq_false, not_false_eq_true, implies_true, Nat.zero_add, Nat.add_zero] at q
      obtain rfl : k = 0 := by omega
      have e : 0 = mt_pos M l (mp_L M) := h3
      have := h σ ha (by rw [← e]; exact hr)
      rw [← e] at this
      exact this
    · simp (disch := omega) only [nI_leI, nI_ltI, nI_eq, nI_add, nI_clamp, kI_in, pk_mul, pk_sub, kI_lit, kI_litL, nI_l, lN_i, lN_add, pk_lEQ, forall_eq, kI_m1, Nat.reduceAdd, Nat.reduceMul, Nat.reduceSub, Nat.reduceLT, Nat.reduceLeDiff, Nat.reduceEqDiff, Nat.reducePow, Nat.reduceMod, Nat.reduceDiv, true_implies, false_implies, and_true, true_and, not_true_eq_false, not_false_eq_true, implies_true, Nat.zero_add, Nat.add_zero] at q
      rw [show nI k - (1 : Int32) = nI (k - 1) by rw [kI_lit, pk_sub (by omega)]]
      exact (kI_in (by omega)).mpr (by omega)
    · simp (disch := omega) only [nI_leI, nI_ltI, nI_eq, nI_add, nI_clamp, kI_in, pk_mul, pk_sub, kI_lit, kI_litL, nI_l, lN_i, lN_add, pk_lEQ, forall_eq, kI_m1, Nat.reduceAdd, Nat.reduceMul, Nat.reduceSub, Nat.reduceLT, Nat.reduceLeDiff, Nat.reduceEqDiff, Nat.reducePow, Nat.reduceMod, Nat.reduceDiv, true_implies, false_implies, and_true, true_and, not_true_eq_false, not_false_eq_true, implies_true, Nat.zero_add, Nat.add_zero] at q
      obtain ⟨k, rfl⟩ : ∃ k', k = k' + 1 := ⟨k - 1, by omega⟩
      have hA := (ok.2.2.2.2.2.2 k (by omega)).1.g
      have b1 := ma_C_lt hA
      have b2 := ma_C_lt hl
      have s1 : nI (k + 1) - (1 : Int32) = nI k := by
        rw [kI_lit, pk_sub (by omega)]; rfl
      have e3 : mt_pos M l (k + 1) = if ma_C (mp_A M k) ≤ ma_C l then k + 1 else mt_pos M l k := rfl
      rw [e3] at h3
      have hi : vp_in (nI k) 16 := (kI_in (by omega)).mpr (by omega)
      have hi1 : vp_in (nI (k + 1)) 16 := (kI_in (by omega)).mpr (by omega)
      rw [s1, nI_clamp (by omega), ((hr.2 k).1 (by omega)).1, pk_lLE (by omega) (by omega)]
      refine ⟨fun z => ?_, fun z => ⟨hi, hi1, ?_⟩⟩
      · rw [if_pos z] at h3
        have := h σ ha (by rw [← h3]; exact hr)
        rw [← h3] at this
        exact this
      · rw [if_neg z] at h3
        rw [forall_eq]
        refine ⟨hi, hi1, ?_⟩
        rw [forall_eq, forall_eq, kI_m1, nI_clamp (by omega)]
        refine ih k _ (by omega) (by omega) h3 (ag_L (ag_L ha (xl_k (by decide) (by decide))) (xl_k (by decide) (by decide))) ⟨?_, fun e => ⟨fun he => ?_, fun he1 he2 => ?_⟩⟩
        · simp only [st_I, st_L, st_I2, st_L1, Prod.mk.injEq, Nat.reduceEqDiff, false_and, and_false, true_and, and_true, and_self, if_false, if_true, reduceIte]
          exact hr.1
        · simp only [st_I, st_L, st_I2, st_L1, Prod.mk.injEq, Nat.reduceEqDiff, false_and, and_false, true_and, and_true, and_self, if_false, if_true, reduceIte]
          rw [if_neg (by omega), if_neg (by omega)]
          exact (hr.2 e).1 (by omega)
        · simp only [st_I, st_L, st_I2, st_L1, Prod.mk.injEq, Nat.reduceEqDiff, false_and, and_false, true_and, and_true, and_self, if_false, if_true, reduceIte]
          by_cases q2 : e = k + 1
          · rw [if_pos q2, if_pos q2, q2]
            exact ⟨rfl, ((hr.2 k).1 (by omega)).2⟩
          · rw [if_neg q2, if_neg q2]
            exact (hr.2 e).2 (by omega) he2
theorem sp_X3_take {σ : ka_S} {o : Nat} {M : ma_P} {l g : List Nat} {Q : ka_S → Prop} (hp : rc_P σ o M) (ok : mp_ok M) (hl : ma_g l) (hc : mp_L M < 16 ∨ mq_find M l < mp_L M)
    (h : ∀ σ', ag (xp o) σ σ' → rc_P σ' o (mp_learn M l g) → Q σ') : kw_X3_take σ o (lN (ma_C l)) (lN (ma_C g)) Q := by
  have hL := ok.2.1
  unfold kw_X3_take
  unfold mp_learn at h
  refine sp_X3_find hp ok hl ?_
  rw [mi_find_9 ok]
  refine ⟨fun z => ?_, fun z => ?_⟩
  · rw [if_neg z] at h
    have hL2 : mp_L M < 16 := by omega
    have hpl := mt_pos_le M l (mp_L M)
    unfold kw_X3_makePlaceFor
    rw [hp.2.1.1]
    refine ⟨fun _ => ?_, fun q => absurd (show nI (mp_L M) < nI 16 from nI_lt hL2 (by decide)) q⟩
    rw [forall_eq]
    refine ⟨17, sp_X3_makePlaceFor_17 (σ0 := σ) ok hl hL2 (fun σ1 a1 r1 => ?_) 17 (mp_L M) σ (by omega) (Nat.le_refl _) rfl ag_refl ⟨hp.2.1.1, fun e => ⟨fun he => hp.2.1.2 e he, fun he1 he2 => by omega⟩⟩⟩
    unfold kw_X3_makePlaceFor_68 kw_X3_take_21
    rw [forall_eq, r1.1]
    refine ⟨fun q => ?_, fun _ => ⟨(kI_in (by omega)).mpr (by omega), ?_⟩⟩
    · have := nI_pos (n := mt_pos M l (mp_L M)) (by omega)
      rw [q] at this
      exact absurd (by decide) this
    · rw [forall_eq, nI_clamp (by omega)]
      refine ⟨(kI_in (by omega)).mpr (by omega), ?_⟩
      rw [forall_eq, show (nI (mp_L M) + 1 : Int32) = nI (mp_L M + 1) from nI_1 _]
      have a2 := ag_I (k := (2, o, 0)) (j := 2) (x := nI (mp_L M + 1)) a1 (xl_k (by decide) (by decide))
      have a4 := ag_L (k := (4, o, 0)) (j := mt_pos M l (mp_L M)) (x := lN (ma_C g)) (ag_L (k := (3, o, 0)) (j := mt_pos M l (mp_L M)) (x := lN (ma_C l)) a2 (xl_k (by decide) (by decide))) (xl_k (by decide) (by decide))
      refine h _ (ag_mono a4 xl_p) (rc_P_lex hp a4 ⟨?_, fun e he => ?_⟩ rfl rfl rfl)
      · simp only [st_I, st_L, st_I2, st_L1, Prod.mk.injEq, Nat.reduceEqDiff, false_and, and_false, true_and, and_true, and_self, if_false, if_true, reduceIte]
        rfl
      · have he' : e < mp_L M + 1 := he
        simp only [st_I, st_L, st_I2, st_L1, Prod.mk.injEq, Nat.reduceEqDiff, false_and, and_false, true_and, and_true, and_self, if_false, if_true, reduceIte]
        show _ = lN (ma_C (mf_ins (mp_A M) _ l e)) ∧ _ = lN (ma_C (mf_ins (mp_B M) _ g e))
        unfold mf_ins
        by_cases q2 : e = mt_pos M l (mp_L M)
        · rw [if_pos q2, if_pos q2, if_neg (by omega), if_pos q2, if_neg (by omega), if_pos q2]
          exact ⟨rfl, rfl⟩
        · by_cases q3 : e < mt_pos M l (mp_L M)
          · simp only [if_neg q2, if_pos q3]
            exact (r1.2 e).1 q3
          · simp only [if_neg q2, if_neg q3]
            exact (r1.2 e).2 (by omega) he'
  · have z3 : mq_find M l < mp_L M := Decidable.not_not.mp z
    rw [if_pos z3] at h
    unfold kw_X3_take_21
    rw [mi_find_in z3]
    refine ⟨fun q => ?_, fun _ => ⟨(kI_in (by omega)).mpr (by omega), ?_⟩⟩
    · have := nI_pos (n := mq_find M l) (by omega)
      rw [q] at this
      exact absurd (by decide) this
    · rw [forall_eq, nI_clamp (by omega)]
      refine ⟨(kI_in (by omega)).mpr (by omega), ?_⟩
      rw [forall_eq]
      have a4 := ag_L (k := (4, o, 0)) (j := mq_find M l) (x := lN (ma_C g)) (ag_L (k := (3, o, 0)) (j := mq_find M l) (x := lN (ma_C l)) (ag_refl (X := xl o) (σ := σ)) (xl_k (by decide) (by decide))) (xl_k (by decide) (by decide))
      refine h _ (ag_mono a4 xl_p) (rc_P_lex hp a4 ⟨?_, fun e he => ?_⟩ rfl rfl rfl)
      · simp only [st_I, st_L, st_I2, st_L1, Prod.mk.injEq, Nat.reduceEqDiff, false_and, and_false, true_and, and_true, and_self, if_false, if_true, reduceIte]
        exact hp.2.1.1
      · simp only [st_I, st_L, st_I2, st_L1, Prod.mk.injEq, Nat.reduceEqDiff, false_and, and_false, true_and, and_true, and_self, if_false, if_true, reduceIte]
        show _ ∧ _ = lN (ma_C (if e = mq_find M l then g else mp_B M e))
        by_cases q2 : e = mq_find M l
        · rw [if_pos q2, if_pos q2, if_pos q2]
          refine ⟨?_, rfl⟩
          show _ = lN (ma_C (mp_A M e))
          rw [q2, mq_find_at z3]
        · rw [if_neg q2, if_neg q2, if_neg q2]
          exact hp.2.1.2 e he
