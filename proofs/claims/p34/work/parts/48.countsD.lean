/-! ===== the class's page, read (nested) ===== -/
theorem sp_X4_countDiffering_14 {σ : ka_S} {o i acc : Nat} {M : ma_P} {K : ka_S → Int32 → Int32 → Prop} {Q : Int32 → ka_S → Prop} (hp : rc_P σ o M) (ok : mp_ok M) (hi : i < mp_N M) (h : K σ (nI (acc + mt_diffW M i)) (nI (i + 1))) :
    ∀ (n k : Nat), k ≤ mw_S (mp_D M i) → mw_S (mp_D M i) < k + n → kw_X4_countDiffering_14 o K Q n σ (nI (acc + ma_sum (mf_diff M i) k)) (nI i) (nI k) := by
  intro n
  induction n with
  | zero => intro k h1 h2; omega
  | succ n ih =>
    intro k h1 h2
    have hN := ok.1
    have hL := ok.2.1
    have hS := (ok.2.2.2.2.2.1 i hi).1
    have hii : vp_in (nI i) 12 := (kI_in (by omega)).mpr (by omega)
    rw [kw_X4_countDiffering_14]
    refine ⟨hii, ?_⟩
    rw [nI_clamp (by omega), (hp.2.2 i hi).1.1]
    refine ⟨fun q => ?_, fun q => ⟨hii, (kI_in (by omega)).mpr ?_, ?_⟩⟩
    · simp (disch := omega) only [nI_leI, nI_ltI, nI_eq, nI_add, nI_clamp, kI_in, pk_mul, pk_sub, kI_lit, kI_litL, nI_l, lN_i, lN_add, pk_lEQ, forall_eq, kI_m1, Nat.reduceAdd, Nat.reduceMul, Nat.reduceSub, Nat.reduceLT, Nat.reduceLeDiff, Nat.reduceEqDiff, Nat.reducePow, Nat.reduceMod, Nat.reduceDiv, true_implies, false_implies, and_true, true_and, not_true_eq_false, not_false_eq_true, implies_true, Nat.zero_add, Nat.add_zero] at q
      rw [show k = mw_S (mp_D M i) by omega]
      simp (disch := omega) only [nI_leI, nI_ltI, nI_eq, nI_add, nI_clamp, kI_in, pk_mul, pk_sub, kI_lit, kI_litL, nI_l, lN_i, lN_add, pk_lEQ, forall_eq, kI_m1, Nat.reduceAdd, Nat.reduceMul, Nat.reduceSub, Nat.reduceLT, Nat.reduceLeDiff, Nat.reduceEqDiff, Nat.reducePow, Nat.reduceMod, Nat.reduceDiv, true_implies, false_implies, and_true, true_and, not_true_eq_false, not_false_eq_true, implies_true, Nat.zero_add, Nat.add_zero]
      exact h
    · simp (disch := omega) only [nI_leI, nI_ltI, nI_eq, nI_add, nI_clamp, kI_in, pk_mul, pk_sub, kI_lit, kI_litL, nI_l, lN_i, lN_add, pk_lEQ, forall_eq, kI_m1, Nat.reduceAdd, Nat.reduceMul, Nat.reduceSub, Nat.reduceLT, Nat.reduceLeDiff, Nat.reduceEqDiff, Nat.reducePow, Nat.reduceMod, Nat.reduceDiv, true_implies, false_implies, and_true, true_and, not_true_eq_false, not_false_eq_true, implies_true, Nat.zero_add, Nat.add_zero] at q
      omega
    · simp (disch := omega) only [nI_leI, nI_ltI, nI_eq, nI_add, nI_clamp, kI_in, pk_mul, pk_sub, kI_lit, kI_litL, nI_l, lN_i, lN_add, pk_lEQ, forall_eq, kI_m1, Nat.reduceAdd, Nat.reduceMul, Nat.reduceSub, Nat.reduceLT, Nat.reduceLeDiff, Nat.reduceEqDiff, Nat.reducePow, Nat.reduceMod, Nat.reduceDiv, true_implies, false_implies, and_true, true_and, not_true_eq_false, not_false_eq_true, implies_true, Nat.zero_add, Nat.add_zero] at q
      have hk : k < mw_S (mp_D M i) := by omega
      have hw := (ok.2.2.2.2.2.1 i hi).2.2.2.2.1 k hk
      have hn := ih (k + 1) (by omega) (by omega)
      have e : acc + ma_sum (mf_diff M i) (k + 1) = acc + ma_sum (mf_diff M i) k + mf_diff M i k := (Nat.add_assoc _ _ _).symm
      rw [e] at hn
      unfold mf_diff at hn
      rw [forall_eq]
      refine ⟨hii, (kI_in (by omega)).mpr (by omega), ?_⟩
      rw [nI_clamp (by omega), rc_p (hp.2.2 i hi) hk, rc_g (hp.2.2 i hi) hk]
      refine sp_X3_find hp ok hw.1.g ?_
      rw [ma_C_z hw.2.1, mi_find_9 ok]
      refine ⟨fun z => ?_, fun z => ⟨fun z2 => ?_, fun z2 => ?_⟩⟩
      · rw [if_neg (fun q => q.1 z)] at hn
        simp (disch := omega) only [nI_leI, nI_ltI, nI_eq, nI_add, nI_clamp, kI_in, pk_mul, pk_sub, kI_lit, kI_litL, nI_l, lN_i, lN_add, pk_lEQ, forall_eq, kI_m1, Nat.reduceAdd, Nat.reduceMul, Nat.reduceSub, Nat.reduceLT, Nat.reduceLeDiff, Nat.reduceEqDiff, Nat.reducePow, Nat.reduceMod, Nat.reduceDiv, true_implies, false_implies, and_true, true_and, not_true_eq_false, not_false_eq_true, implies_true, Nat.zero_add, Nat.add_zero]
        exact hn
      · rw [if_neg (fun q => z2 q.2.1)] at hn
        simp (disch := omega) only [nI_leI, nI_ltI, nI_eq, nI_add, nI_clamp, kI_in, pk_mul, pk_sub, kI_lit, kI_litL, nI_l, lN_i, lN_add, pk_lEQ, forall_eq, kI_m1, Nat.reduceAdd, Nat.reduceMul, Nat.reduceSub, Nat.reduceLT, Nat.reduceLeDiff, Nat.reduceEqDiff, Nat.reducePow, Nat.reduceMod, Nat.reduceDiv, true_implies, false_implies, and_true, true_and, not_true_eq_false, not_false_eq_true, implies_true, Nat.zero_add, Nat.add_zero]
        exact hn
      · have z3 : mq_find M (mw_P (mp_D M i) k) < mp_L M := Decidable.not_not.mp z2
        have hB := (ok.2.2.2.2.2.2 _ z3).2.1
        have b1 := ma_C_lt hB
        have b2 := ma_C_lt hw.2.1
        rw [mi_find_in z3, nI_clamp (by omega), (hp.2.1.2 _ z3).2, pk_lEQ (by omega) (by omega)]
        refine ⟨(kI_in (by omega)).mpr (by omega), fun z4 => ?_, fun z4 => ?_⟩
        · rw [if_neg (fun q => q.2.2 (ma_C_inj hB hw.2.1 z4))] at hn
          simp (disch := omega) only [nI_leI, nI_ltI, nI_eq, nI_add, nI_clamp, kI_in, pk_mul, pk_sub, kI_lit, kI_litL, nI_l, lN_i, lN_add, pk_lEQ, forall_eq, kI_m1, Nat.reduceAdd, Nat.reduceMul, Nat.reduceSub, Nat.reduceLT, Nat.reduceLeDiff, Nat.reduceEqDiff, Nat.reducePow, Nat.reduceMod, Nat.reduceDiv, true_implies, false_implies, and_true, true_and, not_true_eq_false, not_false_eq_true, implies_true, Nat.zero_add, Nat.add_zero]
          exact hn
        · rw [if_pos ⟨z, z3, fun q => z4 (by rw [q])⟩] at hn
          simp (disch := omega) only [nI_leI, nI_ltI, nI_eq, nI_add, nI_clamp, kI_in, pk_mul, pk_sub, kI_lit, kI_litL, nI_l, lN_i, lN_add, pk_lEQ, forall_eq, kI_m1, Nat.reduceAdd, Nat.reduceMul, Nat.reduceSub, Nat.reduceLT, Nat.reduceLeDiff, Nat.reduceEqDiff, Nat.reducePow, Nat.reduceMod, Nat.reduceDiv, true_implies, false_implies, and_true, true_and, not_true_eq_false, not_false_eq_true, implies_true, Nat.zero_add, Nat.add_zero]
          exact hn
theorem sp_X4_countDiffering_4 {σ : ka_S} {o : Nat} {M : ma_P} {Q : Int32 → ka_S → Prop} (hp : rc_P σ o M) (ok : mp_ok M) (h : Q (nI (mt_diff M)) σ) :
    ∀ (n k : Nat), k ≤ mp_N M → mp_N M < k + n → kw_X4_countDiffering_4 o Q n σ (nI (ma_sum (mt_diffW M) k)) (nI k) := by
  intro n
  induction n with
  | zero => intro k h1 h2; omega
  | succ n ih =>
    intro k h1 h2
    have hN := ok.1
    rw [kw_X4_countDiffering_4, hp.1.1]
    refine ⟨fun q => ?_, fun q => ?_⟩
    · simp (disch := omega) only [nI_leI, nI_ltI, nI_eq, nI_add, nI_clamp, kI_in, pk_mul, pk_sub, kI_lit, kI_litL, nI_l, lN_i, lN_add, pk_lEQ, forall_eq, kI_m1, Nat.reduceAdd, Nat.reduceMul, Nat.reduceSub, Nat.reduceLT, Nat.reduceLeDiff, Nat.reduceEqDiff, Nat.reducePow, Nat.reduceMod, Nat.reduceDiv, true_implies, false_implies, and_true, true_and, not_true_eq_false, not_false_eq_true, implies_true, Nat.zero_add, Nat.add_zero] at q
      rw [show k = mp_N M by omega]
      exact h
    · simp (disch := omega) only [nI_leI, nI_ltI, nI_eq, nI_add, nI_clamp, kI_in, pk_mul, pk_sub, kI_lit, kI_litL, nI_l, lN_i, lN_add, pk_lEQ, forall_eq, kI_m1, Nat.reduceAdd, Nat.reduceMul, Nat.reduceSub, Nat.reduceLT, Nat.reduceLeDiff, Nat.reduceEqDiff, Nat.reducePow, Nat.reduceMod, Nat.reduceDiv, true_implies, false_implies, and_true, true_and, not_true_eq_false, not_false_eq_true, implies_true, Nat.zero_add, Nat.add_zero] at q
      have hk : k < mp_N M := by omega
      exact ⟨5, sp_X4_countDiffering_14 (acc := ma_sum (mt_diffW M) k) hp ok hk (ih (k + 1) (by omega) (by omega)) 5 0 (Nat.zero_le _) (by have := (ok.2.2.2.2.2.1 k hk).1; omega)⟩
theorem sp_X4_countDiffering {σ : ka_S} {o : Nat} {M : ma_P} {Q : Int32 → ka_S → Prop} (hp : rc_P σ o M) (ok : mp_ok M) (h : Q (nI (mt_diff M)) σ) : kw_X4_countDiffering σ o Q :=
  ⟨13, sp_X4_countDiffering_4 hp ok h 13 0 (Nat.zero_le _) (by have := ok.1; omega)⟩
theorem sp_X4_countUses_17 {σ : ka_S} {o i acc : Nat} {M : ma_P} {l : List Nat} {K : ka_S → Int64 → Int32 → Int32 → Prop} {Q : Int32 → ka_S → Prop} (hp : rc_P σ o M) (ok : mp_ok M) (hl : ma_g l) (hi : i < mp_N M) (h : K σ (lN (ma_C l)) (nI (acc + mt_useW M l i)) (nI (i + 1))) :
    ∀ (n k : Nat), k ≤ mw_S (mp_D M i) → mw_S (mp_D M i) < k + n → kw_X4_countUses_17 o K Q n σ (lN (ma_C l)) (nI (acc + ma_sum (mf_use M l i) k)) (nI i) (nI k) := by
  intro n
  induction n with
  | zero => intro k h1 h2; omega
  | succ n ih =>
    intro k h1 h2
    have hN := ok.1
    have hS := (ok.2.2.2.2.2.1 i hi).1
    have hii : vp_in (nI i) 12 := (kI_in (by omega)).mpr (by omega)
    rw [kw_X4_countUses_17]
    refine ⟨hii, ?_⟩
    rw [nI_clamp (by omega), (hp.2.2 i hi).1.1]
    refine ⟨fun q => ?_, fun q => ⟨hii, (kI_in (by omega)).mpr ?_, ?_⟩⟩
    · simp (disch := omega) only [nI_leI, nI_ltI, nI_eq, nI_add, nI_clamp, kI_in, pk_mul, pk_sub, kI_lit, kI_litL, nI_l, lN_i, lN_add, pk_lEQ, forall_eq, kI_m1, Nat.reduceAdd, Nat.reduceMul, Nat.reduceSub, Nat.reduceLT, Nat.reduceLeDiff, Nat.reduceEqDiff, Nat.reducePow, Nat.reduceMod, Nat.reduceDiv, true_implies, false_implies, and_true, true_and, not_true_eq_false, not_false_eq_true, implies_true, Nat.zero_add, Nat.add_zero] at q
      rw [show k = mw_S (mp_D M i) by omega]
      simp (disch := omega) only [nI_leI, nI_ltI, nI_eq, nI_add, nI_clamp, kI_in, pk_mul, pk_sub, kI_lit, kI_litL, nI_l, lN_i, lN_add, pk_lEQ, forall_eq, kI_m1, Nat.reduceAdd, Nat.reduceMul, Nat.reduceSub, Nat.reduceLT, Nat.reduceLeDiff, Nat.reduceEqDiff, Nat.reducePow, Nat.reduceMod, Nat.reduceDiv, true_implies, false_implies, and_true, true_and, not_true_eq_false, not_false_eq_true, implies_true, Nat.zero_add, Nat.add_zero]
      exact h
    · simp (disch := omega) only [nI_leI, nI_ltI, nI_eq, nI_add, nI_clamp, kI_in, pk_mul, pk_sub, kI_lit, kI_litL, nI_l, lN_i, lN_add, pk_lEQ, forall_eq, kI_m1, Nat.reduceAdd, Nat.reduceMul, Nat.reduceSub, Nat.reduceLT, Nat.reduceLeDiff, Nat.reduceEqDiff, Nat.reducePow, Nat.reduceMod, Nat.reduceDiv, true_implies, false_implies, and_true, true_and, not_true_eq_false, not_false_eq_true, implies_true, Nat.zero_add, Nat.add_zero] at q
      omega
    · simp (disch := omega) only [nI_leI, nI_ltI, nI_eq, nI_add, nI_clamp, kI_in, pk_mul, pk_sub, kI_lit, kI_litL, nI_l, lN_i, lN_add, pk_lEQ, forall_eq, kI_m1, Nat.reduceAdd, Nat.reduceMul, Nat.reduceSub, Nat.reduceLT, Nat.reduceLeDiff, Nat.reduceEqDiff, Nat.reducePow, Nat.reduceMod, Nat.reduceDiv, true_implies, false_implies, and_true, true_and, not_true_eq_false, not_false_eq_true, implies_true, Nat.zero_add, Nat.add_zero] at q
      have hk : k < mw_S (mp_D M i) := by omega
      have hw := (ok.2.2.2.2.2.1 i hi).2.2.2.2.1 k hk
      have hn := ih (k + 1) (by omega) (by omega)
      have e : acc + ma_sum (mf_use M l i) (k + 1) = acc + ma_sum (mf_use M l i) k + mf_use M l i k := (Nat.add_assoc _ _ _).symm
      rw [e] at hn
      unfold mf_use at hn
      have b1 := ma_C_lt hw.1.g
      have b2 := ma_C_lt hl
      rw [nI_clamp (by omega), rc_p (hp.2.2 i hi) hk, pk_lEQ (by omega) (by omega)]
      refine ⟨fun z => ?_, fun z => ?_⟩
      · rw [if_pos (ma_C_inj hw.1.g hl z)] at hn
        simp (disch := omega) only [nI_leI, nI_ltI, nI_eq, nI_add, nI_clamp, kI_in, pk_mul, pk_sub, kI_lit, kI_litL, nI_l, lN_i, lN_add, pk_lEQ, forall_eq, kI_m1, Nat.reduceAdd, Nat.reduceMul, Nat.reduceSub, Nat.reduceLT, Nat.reduceLeDiff, Nat.reduceEqDiff, Nat.reducePow, Nat.reduceMod, Nat.reduceDiv, true_implies, false_implies, and_true, true_and, not_true_eq_false, not_false_eq_true, implies_true, Nat.zero_add, Nat.add_zero]
        exact hn
      · rw [if_neg (fun q => z (by rw [q]))] at hn
        simp (disch := omega) only [nI_leI, nI_ltI, nI_eq, nI_add, nI_clamp, kI_in, pk_mul, pk_sub, kI_lit, kI_litL, nI_l, lN_i, lN_add, pk_lEQ, forall_eq, kI_m1, Nat.reduceAdd, Nat.reduceMul, Nat.reduceSub, Nat.reduceLT, Nat.reduceLeDiff, Nat.reduceEqDiff, Nat.reducePow, Nat.reduceMod, Nat.reduceDiv, true_implies, false_implies, and_true, true_and, not_true_eq_false, not_false_eq_true, implies_true, Nat.zero_add, Nat.add_zero]
        exact hn
theorem sp_X4_countUses_5 {σ : ka_S} {o : Nat} {M : ma_P} {l : List Nat} {Q : Int32 → ka_S → Prop} (hp : rc_P σ o M) (ok : mp_ok M) (hl : ma_g l) (h : Q (nI (mt_use M l)) σ) :
    ∀ (n k : Nat), k ≤ mp_N M → mp_N M < k + n → kw_X4_countUses_5 o Q n σ (lN (ma_C l)) (nI (ma_sum (mt_useW M l) k)) (nI k) := by
  intro n
  induction n with
  | zero => intro k h1 h2; omega
  | succ n ih =>
    intro k h1 h2
    have hN := ok.1
    rw [kw_X4_countUses_5, hp.1.1]
    refine ⟨fun q => ?_, fun q => ?_⟩
    · simp (disch := omega) only [nI_leI, nI_ltI, nI_eq, nI_add, nI_clamp, kI_in, pk_mul, pk_sub, kI_lit, kI_litL, nI_l, lN_i, lN_add, pk_lEQ, forall_eq, kI_m1, Nat.reduceAdd, Nat.reduceMul, Nat.reduceSub, Nat.reduceLT, Nat.reduceLeDiff, Nat.reduceEqDiff, Nat.reducePow, Nat.reduceMod, Nat.reduceDiv, true_implies, false_implies, and_true, true_and, not_true_eq_false, not_false_eq_true, implies_true, Nat.zero_add, Nat.add_zero] at q
      rw [show k = mp_N M by omega]
      exact h
    · simp (disch := omega) only [nI_leI, nI_ltI, nI_eq, nI_add, nI_clamp, kI_in, pk_mul, pk_sub, kI_lit, kI_litL, nI_l, lN_i, lN_add, pk_lEQ, forall_eq, kI_m1, Nat.reduceAdd, Nat.reduceMul, Nat.reduceSub, Nat.reduceLT, Nat.reduceLeDiff, Nat.reduceEqDiff, Nat.reducePow, Nat.reduceMod, Nat.reduceDiv, true_implies, false_implies, and_true, true_and, not_true_eq_false, not_false_eq_true, implies_true, Nat.zero_add, Nat.add_zero] at q
      have hk : k < mp_N M := by omega
      exact ⟨5, sp_X4_countUses_17 (acc := ma_sum (mt_useW M l) k) hp ok hl hk (ih (k + 1) (by omega) (by omega)) 5 0 (Nat.zero_le _) (by have := (ok.2.2.2.2.2.1 k hk).1; omega)⟩
theorem sp_X4_countUses {σ : ka_S} {o : Nat} {M : ma_P} {l : List Nat} {Q : Int32 → ka_S → Prop} (hp : rc_P σ o M) (ok : mp_ok M) (hl : ma_g l) (h : Q (nI (mt_use M l)) σ) : kw_X4_countUses σ o (lN (ma_C l)) Q :=
  ⟨13, sp_X4_countUses_5 hp ok hl h 13 0 (Nat.zero_le _) (by have := ok.1; omega)⟩
theorem sp_X4_placeOfGap_15 {σ : ka_S} {o i g : Nat} {M : ma_P} {K : ka_S → Int32 → Int32 → Int32 → Prop} {Q : Int32 → ka_S → Prop} {J : Nat → Int32} (hp : rc_P σ o M) (ok : mp_ok M) (hi : i < mp_N M) (hg : g < 2 ^ 31)
    (h : ∀ c, c ≤ g → Q (J (g - c)) σ → K σ (nI g) (nI c) (nI (i + 1))) :
    ∀ (n k m c : Nat), k + m = mw_S (mp_D M i) → m < n → c ≤ g → Q (mt_gapW (mp_D M i) i J m k (g - c)) σ → kw_X4_placeOfGap_15 o K Q n σ (nI g) (nI c) (nI i) (nI k) := by
  intro n
  induction n with
  | zero => intro k m c h1 h2; omega
  | succ n ih =>
    intro k m c h1 h2 h3 hq
    have hN := ok.1
    have hS := (ok.2.2.2.2.2.1 i hi).1
    have hii : vp_in (nI i) 12 := (kI_in (by omega)).mpr (by omega)
    rw [kw_X4_placeOfGap_15]
    refine ⟨hii, ?_⟩
    rw [nI_clamp (by omega), (hp.2.2 i hi).1.1]
    refine ⟨fun q => ?_, fun q => ⟨hii, (kI_in (by omega)).mpr ?_, ?_⟩⟩
    · simp (disch := omega) only [nI_leI, nI_ltI, nI_eq, nI_add, nI_clamp, kI_in, pk_mul, pk_sub, kI_lit, kI_litL, nI_l, lN_i, lN_add, pk_lEQ, forall_eq, kI_m1, Nat.reduceAdd, Nat.reduceMul, Nat.reduceSub, Nat.reduceLT, Nat.reduceLeDiff, Nat.reduceEqDiff, Nat.reducePow, Nat.reduceMod, Nat.reduceDiv, true_implies, false_implies, and_true, true_and, not_true_eq_false, not_false_eq_true, implies_true, Nat.zero_add, Nat.add_zero] at q
      obtain rfl : m = 0 := by omega
      simp (disch := omega) only [nI_leI, nI_ltI, nI_eq, nI_add, nI_clamp, kI_in, pk_mul, pk_sub, kI_lit, kI_litL, nI_l, lN_i, lN_add, pk_lEQ, forall_eq, kI_m1, Nat.reduceAdd, Nat.reduceMul, Nat.reduceSub, Nat.reduceLT, Nat.reduceLeDiff, Nat.reduceEqDiff, Nat.reducePow, Nat.reduceMod, Nat.reduceDiv, true_implies, false_implies, and_true, true_and, not_true_eq_false, not_false_eq_true, implies_true, Nat.zero_add, Nat.add_zero]
      exact h c h3 hq
    · simp (disch := omega) only [nI_leI, nI_ltI, nI_eq, nI_add, nI_clamp, kI_in, pk_mul, pk_sub, kI_lit, kI_litL, nI_l, lN_i, lN_add, pk_lEQ, forall_eq, kI_m1, Nat.reduceAdd, Nat.reduceMul, Nat.reduceSub, Nat.reduceLT, Nat.reduceLeDiff, Nat.reduceEqDiff, Nat.reducePow, Nat.reduceMod, Nat.reduceDiv, true_implies, false_implies, and_true, true_and, not_true_eq_false, not_false_eq_true, implies_true, Nat.zero_add, Nat.add_zero] at q
      omega
    · simp (disch := omega) only [nI_leI, nI_ltI, nI_eq, nI_add, nI_clamp, kI_in, pk_mul, pk_sub, kI_lit, kI_litL, nI_l, lN_i, lN_add, pk_lEQ, forall_eq, kI_m1, Nat.reduceAdd, Nat.reduceMul, Nat.reduceSub, Nat.reduceLT, Nat.reduceLeDiff, Nat.reduceEqDiff, Nat.reducePow, Nat.reduceMod, Nat.reduceDiv, true_implies, false_implies, and_true, true_and, not_true_eq_false, not_false_eq_true, implies_true, Nat.zero_add, Nat.add_zero] at q
      obtain ⟨m, rfl⟩ : ∃ m', m = m' + 1 := ⟨m - 1, by omega⟩
      have hk : k < mw_S (mp_D M i) := by omega
      have hw := (ok.2.2.2.2.2.1 i hi).2.2.2.2.1 k hk
      unfold mt_gapW at hq
      rw [nI_clamp (by omega), rc_g (hp.2.2 i hi) hk, ma_C_z hw.2.1]
      refine ⟨fun z => ⟨fun z2 => ?_, fun z2 => ?_⟩, fun z => ?_⟩
      · simp (disch := omega) only [nI_leI, nI_ltI, nI_eq, nI_add, nI_clamp, kI_in, pk_mul, pk_sub, kI_lit, kI_litL, nI_l, lN_i, lN_add, pk_lEQ, forall_eq, kI_m1, Nat.reduceAdd, Nat.reduceMul, Nat.reduceSub, Nat.reduceLT, Nat.reduceLeDiff, Nat.reduceEqDiff, Nat.reducePow, Nat.reduceMod, Nat.reduceDiv, true_implies, false_implies, and_true, true_and, not_true_eq_false, not_false_eq_true, implies_true, Nat.zero_add, Nat.add_zero] at z2
        rw [if_pos z, if_pos (by omega)] at hq
        simp (disch := omega) only [nI_leI, nI_ltI, nI_eq, nI_add, nI_clamp, kI_in, pk_mul, pk_sub, kI_lit, kI_litL, nI_l, lN_i, lN_add, pk_lEQ, forall_eq, kI_m1, Nat.reduceAdd, Nat.reduceMul, Nat.reduceSub, Nat.reduceLT, Nat.reduceLeDiff, Nat.reduceEqDiff, Nat.reducePow, Nat.reduceMod, Nat.reduceDiv, true_implies, false_implies, and_true, true_and, not_true_eq_false, not_false_eq_true, implies_true, Nat.zero_add, Nat.add_zero]
        exact hq
      · simp (disch := omega) only [nI_leI, nI_ltI, nI_eq, nI_add, nI_clamp, kI_in, pk_mul, pk_sub, kI_lit, kI_litL, nI_l, lN_i, lN_add, pk_lEQ, forall_eq, kI_m1, Nat.reduceAdd, Nat.reduceMul, Nat.reduceSub, Nat.reduceLT, Nat.reduceLeDiff, Nat.reduceEqDiff, Nat.reducePow, Nat.reduceMod, Nat.reduceDiv, true_implies, false_implies, and_true, true_and, not_true_eq_false, not_false_eq_true, implies_true, Nat.zero_add, Nat.add_zero] at z2
        rw [if_pos z, if_neg (by omega)] at hq
        simp (disch := omega) only [nI_leI, nI_ltI, nI_eq, nI_add, nI_clamp, kI_in, pk_mul, pk_sub, kI_lit, kI_litL, nI_l, lN_i, lN_add, pk_lEQ, forall_eq, kI_m1, Nat.reduceAdd, Nat.reduceMul, Nat.reduceSub, Nat.reduceLT, Nat.reduceLeDiff, Nat.reduceEqDiff, Nat.reducePow, Nat.reduceMod, Nat.reduceDiv, true_implies, false_implies, and_true, true_and, not_true_eq_false, not_false_eq_true, implies_true, Nat.zero_add, Nat.add_zero]
        refine ih (k + 1) m (c + 1) (by omega) (by omega) (by omega) ?_
        rw [show g - (c + 1) = g - c - 1 by omega]
        exact hq
      · rw [if_neg z] at hq
        simp (disch := omega) only [nI_leI, nI_ltI, nI_eq, nI_add, nI_clamp, kI_in, pk_mul, pk_sub, kI_lit, kI_litL, nI_l, lN_i, lN_add, pk_lEQ, forall_eq, kI_m1, Nat.reduceAdd, Nat.reduceMul, Nat.reduceSub, Nat.reduceLT, Nat.reduceLeDiff, Nat.reduceEqDiff, Nat.reducePow, Nat.reduceMod, Nat.reduceDiv, true_implies, false_implies, and_true, true_and, not_true_eq_false, not_false_eq_true, implies_true, Nat.zero_add, Nat.add_zero]
        exact ih (k + 1) m c (by omega) (by omega) h3 hq
theorem sp_X4_placeOfGap_4 {σ : ka_S} {o g : Nat} {M : ma_P} {Q : Int32 → ka_S → Prop} (hp : rc_P σ o M) (ok : mp_ok M) (hg : g < 2 ^ 31) :
    ∀ (n k m c : Nat), k + m = mp_N M → m < n → c ≤ g → Q (mt_gapP M m k (g - c)) σ → kw_X4_placeOfGap_4 o Q n σ (nI g) (nI c) (nI k) := by
  intro n
  induction n with
  | zero => intro k m c h1 h2; omega
  | succ n ih =>
    intro k m c h1 h2 h3 hq
    have hN := ok.1
    rw [kw_X4_placeOfGap_4, hp.1.1]
    refine ⟨fun q => ?_, fun q => ?_⟩
    · simp (disch := omega) only [nI_leI, nI_ltI, nI_eq, nI_add, nI_clamp, kI_in, pk_mul, pk_sub, kI_lit, kI_litL, nI_l, lN_i, lN_add, pk_lEQ, forall_eq, kI_m1, Nat.reduceAdd, Nat.reduceMul, Nat.reduceSub, Nat.reduceLT, Nat.reduceLeDiff, Nat.reduceEqDiff, Nat.reducePow, Nat.reduceMod, Nat.reduceDiv, true_implies, false_implies, and_true, true_and, not_true_eq_false, not_false_eq_true, implies_true, Nat.zero_add, Nat.add_zero] at q
      obtain rfl : m = 0 := by omega
      exact hq
    · simp (disch := omega) only [nI_leI, nI_ltI, nI_eq, nI_add, nI_clamp, kI_in, pk_mul, pk_sub, kI_lit, kI_litL, nI_l, lN_i, lN_add, pk_lEQ, forall_eq, kI_m1, Nat.reduceAdd, Nat.reduceMul, Nat.reduceSub, Nat.reduceLT, Nat.reduceLeDiff, Nat.reduceEqDiff, Nat.reducePow, Nat.reduceMod, Nat.reduceDiv, true_implies, false_implies, and_true, true_and, not_true_eq_false, not_false_eq_true, implies_true, Nat.zero_add, Nat.add_zero] at q
      obtain ⟨m, rfl⟩ : ∃ m', m = m' + 1 := ⟨m - 1, by omega⟩
      have hk : k < mp_N M := by omega
      exact ⟨5, sp_X4_placeOfGap_15 (J := fun g' => mt_gapP M m (k + 1) g') hp ok hk hg (fun c h hh => ih (k + 1) m c (by omega) (by omega) h hh) 5 0 _ c (Nat.zero_add _) (by have := (ok.2.2.2.2.2.1 k hk).1; omega) h3 hq⟩
theorem sp_X4_placeOfGap {σ : ka_S} {o g : Nat} {M : ma_P} {Q : Int32 → ka_S → Prop} (hp : rc_P σ o M) (ok : mp_ok M) (hg : g < 2 ^ 31) (h : Q (mt_gapP M (mp_N M) 0 g) σ) : kw_X4_placeOfGap σ o (nI g) Q :=
  ⟨13, sp_X4_placeOfGap_4 hp ok hg 13 0 _ 0 (Nat.zero_add _) (by have := ok.1; omega) (Nat.zero_le _) h⟩
