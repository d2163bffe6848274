/-! ===== what a page shows (numbers) ===== -/
def mt_find (f : Nat → List Nat) (l : List Nat) : Nat → Nat → Nat
  | 0, k => k
  | n + 1, k => if f k = l then k else mt_find f l n (k + 1)
theorem mt_find_le (f : Nat → List Nat) (l : List Nat) : ∀ (n k : Nat), k ≤ mt_find f l n k ∧ mt_find f l n k ≤ k + n := by
  intro n
  induction n with
  | zero => intro k; exact ⟨Nat.le_refl _, Nat.le_refl _⟩
  | succ n ih =>
    intro k
    unfold mt_find
    by_cases q : f k = l
    · rw [if_pos q]; omega
    · rw [if_neg q]
      have := ih (k + 1)
      omega
theorem mt_find_at {f : Nat → List Nat} {l : List Nat} : ∀ {n k : Nat}, mt_find f l n k < k + n → f (mt_find f l n k) = l := by
  intro n
  induction n with
  | zero => intro k h; exact absurd h (Nat.lt_irrefl _)
  | succ n ih =>
    intro k h
    unfold mt_find at h ⊢
    by_cases q : f k = l
    · rw [if_pos q]; exact q
    · rw [if_neg q] at h ⊢
      exact ih (by omega)
def mq_find (M : ma_P) (l : List Nat) : Nat := mt_find (mp_A M) l (mp_L M) 0
def mi_find (M : ma_P) (l : List Nat) : Int32 := if mq_find M l < mp_L M then nI (mq_find M l) else -9
theorem mq_find_at {M : ma_P} {l : List Nat} (h : mq_find M l < mp_L M) : mp_A M (mq_find M l) = l := mt_find_at (by rw [Nat.zero_add]; exact h)
def mt_parts (M : ma_P) : Nat := ma_sum (fun i => mw_S (mp_D M i)) (mp_N M)
def mt_gapsP (M : ma_P) : Nat := ma_sum (fun i => mt_gaps (mp_D M i)) (mp_N M)
def mf_sent (M : ma_P) (i : Nat) : Nat := if mw_E (mp_D M i) = 1 ∨ i + 1 = mp_N M then 1 else 0
def mt_sent (M : ma_P) : Nat := ma_sum (mf_sent M) (mp_N M)
def mf_diff (M : ma_P) (i p : Nat) : Nat := if mw_G (mp_D M i) p ≠ [] ∧ mq_find M (mw_P (mp_D M i) p) < mp_L M ∧ mp_B M (mq_find M (mw_P (mp_D M i) p)) ≠ mw_G (mp_D M i) p then 1 else 0
def mt_diffW (M : ma_P) (i : Nat) : Nat := ma_sum (mf_diff M i) (mw_S (mp_D M i))
def mt_diff (M : ma_P) : Nat := ma_sum (mt_diffW M) (mp_N M)
def mf_use (M : ma_P) (l : List Nat) (i p : Nat) : Nat := if mw_P (mp_D M i) p = l then 1 else 0
def mt_useW (M : ma_P) (l : List Nat) (i : Nat) : Nat := ma_sum (mf_use M l i) (mw_S (mp_D M i))
def mt_use (M : ma_P) (l : List Nat) : Nat := ma_sum (mt_useW M l) (mp_N M)
def mt_gapW (w : ma_W) (i : Nat) (K : Nat → Int32) : Nat → Nat → Nat → Int32
  | 0, _, g => K g
  | n + 1, p, g => if mw_G w p = [] then (if g = 0 then nI (10 * i + p) else mt_gapW w i K n (p + 1) (g - 1)) else mt_gapW w i K n (p + 1) g
def mt_gapP (M : ma_P) : Nat → Nat → Nat → Int32
  | 0, _, _ => -9
  | n + 1, i, g => mt_gapW (mp_D M i) i (fun g' => mt_gapP M n (i + 1) g') (mw_S (mp_D M i)) 0 g
/-! ===== the class's page, read ===== -/
theorem sp_X3_find_2 {σ : ka_S} {o : Nat} {M : ma_P} {l : List Nat} {Q : Int32 → ka_S → Prop} (hp : rc_Ln σ o M (mp_L M)) (ok : mp_ok M) (hl : ma_g l) :
    ∀ (n k m : Nat), k + m = mp_L M → m < n → Q (if mt_find (mp_A M) l m k < mp_L M then nI (mt_find (mp_A M) l m k) else -9) σ → kw_X3_find_2 o Q n σ (lN (ma_C l)) (nI k) := by
  intro n
  induction n with
  | zero => intro k m h1 h2; omega
  | succ n ih =>
    intro k m h1 h2 h
    have hL := ok.2.1
    rw [kw_X3_find_2, hp.1]
    refine ⟨fun q => ?_, fun q => ?_⟩
    · simp (disch := omega) only [nI_leI, nI_ltI, nI_eq, nI_add, nI_clamp, kI_in, pk_mul, pk_sub, kI_lit, kI_litL, nI_l, lN_i, lN_add, pk_lEQ, forall_eq, kI_m1, Nat.reduceAdd, Nat.reduceMul, Nat.reduceSub, Nat.reduceLT, Nat.reduceLeDiff, Nat.reduceEqDiff, Nat.reducePow, Nat.reduceMod, Nat.reduceDiv, true_implies, false_implies, and_true, true_and, not_true_eq_false, not_false_eq_true, implies_true, Nat.zero_add, Nat.add_zero] at q
      obtain rfl : m = 0 := by omega
      rw [show mt_find (mp_A M) l 0 k = k from rfl, if_neg (by omega)] at h
      exact h
    · simp (disch := omega) only [nI_leI, nI_ltI, nI_eq, nI_add, nI_clamp, kI_in, pk_mul, pk_sub, kI_lit, kI_litL, nI_l, lN_i, lN_add, pk_lEQ, forall_eq, kI_m1, Nat.reduceAdd, Nat.reduceMul, Nat.reduceSub, Nat.reduceLT, Nat.reduceLeDiff, Nat.reduceEqDiff, Nat.reducePow, Nat.reduceMod, Nat.reduceDiv, true_implies, false_implies, and_true, true_and, not_true_eq_false, not_false_eq_true, implies_true, Nat.zero_add, Nat.add_zero] at q
      obtain ⟨m, rfl⟩ : ∃ m', m = m' + 1 := ⟨m - 1, by omega⟩
      have hk : k < mp_L M := by omega
      have hA := (ok.2.2.2.2.2.2 k hk).1.g
      refine ⟨(kI_in (by omega)).mpr (by omega), ?_⟩
      rw [nI_clamp (by omega), (hp.2 k hk).1]
      have b1 := ma_C_lt hA
      have b2 := ma_C_lt hl
      unfold mt_find at h
      refine ⟨fun e => ?_, fun e => ?_⟩
      · rw [pk_lEQ (by omega) (by omega)] at e
        rw [if_pos (ma_C_inj hA hl e), if_pos hk] at h
        exact h
      · have hne : mp_A M k ≠ l := fun q => e (by rw [q])
        rw [if_neg hne] at h
        simp (disch := omega) only [nI_leI, nI_ltI, nI_eq, nI_add, nI_clamp, kI_in, pk_mul, pk_sub, kI_lit, kI_litL, nI_l, lN_i, lN_add, pk_lEQ, forall_eq, kI_m1, Nat.reduceAdd, Nat.reduceMul, Nat.reduceSub, Nat.reduceLT, Nat.reduceLeDiff, Nat.reduceEqDiff, Nat.reducePow, Nat.reduceMod, Nat.reduceDiv, true_implies, false_implies, and_true, true_and, not_true_eq_false, not_false_eq_true, implies_true, Nat.zero_add, Nat.add_zero]
        exact ih (k + 1) m (by omega) (by omega) h
theorem sp_X3_findL {σ : ka_S} {o : Nat} {M : ma_P} {l : List Nat} {Q : Int32 → ka_S → Prop} (hp : rc_Ln σ o M (mp_L M)) (ok : mp_ok M) (hl : ma_g l) (h : Q (mi_find M l) σ) : kw_X3_find σ o (lN (ma_C l)) Q :=
  ⟨17, sp_X3_find_2 hp ok hl 17 0 (mp_L M) (Nat.zero_add _) (by have := ok.2.1; omega) h⟩
theorem sp_X3_find {σ : ka_S} {o : Nat} {M : ma_P} {l : List Nat} {Q : Int32 → ka_S → Prop} (hp : rc_P σ o M) (ok : mp_ok M) (hl : ma_g l) (h : Q (mi_find M l) σ) : kw_X3_find σ o (lN (ma_C l)) Q := sp_X3_findL hp.2.1 ok hl h
theorem mi_find_9 {M : ma_P} {l : List Nat} (ok : mp_ok M) : mi_find M l = -9 ↔ ¬ mq_find M l < mp_L M := by
  unfold mi_find
  by_cases q : mq_find M l < mp_L M
  · rw [if_pos q]
    have hL := ok.2.1
    refine ⟨fun e => ?_, fun e => absurd q e⟩
    have := nI_pos (n := mq_find M l) (by omega)
    rw [e] at this
    exact absurd (by decide) this
  · rw [if_neg q]
    exact ⟨fun _ => q, fun _ => rfl⟩
theorem mi_find_lt {M : ma_P} {l : List Nat} (ok : mp_ok M) : mi_find M l < 0 ↔ ¬ mq_find M l < mp_L M := by
  unfold mi_find
  by_cases q : mq_find M l < mp_L M
  · rw [if_pos q]
    have hL := ok.2.1
    exact ⟨fun e => absurd e (nI_pos (by omega)), fun e => absurd q e⟩
  · rw [if_neg q]
    exact ⟨fun _ => q, fun _ => by decide⟩
theorem mi_find_in {M : ma_P} {l : List Nat} (h : mq_find M l < mp_L M) : mi_find M l = nI (mq_find M l) := if_pos h
theorem sp_X3_canTake {σ : ka_S} {o : Nat} {M : ma_P} {l : List Nat} {Q : Int32 → ka_S → Prop} (hp : rc_P σ o M) (ok : mp_ok M) (hl : ma_g l) (h1 : mp_L M < 16 ∨ mq_find M l < mp_L M → Q 1 σ) (h0 : ¬ (mp_L M < 16 ∨ mq_find M l < mp_L M) → Q 0 σ) : kw_X3_canTake σ o (lN (ma_C l)) Q := by
  have hL := ok.2.1
  unfold kw_X3_canTake
  rw [hp.2.1.1]
  refine ⟨fun q => ?_, fun q => sp_X3_find hp ok hl ?_⟩
  · simp (disch := omega) only [nI_leI, nI_ltI, nI_eq, nI_add, nI_clamp, kI_in, pk_mul, pk_sub, kI_lit, kI_litL, nI_l, lN_i, lN_add, pk_lEQ, forall_eq, kI_m1, Nat.reduceAdd, Nat.reduceMul, Nat.reduceSub, Nat.reduceLT, Nat.reduceLeDiff, Nat.reduceEqDiff, Nat.reducePow, Nat.reduceMod, Nat.reduceDiv, true_implies, false_implies, and_true, true_and, not_true_eq_false, not_false_eq_true, implies_true, Nat.zero_add, Nat.add_zero] at q
    exact h1 (Or.inl q)
  · simp (disch := omega) only [nI_leI, nI_ltI, nI_eq, nI_add, nI_clamp, kI_in, pk_mul, pk_sub, kI_lit, kI_litL, nI_l, lN_i, lN_add, pk_lEQ, forall_eq, kI_m1, Nat.reduceAdd, Nat.reduceMul, Nat.reduceSub, Nat.reduceLT, Nat.reduceLeDiff, Nat.reduceEqDiff, Nat.reducePow, Nat.reduceMod, Nat.reduceDiv, true_implies, false_implies, and_true, true_and, not_true_eq_false, not_false_eq_true, implies_true, Nat.zero_add, Nat.add_zero] at q
    rw [mi_find_9 ok]
    exact ⟨fun e => h0 (by omega), fun e => h1 (by omega)⟩
/-- a part may be learned -/
def mc_learn (M : ma_P) (i p : Nat) : Prop := mw_G (mp_D M i) p ≠ [] ∧ (mp_L M < 16 ∨ mq_find M (mw_P (mp_D M i) p) < mp_L M)
theorem sp_X4_canLearnV {σ : ka_S} {o : Nat} {v u : Int32} {M : ma_P} {Q : Int32 → ka_S → Prop} (hp : rc_P σ o M) (ok : mp_ok M) (h1 : ∀ i p, i < mp_N M → p < mw_S (mp_D M i) → v = nI i → u = nI p → mc_learn M i p → Q 1 σ)
    (h0 : (∀ i p, i < mp_N M → p < mw_S (mp_D M i) → mc_learn M i p → ¬ (v = nI i ∧ u = nI p)) → Q 0 σ) : kw_X4_canLearn σ o v u Q := by
  have hN := ok.1
  have back : ∀ i p, i < mp_N M → p < mw_S (mp_D M i) → ¬ mc_learn M i p → ∀ j q, j < mp_N M → q < mw_S (mp_D M j) → mc_learn M j q → ¬ (nI i = nI j ∧ nI p = nI q) := by
    intro i p hi hpp hl j q hj hq hl' e
    have hS := (ok.2.2.2.2.2.1 i hi).1
    have hS' := (ok.2.2.2.2.2.1 j hj).1
    rw [nI_eq (by omega) (by omega), nI_eq (by omega) (by omega)] at e
    obtain ⟨rfl, rfl⟩ := e
    exact hl hl'
  unfold kw_X4_canLearn
  refine sp_X4_hasPartV hp ok (fun i p hi hpp ev eu => ⟨fun q => absurd q (by decide), fun _ => ?_⟩) (fun q => ⟨fun _ => h0 (fun i p a b _ => q i p a b), fun q2 => absurd rfl q2⟩)
  subst ev
  subst eu
  have hS := (ok.2.2.2.2.2.1 i hi).1
  have hw := (ok.2.2.2.2.2.1 i hi).2.2.2.2.1 p hpp
  have i1 : vp_in (nI i) 12 := (kI_in (by omega)).mpr (by omega)
  have i2 : vp_in (nI p) 4 := (kI_in (by omega)).mpr (by omega)
  refine ⟨i1, i2, ?_⟩
  rw [nI_clamp (by omega), nI_clamp (by omega), rc_g (hp.2.2 i hi) hpp, ma_C_z hw.2.1, rc_p (hp.2.2 i hi) hpp]
  refine ⟨fun q => h0 (back i p hi hpp (fun c => c.1 q)), fun q => ⟨i1, i2, sp_X3_canTake hp ok hw.1.g (fun c => ⟨fun q => absurd q (by decide), fun _ => h1 i p hi hpp rfl rfl ⟨q, c⟩⟩) (fun c => ⟨fun _ => h0 (back i p hi hpp (fun c' => c c'.2)), fun q => absurd rfl q⟩)⟩⟩
theorem sp_X4_countParts_4 {σ : ka_S} {o : Nat} {M : ma_P} {Q : Int32 → ka_S → Prop} (hp : rc_P σ o M) (ok : mp_ok M) (h : Q (nI (mt_parts M)) σ) :
    ∀ (n k : Nat), k ≤ mp_N M → mp_N M < k + n → kw_X4_countParts_4 o Q n σ (nI (ma_sum (fun i => mw_S (mp_D M i)) k)) (nI k) := by
  intro n
  induction n with
  | zero => intro k h1 h2; omega
  | succ n ih =>
    intro k h1 h2
    have hN := ok.1
    rw [kw_X4_countParts_4, hp.1.1]
    refine ⟨fun q => ?_, fun q => ⟨(kI_in (by omega)).mpr ?_, ?_⟩⟩
    · simp (disch := omega) only [nI_leI, nI_ltI, nI_eq, nI_add, nI_clamp, kI_in, pk_mul, pk_sub, kI_lit, kI_litL, nI_l, lN_i, lN_add, pk_lEQ, forall_eq, kI_m1, Nat.reduceAdd, Nat.reduceMul, Nat.reduceSub, Nat.reduceLT, Nat.reduceLeDiff, Nat.reduceEqDiff, Nat.reducePow, Nat.reduceMod, Nat.reduceDiv, true_implies, false_implies, and_true, true_and, not_true_eq_false, not_false_eq_true, implies_true, Nat.zero_add, Nat.add_zero] at q
      rw [show k = mp_N M by omega]
      exact h
    · simp (disch := omega) only [nI_leI, nI_ltI, nI_eq, nI_add, nI_clamp, kI_in, pk_mul, pk_sub, kI_lit, kI_litL, nI_l, lN_i, lN_add, pk_lEQ, forall_eq, kI_m1, Nat.reduceAdd, Nat.reduceMul, Nat.reduceSub, Nat.reduceLT, Nat.reduceLeDiff, Nat.reduceEqDiff, Nat.reducePow, Nat.reduceMod, Nat.reduceDiv, true_implies, false_implies, and_true, true_and, not_true_eq_false, not_false_eq_true, implies_true, Nat.zero_add, Nat.add_zero] at q
      omega
    · simp (disch := omega) only [nI_leI, nI_ltI, nI_eq, nI_add, nI_clamp, kI_in, pk_mul, pk_sub, kI_lit, kI_litL, nI_l, lN_i, lN_add, pk_lEQ, forall_eq, kI_m1, Nat.reduceAdd, Nat.reduceMul, Nat.reduceSub, Nat.reduceLT, Nat.reduceLeDiff, Nat.reduceEqDiff, Nat.reducePow, Nat.reduceMod, Nat.reduceDiv, true_implies, false_implies, and_true, true_and, not_true_eq_false, not_false_eq_true, implies_true, Nat.zero_add, Nat.add_zero] at q
      rw [nI_clamp (by omega), (hp.2.2 k (by omega)).1.1]
      simp (disch := omega) only [nI_leI, nI_ltI, nI_eq, nI_add, nI_clamp, kI_in, pk_mul, pk_sub, kI_lit, kI_litL, nI_l, lN_i, lN_add, pk_lEQ, forall_eq, kI_m1, Nat.reduceAdd, Nat.reduceMul, Nat.reduceSub, Nat.reduceLT, Nat.reduceLeDiff, Nat.reduceEqDiff, Nat.reducePow, Nat.reduceMod, Nat.reduceDiv, true_implies, false_implies, and_true, true_and, not_true_eq_false, not_false_eq_true, implies_true, Nat.zero_add, Nat.add_zero]
      exact ih (k + 1) (by omega) (by omega)
theorem sp_X4_countParts {σ : ka_S} {o : Nat} {M : ma_P} {Q : Int32 → ka_S → Prop} (hp : rc_P σ o M) (ok : mp_ok M) (h : Q (nI (mt_parts M)) σ) : kw_X4_countParts σ o Q :=
  ⟨13, sp_X4_countParts_4 hp ok h 13 0 (Nat.zero_le _) (by have := ok.1; omega)⟩
theorem sp_X4_countGaps_4 {σ : ka_S} {o : Nat} {M : ma_P} {Q : Int32 → ka_S → Prop} (hp : rc_P σ o M) (ok : mp_ok M) (h : Q (nI (mt_gapsP M)) σ) :
    ∀ (n k : Nat), k ≤ mp_N M → mp_N M < k + n → kw_X4_countGaps_4 o Q n σ (nI (ma_sum (fun i => mt_gaps (mp_D M i)) k)) (nI k) := by
  intro n
  induction n with
  | zero => intro k h1 h2; omega
  | succ n ih =>
    intro k h1 h2
    have hN := ok.1
    rw [kw_X4_countGaps_4, hp.1.1]
    refine ⟨fun q => ?_, fun q => ⟨(kI_in (by omega)).mpr ?_, ?_⟩⟩
    · simp (disch := omega) only [nI_leI, nI_ltI, nI_eq, nI_add, nI_clamp, kI_in, pk_mul, pk_sub, kI_lit, kI_litL, nI_l, lN_i, lN_add, pk_lEQ, forall_eq, kI_m1, Nat.reduceAdd, Nat.reduceMul, Nat.reduceSub, Nat.reduceLT, Nat.reduceLeDiff, Nat.reduceEqDiff, Nat.reducePow, Nat.reduceMod, Nat.reduceDiv, true_implies, false_implies, and_true, true_and, not_true_eq_false, not_false_eq_true, implies_true, Nat.zero_add, Nat.add_zero] at q
      rw [show k = mp_N M by omega]
      exact h
    · simp (disch := omega) only [nI_leI, nI_ltI, nI_eq, nI_add, nI_clamp, kI_in, pk_mul, pk_sub, kI_lit, kI_litL, nI_l, lN_i, lN_add, pk_lEQ, forall_eq, kI_m1, Nat.reduceAdd, Nat.reduceMul, Nat.reduceSub, Nat.reduceLT, Nat.reduceLeDiff, Nat.reduceEqDiff, Nat.reducePow, Nat.reduceMod, Nat.reduceDiv, true_implies, false_implies, and_true, true_and, not_true_eq_false, not_false_eq_true, implies_true, Nat.zero_add, Nat.add_zero] at q
      omega
    · simp (disch := omega) only [nI_leI, nI_ltI, nI_eq, nI_add, nI_clamp, kI_in, pk_mul, pk_sub, kI_lit, kI_litL, nI_l, lN_i, lN_add, pk_lEQ, forall_eq, kI_m1, Nat.reduceAdd, Nat.reduceMul, Nat.reduceSub, Nat.reduceLT, Nat.reduceLeDiff, Nat.reduceEqDiff, Nat.reducePow, Nat.reduceMod, Nat.reduceDiv, true_implies, false_implies, and_true, true_and, not_true_eq_false, not_false_eq_true, implies_true, Nat.zero_add, Nat.add_zero] at q
      rw [nI_clamp (by omega)]
      refine sp_X7_countGaps (hp.2.2 k (by omega)) (ok.2.2.2.2.2.1 k (by omega)) ?_
      simp (disch := omega) only [nI_leI, nI_ltI, nI_eq, nI_add, nI_clamp, kI_in, pk_mul, pk_sub, kI_lit, kI_litL, nI_l, lN_i, lN_add, pk_lEQ, forall_eq, kI_m1, Nat.reduceAdd, Nat.reduceMul, Nat.reduceSub, Nat.reduceLT, Nat.reduceLeDiff, Nat.reduceEqDiff, Nat.reducePow, Nat.reduceMod, Nat.reduceDiv, true_implies, false_implies, and_true, true_and, not_true_eq_false, not_false_eq_true, implies_true, Nat.zero_add, Nat.add_zero]
      exact ih (k + 1) (by omega) (by omega)
theorem sp_X4_countGaps {σ : ka_S} {o : Nat} {M : ma_P} {Q : Int32 → ka_S → Prop} (hp : rc_P σ o M) (ok : mp_ok M) (h : Q (nI (mt_gapsP M)) σ) : kw_X4_countGaps σ o Q :=
  ⟨13, sp_X4_countGaps_4 hp ok h 13 0 (Nat.zero_le _) (by have := ok.1; omega)⟩
theorem sp_X4_countSentences_4 {σ : ka_S} {o : Nat} {M : ma_P} {Q : Int32 → ka_S → Prop} (hp : rc_P σ o M) (ok : mp_ok M) (h : Q (nI (mt_sent M)) σ) :
    ∀ (n k : Nat), k ≤ mp_N M → mp_N M < k + n → kw_X4_countSentences_4 o Q n σ (nI (ma_sum (mf_sent M) k)) (nI k) := by
  intro n
  induction n with
  | zero => intro k h1 h2; omega
  | succ n ih =>
    intro k h1 h2
    have hN := ok.1
    rw [kw_X4_countSentences_4, hp.1.1]
    refine ⟨fun q => ?_, fun q => ⟨(kI_in (by omega)).mpr ?_, ?_⟩⟩
    · simp (disch := omega) only [nI_leI, nI_ltI, nI_eq, nI_add, nI_clamp, kI_in, pk_mul, pk_sub, kI_lit, kI_litL, nI_l, lN_i, lN_add, pk_lEQ, forall_eq, kI_m1, Nat.reduceAdd, Nat.reduceMul, Nat.reduceSub, Nat.reduceLT, Nat.reduceLeDiff, Nat.reduceEqDiff, Nat.reducePow, Nat.reduceMod, Nat.reduceDiv, true_implies, false_implies, and_true, true_and, not_true_eq_false, not_false_eq_true, implies_true, Nat.zero_add, Nat.add_zero] at q
      rw [show k = mp_N M by omega]
      exact h
    · simp (disch := omega) only [nI_leI, nI_ltI, nI_eq, nI_add, nI_clamp, kI_in, pk_mul, pk_sub, kI_lit, kI_litL, nI_l, lN_i, lN_add, pk_lEQ, forall_eq, kI_m1, Nat.reduceAdd, Nat.reduceMul, Nat.reduceSub, Nat.reduceLT, Nat.reduceLeDiff, Nat.reduceEqDiff, Nat.reducePow, Nat.reduceMod, Nat.reduceDiv, true_implies, false_implies, and_true, true_and, not_true_eq_false, not_false_eq_true, implies_true, Nat.zero_add, Nat.add_zero] at q
      omega
    · simp (disch := omega) only [nI_leI, nI_ltI, nI_eq, nI_add, nI_clamp, kI_in, pk_mul, pk_sub, kI_lit, kI_litL, nI_l, lN_i, lN_add, pk_lEQ, forall_eq, kI_m1, Nat.reduceAdd, Nat.reduceMul, Nat.reduceSub, Nat.reduceLT, Nat.reduceLeDiff, Nat.reduceEqDiff, Nat.reducePow, Nat.reduceMod, Nat.reduceDiv, true_implies, false_implies, and_true, true_and, not_true_eq_false, not_false_eq_true, implies_true, Nat.zero_add, Nat.add_zero] at q
      have hE := (ok.2.2.2.2.2.1 k (by omega)).2.1
      have hi := ih (k + 1) (by omega) (by omega)
      have e : ma_sum (mf_sent M) (k + 1) = ma_sum (mf_sent M) k + mf_sent M k := rfl
      rw [e] at hi
      unfold mf_sent at hi
      rw [nI_clamp (by omega), (hp.2.2 k (by omega)).1.2.2]
      refine ⟨fun q2 => ⟨fun q3 => ?_, fun q3 => ?_⟩, fun q2 => ?_⟩
      · simp (disch := omega) only [nI_leI, nI_ltI, nI_eq, nI_add, nI_clamp, kI_in, pk_mul, pk_sub, kI_lit, kI_litL, nI_l, lN_i, lN_add, pk_lEQ, forall_eq, kI_m1, Nat.reduceAdd, Nat.reduceMul, Nat.reduceSub, Nat.reduceLT, Nat.reduceLeDiff, Nat.reduceEqDiff, Nat.reducePow, Nat.reduceMod, Nat.reduceDiv, true_implies, false_implies, and_true, true_and, not_true_eq_false, not_false_eq_true, implies_true, Nat.zero_add, Nat.add_zero] at q2 q3
        rw [if_pos (by omega)] at hi
        simp (disch := omega) only [nI_leI, nI_ltI, nI_eq, nI_add, nI_clamp, kI_in, pk_mul, pk_sub, kI_lit, kI_litL, nI_l, lN_i, lN_add, pk_lEQ, forall_eq, kI_m1, Nat.reduceAdd, Nat.reduceMul, Nat.reduceSub, Nat.reduceLT, Nat.reduceLeDiff, Nat.reduceEqDiff, Nat.reducePow, Nat.reduceMod, Nat.reduceDiv, true_implies, false_implies, and_true, true_and, not_true_eq_false, not_false_eq_true, implies_true, Nat.zero_add, Nat.add_zero]
        exact hi
      · simp (disch := omega) only [nI_leI, nI_ltI, nI_eq, nI_add, nI_clamp, kI_in, pk_mul, pk_sub, kI_lit, kI_litL, nI_l, lN_i, lN_add, pk_lEQ, forall_eq, kI_m1, Nat.reduceAdd, Nat.reduceMul, Nat.reduceSub, Nat.reduceLT, Nat.reduceLeDiff, Nat.reduceEqDiff, Nat.reducePow, Nat.reduceMod, Nat.reduceDiv, true_implies, false_implies, and_true, true_and, not_true_eq_false, not_false_eq_true, implies_true, Nat.zero_add, Nat.add_zero] at q2 q3
        rw [if_neg (by omega)] at hi
        simp (disch := omega) only [nI_leI, nI_ltI, nI_eq, nI_add, nI_clamp, kI_in, pk_mul, pk_sub, kI_lit, kI_litL, nI_l, lN_i, lN_add, pk_lEQ, forall_eq, kI_m1, Nat.reduceAdd, Nat.reduceMul, Nat.reduceSub, Nat.reduceLT, Nat.reduceLeDiff, Nat.reduceEqDiff, Nat.reducePow, Nat.reduceMod, Nat.reduceDiv, true_implies, false_implies, and_true, true_and, not_true_eq_false, not_false_eq_true, implies_true, Nat.zero_add, Nat.add_zero]
        exact hi
      · simp (disch := omega) only [nI_leI, nI_ltI, nI_eq, nI_add, nI_clamp, kI_in, pk_mul, pk_sub, kI_lit, kI_litL, nI_l, lN_i, lN_add, pk_lEQ, forall_eq, kI_m1, Nat.reduceAdd, Nat.reduceMul, Nat.reduceSub, Nat.reduceLT, Nat.reduceLeDiff, Nat.reduceEqDiff, Nat.reducePow, Nat.reduceMod, Nat.reduceDiv, true_implies, false_implies, and_true, true_and, not_true_eq_false, not_false_eq_true, implies_true, Nat.zero_add, Nat.add_zero] at q2
        rw [if_pos (by omega)] at hi
        simp (disch := omega) only [nI_leI, nI_ltI, nI_eq, nI_add, nI_clamp, kI_in, pk_mul, pk_sub, kI_lit, kI_litL, nI_l, lN_i, lN_add, pk_lEQ, forall_eq, kI_m1, Nat.reduceAdd, Nat.reduceMul, Nat.reduceSub, Nat.reduceLT, Nat.reduceLeDiff, Nat.reduceEqDiff, Nat.reducePow, Nat.reduceMod, Nat.reduceDiv, true_implies, false_implies, and_true, true_and, not_true_eq_false, not_false_eq_true, implies_true, Nat.zero_add, Nat.add_zero]
        exact hi
theorem sp_X4_countSentences {σ : ka_S} {o : Nat} {M : ma_P} {Q : Int32 → ka_S → Prop} (hp : rc_P σ o M) (ok : mp_ok M) (h : Q (nI (mt_sent M)) σ) : kw_X4_countSentences σ o Q :=
  ⟨13, sp_X4_countSentences_4 hp ok h 13 0 (Nat.zero_le _) (by have := ok.1; omega)⟩
