/-! ===== the class's text; learning; settings allowed ===== -/
def mc_free (n : Nat) (t : Nat → Nat) : Prop := n ≤ 24 ∧ ∀ k, k < n → 32 ≤ t k ∧ t k ≤ 126
def mc_gloss (n : Nat) (t : Nat → Nat) : Prop := n ≤ 8 ∧ ∀ k, k < n → (97 ≤ t k ∧ t k ≤ 122) ∨ t k = 46
def ma_tx (t : Nat → Nat) : Nat → List Nat
  | 0 => []
  | k + 1 => ma_tx t k ++ [t k]
theorem ma_tx_len (t : Nat → Nat) : ∀ k, (ma_tx t k).length = k := by
  intro k
  induction k with
  | zero => rfl
  | succ k ih =>
    show (ma_tx t k ++ [t k]).length = k + 1
    rw [List.length_append, ih]
    rfl
theorem ma_tx_mem {t : Nat → Nat} {x : Nat} : ∀ {k}, x ∈ ma_tx t k → ∃ j, j < k ∧ x = t j := by
  intro k
  induction k with
  | zero => intro h; exact absurd h List.not_mem_nil
  | succ k ih =>
    intro h
    rcases List.mem_append.mp h with q | q
    · obtain ⟨j, hj, e⟩ := ih q
      exact ⟨j, by omega, e⟩
    · exact ⟨k, Nat.lt_succ_self _, List.mem_singleton.mp q⟩
theorem ma_tx_g {n : Nat} {t : Nat → Nat} (h : mc_gloss n t) {k : Nat} (hk : k ≤ n) : ma_g (ma_tx t k) := by
  refine ⟨by rw [ma_tx_len]; have := h.1; omega, fun c hc => ?_⟩
  obtain ⟨j, hj, e⟩ := ma_tx_mem hc
  rw [e]
  exact h.2 j (by omega)
theorem sp_X6_isFreeLine_2 {σ : ka_S} {m : Nat} {t : Nat → Nat} {Q : Int32 → ka_S → Prop} (ht : rc_T σ m t) (hm : m ≤ 60) (hc : ∀ k, k < m → t k < 256) (h1 : mc_free m t → Q 1 σ) (h0 : ¬ mc_free m t → Q 0 σ) :
    ∀ (n k : Nat), k ≤ m → m < k + n → (∀ j, j < k → 32 ≤ t j ∧ t j ≤ 126) → kw_X6_isFreeLine_2 Q n σ (nI k) := by
  intro n
  induction n with
  | zero => intro k q1 q2; omega
  | succ n ih =>
    intro k q1 q2 hr
    rw [kw_X6_isFreeLine_2, ht.1]
    refine ⟨fun q => ?_, fun q => ?_⟩
    · simp (disch := omega) only [nI_leI, nI_ltI, nI_eq, nI_add, nI_clamp, kI_in, pk_mul, pk_sub, kI_lit, kI_litL, nI_l, lN_i, lN_add, pk_lEQ, forall_eq, kI_m1, Nat.reduceAdd, Nat.reduceMul, Nat.reduceSub, Nat.reduceLT, Nat.reduceLeDiff, Nat.reduceEqDiff, Nat.reducePow, Nat.reduceMod, Nat.reduceDiv, true_implies, false_implies, and_true, true_and, not_true_eq_false, not_false_eq_true, implies_true, Nat.zero_add, Nat.add_zero] at q
      obtain rfl : k = m := by omega
      refine ⟨fun z => ?_, fun z => ?_⟩
      · simp (disch := omega) only [nI_leI, nI_ltI, nI_eq, nI_add, nI_clamp, kI_in, pk_mul, pk_sub, kI_lit, kI_litL, nI_l, lN_i, lN_add, pk_lEQ, forall_eq, kI_m1, Nat.reduceAdd, Nat.reduceMul, Nat.reduceSub, Nat.reduceLT, Nat.reduceLeDiff, Nat.reduceEqDiff, Nat.reducePow, Nat.reduceMod, Nat.reduceDiv, true_implies, false_implies, and_true, true_and, not_true_eq_false, not_false_eq_true, implies_true, Nat.zero_add, Nat.add_zero] at z
        exact h0 (fun c => by have := c.1; omega)
      · simp (disch := omega) only [nI_leI, nI_ltI, nI_eq, nI_add, nI_clamp, kI_in, pk_mul, pk_sub, kI_lit, kI_litL, nI_l, lN_i, lN_add, pk_lEQ, forall_eq, kI_m1, Nat.reduceAdd, Nat.reduceMul, Nat.reduceSub, Nat.reduceLT, Nat.reduceLeDiff, Nat.reduceEqDiff, Nat.reducePow, Nat.reduceMod, Nat.reduceDiv, true_implies, false_implies, and_true, true_and, not_true_eq_false, not_false_eq_true, implies_true, Nat.zero_add, Nat.add_zero] at z
        exact h1 ⟨by omega, hr⟩
    · simp (disch := omega) only [nI_leI, nI_ltI, nI_eq, nI_add, nI_clamp, kI_in, pk_mul, pk_sub, kI_lit, kI_litL, nI_l, lN_i, lN_add, pk_lEQ, forall_eq, kI_m1, Nat.reduceAdd, Nat.reduceMul, Nat.reduceSub, Nat.reduceLT, Nat.reduceLeDiff, Nat.reduceEqDiff, Nat.reducePow, Nat.reduceMod, Nat.reduceDiv, true_implies, false_implies, and_true, true_and, not_true_eq_false, not_false_eq_true, implies_true, Nat.zero_add, Nat.add_zero] at q
      have hk : k < m := by omega
      have hi : vp_in (nI k) 60 := (kI_in (by omega)).mpr (by omega)
      have h256 := hc k hk
      rw [nI_clamp (by omega), ht.2 k hk]
      refine ⟨hi, fun z => ?_, fun z => ⟨hi, fun z2 => ?_, fun z2 => ?_⟩⟩
      · simp (disch := omega) only [nI_leI, nI_ltI, nI_eq, nI_add, nI_clamp, kI_in, pk_mul, pk_sub, kI_lit, kI_litL, nI_l, lN_i, lN_add, pk_lEQ, forall_eq, kI_m1, Nat.reduceAdd, Nat.reduceMul, Nat.reduceSub, Nat.reduceLT, Nat.reduceLeDiff, Nat.reduceEqDiff, Nat.reducePow, Nat.reduceMod, Nat.reduceDiv, true_implies, false_implies, and_true, true_and, not_true_eq_false, not_false_eq_true, implies_true, Nat.zero_add, Nat.add_zero] at z
        exact h0 (fun c => by have := c.2 k hk; omega)
      · simp (disch := omega) only [nI_leI, nI_ltI, nI_eq, nI_add, nI_clamp, kI_in, pk_mul, pk_sub, kI_lit, kI_litL, nI_l, lN_i, lN_add, pk_lEQ, forall_eq, kI_m1, Nat.reduceAdd, Nat.reduceMul, Nat.reduceSub, Nat.reduceLT, Nat.reduceLeDiff, Nat.reduceEqDiff, Nat.reducePow, Nat.reduceMod, Nat.reduceDiv, true_implies, false_implies, and_true, true_and, not_true_eq_false, not_false_eq_true, implies_true, Nat.zero_add, Nat.add_zero] at z z2
        rw [forall_eq, show (nI k + 1 : Int32) = nI (k + 1) from nI_1 k]
        refine ih (k + 1) (by omega) (by omega) (fun j hj => ?_)
        by_cases e : j = k
        · rw [e]; omega
        · exact hr j (by omega)
      · simp (disch := omega) only [nI_leI, nI_ltI, nI_eq, nI_add, nI_clamp, kI_in, pk_mul, pk_sub, kI_lit, kI_litL, nI_l, lN_i, lN_add, pk_lEQ, forall_eq, kI_m1, Nat.reduceAdd, Nat.reduceMul, Nat.reduceSub, Nat.reduceLT, Nat.reduceLeDiff, Nat.reduceEqDiff, Nat.reducePow, Nat.reduceMod, Nat.reduceDiv, true_implies, false_implies, and_true, true_and, not_true_eq_false, not_false_eq_true, implies_true, Nat.zero_add, Nat.add_zero] at z2
        exact h0 (fun c => by have := c.2 k hk; omega)
theorem sp_X6_isFreeLine {σ : ka_S} {m : Nat} {t : Nat → Nat} {Q : Int32 → ka_S → Prop} (ht : rc_T σ m t) (hm : m ≤ 60) (hc : ∀ k, k < m → t k < 256) (h1 : mc_free m t → Q 1 σ) (h0 : ¬ mc_free m t → Q 0 σ) : kw_X6_isFreeLine σ Q :=
  ⟨61, sp_X6_isFreeLine_2 ht hm hc h1 h0 61 0 (Nat.zero_le _) (by omega) (fun j hj => absurd hj (Nat.not_lt_zero j))⟩
theorem sp_X6_isGloss_2 {σ : ka_S} {m : Nat} {t : Nat → Nat} {Q : Int32 → ka_S → Prop} (ht : rc_T σ m t) (hm : m ≤ 60) (hc : ∀ k, k < m → t k < 256) (h1 : mc_gloss m t → Q 1 σ) (h0 : ¬ mc_gloss m t → Q 0 σ) :
    ∀ (n k : Nat), k ≤ m → m < k + n → (∀ j, j < k → (97 ≤ t j ∧ t j ≤ 122) ∨ t j = 46) → kw_X6_isGloss_2 Q n σ (nI k) := by
  intro n
  induction n with
  | zero => intro k q1 q2; omega
  | succ n ih =>
    intro k q1 q2 hr
    rw [kw_X6_isGloss_2, ht.1]
    refine ⟨fun q => ?_, fun q => ?_⟩
    · simp (disch := omega) only [nI_leI, nI_ltI, nI_eq, nI_add, nI_clamp, kI_in, pk_mul, pk_sub, kI_lit, kI_litL, nI_l, lN_i, lN_add, pk_lEQ, forall_eq, kI_m1, Nat.reduceAdd, Nat.reduceMul, Nat.reduceSub, Nat.reduceLT, Nat.reduceLeDiff, Nat.reduceEqDiff, Nat.reducePow, Nat.reduceMod, Nat.reduceDiv, true_implies, false_implies, and_true, true_and, not_true_eq_false, not_false_eq_true, implies_true, Nat.zero_add, Nat.add_zero] at q
      obtain rfl : k = m := by omega
      refine ⟨fun z => ?_, fun z => ?_⟩
      · simp (disch := omega) only [nI_leI, nI_ltI, nI_eq, nI_add, nI_clamp, kI_in, pk_mul, pk_sub, kI_lit, kI_litL, nI_l, lN_i, lN_add, pk_lEQ, forall_eq, kI_m1, Nat.reduceAdd, Nat.reduceMul, Nat.reduceSub, Nat.reduceLT, Nat.reduceLeDiff, Nat.reduceEqDiff, Nat.reducePow, Nat.reduceMod, Nat.reduceDiv, true_implies, false_implies, and_true, true_and, not_true_eq_false, not_false_eq_true, implies_true, Nat.zero_add, Nat.add_zero] at z
        exact h0 (fun c => by have := c.1; omega)
      · simp (disch := omega) only [nI_leI, nI_ltI, nI_eq, nI_add, nI_clamp, kI_in, pk_mul, pk_sub, kI_lit, kI_litL, nI_l, lN_i, lN_add, pk_lEQ, forall_eq, kI_m1, Nat.reduceAdd, Nat.reduceMul, Nat.reduceSub, Nat.reduceLT, Nat.reduceLeDiff, Nat.reduceEqDiff, Nat.reducePow, Nat.reduceMod, Nat.reduceDiv, true_implies, false_implies, and_true, true_and, not_true_eq_false, not_false_eq_true, implies_true, Nat.zero_add, Nat.add_zero] at z
        exact h1 ⟨by omega, hr⟩
    · simp (disch := omega) only [nI_leI, nI_ltI, nI_eq, nI_add, nI_clamp, kI_in, pk_mul, pk_sub, kI_lit, kI_litL, nI_l, lN_i, lN_add, pk_lEQ, forall_eq, kI_m1, Nat.reduceAdd, Nat.reduceMul, Nat.reduceSub, Nat.reduceLT, Nat.reduceLeDiff, Nat.reduceEqDiff, Nat.reducePow, Nat.reduceMod, Nat.reduceDiv, true_implies, false_implies, and_true, true_and, not_true_eq_false, not_false_eq_true, implies_true, Nat.zero_add, Nat.add_zero] at q
      have hk : k < m := by omega
      have h256 := hc k hk
      rw [nI_clamp (by omega), ht.2 k hk]
      refine ⟨(kI_in (by omega)).mpr (by omega), sp_X2_isGlossLetter (by omega) (fun z => ⟨fun e => absurd e (by decide), fun _ => ?_⟩) (fun z => ⟨fun _ => h0 (fun c => z (c.2 k hk)), fun e => absurd rfl e⟩)⟩
      rw [forall_eq, show (nI k + 1 : Int32) = nI (k + 1) from nI_1 k]
      refine ih (k + 1) (by omega) (by omega) (fun j hj => ?_)
      by_cases e : j = k
      · rw [e]; exact z
      · exact hr j (by omega)
theorem sp_X6_isGloss {σ : ka_S} {m : Nat} {t : Nat → Nat} {Q : Int32 → ka_S → Prop} (ht : rc_T σ m t) (hm : m ≤ 60) (hc : ∀ k, k < m → t k < 256) (h1 : mc_gloss m t → Q 1 σ) (h0 : ¬ mc_gloss m t → Q 0 σ) : kw_X6_isGloss σ Q :=
  ⟨61, sp_X6_isGloss_2 ht hm hc h1 h0 61 0 (Nat.zero_le _) (by omega) (fun j hj => absurd hj (Nat.not_lt_zero j))⟩
theorem sp_X6_letters_4 {σ : ka_S} {m : Nat} {t : Nat → Nat} {Q : Int64 → ka_S → Prop} (ht : rc_T σ m t) (hg : mc_gloss m t) (h : Q (lN (ma_C (ma_tx t m))) σ) :
    ∀ (n k : Nat), k ≤ m → m < k + n → kw_X6_letters_4 Q n σ (lN (ma_C (ma_tx t k))) (nI k) := by
  intro n
  induction n with
  | zero => intro k q1 q2; omega
  | succ n ih =>
    intro k q1 q2
    have hm := hg.1
    rw [kw_X6_letters_4, ht.1]
    refine ⟨fun q => ?_, fun q => ?_⟩
    · simp (disch := omega) only [nI_leI, nI_ltI, nI_eq, nI_add, nI_clamp, kI_in, pk_mul, pk_sub, kI_lit, kI_litL, nI_l, lN_i, lN_add, pk_lEQ, forall_eq, kI_m1, Nat.reduceAdd, Nat.reduceMul, Nat.reduceSub, Nat.reduceLT, Nat.reduceLeDiff, Nat.reduceEqDiff, Nat.reducePow, Nat.reduceMod, Nat.reduceDiv, true_implies, false_implies, and_true, true_and, not_true_eq_false, not_false_eq_true, implies_true, Nat.zero_add, Nat.add_zero] at q
      rw [show k = m by omega]
      exact h
    · simp (disch := omega) only [nI_leI, nI_ltI, nI_eq, nI_add, nI_clamp, kI_in, pk_mul, pk_sub, kI_lit, kI_litL, nI_l, lN_i, lN_add, pk_lEQ, forall_eq, kI_m1, Nat.reduceAdd, Nat.reduceMul, Nat.reduceSub, Nat.reduceLT, Nat.reduceLeDiff, Nat.reduceEqDiff, Nat.reducePow, Nat.reduceMod, Nat.reduceDiv, true_implies, false_implies, and_true, true_and, not_true_eq_false, not_false_eq_true, implies_true, Nat.zero_add, Nat.add_zero] at q
      have hk : k < m := by omega
      have h256 := hg.2 k hk
      rw [nI_clamp (by omega), ht.2 k hk]
      refine ⟨(kI_in (by omega)).mpr (by omega), sp_X2_with (ma_tx_g hg q1) (by rw [ma_tx_len]; omega) (by omega) ?_⟩
      rw [forall_eq, show (nI k + 1 : Int32) = nI (k + 1) from nI_1 k]
      exact ih (k + 1) (by omega) (by omega)
theorem sp_X6_letters {σ : ka_S} {m : Nat} {t : Nat → Nat} {Q : Int64 → ka_S → Prop} (ht : rc_T σ m t) (hg : mc_gloss m t) (h : Q (lN (ma_C (ma_tx t m))) σ) : kw_X6_letters σ Q :=
  ⟨9, sp_X6_letters_4 ht hg h 9 0 (Nat.zero_le _) (by have := hg.1; omega)⟩
theorem sp_X4_learnPart {σ : ka_S} {o i p : Nat} {M : ma_P} {Q : ka_S → Prop} (hp : rc_P σ o M) (ok : mp_ok M) (hi : i < mp_N M) (hk : p < mw_S (mp_D M i)) (hc : mc_learn M i p)
    (h : ∀ σ', ag (xp o) σ σ' → rc_P σ' o (mp_learn M (mw_P (mp_D M i) p) (mw_G (mp_D M i) p)) → Q σ') : kw_X4_learnPart σ o (nI i) (nI p) Q := by
  have hN := ok.1
  have hS := (ok.2.2.2.2.2.1 i hi).1
  have hw := (ok.2.2.2.2.2.1 i hi).2.2.2.2.1 p hk
  have i1 : vp_in (nI i) 12 := (kI_in (by omega)).mpr (by omega)
  have i2 : vp_in (nI p) 4 := (kI_in (by omega)).mpr (by omega)
  unfold kw_X4_learnPart
  refine sp_X4_canLearnV hp ok (fun j q hj hq e1 e2 hl => ⟨fun z => absurd z (by decide), fun _ => ⟨i1, i2, i1, i2, ?_⟩⟩) (fun z => absurd ⟨rfl, rfl⟩ (z i p hi hk hc))
  rw [nI_clamp (by omega), nI_clamp (by omega), rc_p (hp.2.2 i hi) hk, rc_g (hp.2.2 i hi) hk]
  exact sp_X3_take hp ok hw.1.g hc.2 h
/-- what a setting may be -/
def mc_set (s x : Int32) : Prop := (s = 9 ∧ 10 ≤ x.toInt ∧ x.toInt ≤ 60) ∨ (s = 10 ∧ 1 ≤ x.toInt ∧ x.toInt ≤ 3) ∨ (s = 11 ∧ 0 ≤ x.toInt ∧ x.toInt ≤ 1)
theorem kI_i1 {x : Int32} {n : Nat} (h : n < 2 ^ 31) : x < nI n ↔ x.toInt < n := by rw [Int32.lt_iff_toInt_lt, nI_toInt h]
theorem kI_i2 {x : Int32} {n : Nat} (h : n < 2 ^ 31) : nI n < x ↔ (n : Int) < x.toInt := by rw [Int32.lt_iff_toInt_lt, nI_toInt h]
theorem kI_i3 {x : Int32} {n : Nat} (h : n < 2 ^ 31) : x = nI n ↔ x.toInt = n := by rw [← Int32.toInt_inj, nI_toInt h]
theorem sp_X4_allows {σ : ka_S} {s x : Int32} {Q : Int32 → ka_S → Prop} (h1 : mc_set s x → Q 1 σ) (h0 : ¬ mc_set s x → Q 0 σ) : kw_X4_allows σ s x Q := by
  unfold kw_X4_allows
  have d1 : ¬ ((9 : Int32) = 10) := by decide
  have d2 : ¬ ((9 : Int32) = 11) := by decide
  have d3 : ¬ ((10 : Int32) = 9) := by decide
  have d4 : ¬ ((10 : Int32) = 11) := by decide
  have d5 : ¬ ((11 : Int32) = 9) := by decide
  have d6 : ¬ ((11 : Int32) = 10) := by decide
  refine ⟨fun e => ?_, fun e => ⟨fun e2 => ?_, fun e2 => ⟨fun e3 => ?_, fun e3 => ?_⟩⟩⟩
  · refine ⟨fun q => h0 (fun c => ?_), fun q => ⟨fun q2 => h0 (fun c => ?_), fun q2 => h1 (Or.inl ⟨e, ?_, ?_⟩)⟩⟩
    · rw [show (10 : Int32) = nI 10 from rfl, kI_i1 (by decide)] at q
      rcases c with c | c | c
      · omega
      · exact d1 (e.symm.trans c.1)
      · exact d2 (e.symm.trans c.1)
    · rw [show (60 : Int32) = nI 60 from rfl, kI_i2 (by decide)] at q2
      rcases c with c | c | c
      · omega
      · exact d1 (e.symm.trans c.1)
      · exact d2 (e.symm.trans c.1)
    · rw [show (10 : Int32) = nI 10 from rfl, kI_i1 (by decide)] at q
      omega
    · rw [show (60 : Int32) = nI 60 from rfl, kI_i2 (by decide)] at q2
      omega
  · refine ⟨fun q => h0 (fun c => ?_), fun q => ⟨fun q2 => h0 (fun c => ?_), fun q2 => h1 (Or.inr (Or.inl ⟨e2, ?_, ?_⟩))⟩⟩
    · rw [show (1 : Int32) = nI 1 from rfl, kI_i1 (by decide)] at q
      rcases c with c | c | c
      · exact e c.1
      · omega
      · exact d4 (e2.symm.trans c.1)
    · rw [show (3 : Int32) = nI 3 from rfl, kI_i2 (by decide)] at q2
      rcases c with c | c | c
      · exact e c.1
      · omega
      · exact d4 (e2.symm.trans c.1)
    · rw [show (1 : Int32) = nI 1 from rfl, kI_i1 (by decide)] at q
      omega
    · rw [show (3 : Int32) = nI 3 from rfl, kI_i2 (by decide)] at q2
      omega
  · refine ⟨fun q => h1 (Or.inr (Or.inr ⟨e3, ?_, ?_⟩)), fun q => ⟨fun q2 => h1 (Or.inr (Or.inr ⟨e3, ?_, ?_⟩)), fun q2 => h0 (fun c => ?_)⟩⟩
    · rw [q]; decide
    · rw [q]; decide
    · rw [q2]; decide
    · rw [q2]; decide
    · rw [show (0 : Int32) = nI 0 from rfl, kI_i3 (by decide)] at q
      rw [show (1 : Int32) = nI 1 from rfl, kI_i3 (by decide)] at q2
      rcases c with c | c | c
      · exact e c.1
      · exact e2 c.1
      · omega
  · exact h0 (fun c => by
      rcases c with c | c | c
      · exact e c.1
      · exact e2 c.1
      · exact e3 c.1)
