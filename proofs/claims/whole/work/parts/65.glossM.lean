/-! ===== the reference: letters of a text ===== -/
theorem sp_X9_isLetter {σ : ka_S} {t : Nat} {Q : Int32 → ka_S → Prop} (ht : t < 2 ^ 31) (h1 : 97 ≤ t ∧ t ≤ 122 → Q 1 σ) (h0 : ¬ (97 ≤ t ∧ t ≤ 122) → Q 0 σ) : kw_X9_isLetter σ (nI t) Q := by
  unfold kw_X9_isLetter
  refine sp_X9_in (fun q => ⟨Or.inr rfl, h1 ?_⟩) (fun q => ⟨Or.inl rfl, h0 ?_⟩)
  · rw [kI_l, nI_toInt ht, show (97 : Int64).toInt = 97 from rfl, show (122 : Int64).toInt = 122 from rfl] at q
    omega
  · rw [kI_l, nI_toInt ht, show (97 : Int64).toInt = 97 from rfl, show (122 : Int64).toInt = 122 from rfl] at q
    omega
theorem sp_X9_isGlossLetter {σ : ka_S} {t : Nat} {Q : Int32 → ka_S → Prop} (ht : t < 2 ^ 31) (h1 : (97 ≤ t ∧ t ≤ 122) ∨ t = 46 → Q 1 σ) (h0 : ¬ ((97 ≤ t ∧ t ≤ 122) ∨ t = 46) → Q 0 σ) : kw_X9_isGlossLetter σ (nI t) Q := by
  unfold kw_X9_isGlossLetter
  refine sp_X9_isLetter ht (fun h => ⟨fun h2 => absurd h2 (by decide), fun _ => h1 (Or.inl h)⟩) (fun h => ⟨fun _ => ?_, fun h2 => absurd rfl h2⟩)
  rw [kI_lit, nI_eq ht (by decide)]
  exact ⟨fun h2 => h1 (Or.inr h2), fun h2 => h0 (by omega)⟩
theorem sp_X9_isMark {σ : ka_S} {t : Nat} {Q : Int32 → ka_S → Prop} (ht : t < 2 ^ 31) (h1 : t = 45 ∨ t = 61 → Q 1 σ) (h0 : ¬ (t = 45 ∨ t = 61) → Q 0 σ) : kw_X9_isMark σ (nI t) Q := by
  unfold kw_X9_isMark
  simp (disch := omega) only [nI_leI, nI_ltI, nI_eq, nI_add, nI_clamp, kI_in, pk_mul, pk_sub, kI_lit, kI_litL, nI_l, lN_i, lN_add, pk_lEQ, forall_eq, kI_m1, Nat.reduceAdd, Nat.reduceMul, Nat.reduceSub, Nat.reduceLT, Nat.reduceLeDiff, Nat.reduceEqDiff, Nat.reducePow, Nat.reduceMod, Nat.reduceDiv, true_implies, false_implies, and_true, true_and, not_true_eq_false, not_false_eq_true, implies_true, Nat.zero_add, Nat.add_zero]
  refine ⟨fun h => h1 (by omega), fun h => ⟨fun h2 => h1 (by omega), fun h2 => h0 (by omega)⟩⟩
theorem sp_X9_isGloss_0 {σ : ka_S} {m : Nat} {t : Nat → Nat} {Q : Int32 → ka_S → Prop} (ht : rd_T σ m t) (hm : m ≤ 60) (h0 : Q 0 σ) : ∀ (n k : Nat), k ≤ m → m < k + n → kw_X9_isGloss_17 Q n σ 0 (nI k) := by
  intro n
  induction n with
  | zero => intro k q1 q2; omega
  | succ n ih =>
    intro k q1 q2
    rw [kw_X9_isGloss_17, ht.1]
    refine ⟨fun _ => ⟨Or.inl rfl, h0⟩, fun q => ⟨fun _ => ?_, fun z => absurd rfl z⟩⟩
    rw [nI_leI (by omega) (by omega)] at q
    rw [forall_eq, show (nI k + 1 : Int32) = nI (k + 1) from nI_1 k]
    exact ih (k + 1) (by omega) (by omega)
theorem sp_X9_isGloss_1 {σ : ka_S} {m : Nat} {t : Nat → Nat} {Q : Int32 → ka_S → Prop} (ht : rd_T σ m t) (hm : m ≤ 8) (hc : ∀ k, k < m → t k < 256) (h1 : mc_gloss m t → Q 1 σ) (h0 : ¬ mc_gloss m t → Q 0 σ) :
    ∀ (n k : Nat), k ≤ m → m < k + n → (∀ j, j < k → (97 ≤ t j ∧ t j ≤ 122) ∨ t j = 46) → kw_X9_isGloss_17 Q n σ 1 (nI k) := by
  intro n
  induction n with
  | zero => intro k q1 q2; omega
  | succ n ih =>
    intro k q1 q2 hr
    rw [kw_X9_isGloss_17, ht.1]
    refine ⟨fun q => ⟨Or.inr rfl, ?_⟩, fun q => ⟨fun z => absurd z (by decide), fun _ => ⟨(kI_in (by omega)).mpr ?_, ?_⟩⟩⟩
    · rw [nI_leI (by omega) (by omega)] at q
      obtain rfl : k = m := by omega
      exact h1 ⟨hm, hr⟩
    · rw [nI_leI (by omega) (by omega)] at q
      omega
    · rw [nI_leI (by omega) (by omega)] at q
      have hk : k < m := by omega
      have h256 := hc k hk
      rw [nI_clamp (by omega), ht.2 k hk]
      refine sp_X9_isGlossLetter (by omega) (fun z => ⟨fun e => absurd e (by decide), fun _ => ?_⟩) (fun z => ⟨fun _ => ?_, fun e => absurd rfl e⟩)
      · rw [forall_eq, show (nI k + 1 : Int32) = nI (k + 1) from nI_1 k]
        refine ih (k + 1) (by omega) (by omega) (fun j hj => ?_)
        by_cases e : j = k
        · rw [e]; exact z
        · exact hr j (by omega)
      · rw [forall_eq, show (nI k + 1 : Int32) = nI (k + 1) from nI_1 k]
        exact sp_X9_isGloss_0 ht (by omega) (h0 (fun c => z (c.2 k hk))) n (k + 1) (by omega) (by omega)
theorem sp_X9_isGloss {σ : ka_S} {m : Nat} {t : Nat → Nat} {Q : Int32 → ka_S → Prop} (ht : rd_T σ m t) (hm : m ≤ 60) (hc : ∀ k, k < m → t k < 256) (h1 : mc_gloss m t → Q 1 σ) (h0 : ¬ mc_gloss m t → Q 0 σ) : kw_X9_isGloss σ Q := by
  unfold kw_X9_isGloss
  rw [ht.1, kI_lit, nI_ltI (by decide) (by omega)]
  refine ⟨fun q => ⟨61, sp_X9_isGloss_0 ht hm (h0 (fun c => by have := c.1; omega)) 61 0 (Nat.zero_le _) (by omega)⟩, fun q => ⟨61, sp_X9_isGloss_1 ht (by omega) hc h1 h0 61 0 (Nat.zero_le _) (by omega) (fun j hj => absurd hj (Nat.not_lt_zero j))⟩⟩
theorem sp_X9_isEntry {σ : ka_S} {v : Int32} {M : ma_P} {Q : Int32 → ka_S → Prop} (ok : mp_ok M) (hp : rd_P σ (37, 0, 0) M) (h1 : ∀ e, e < mp_L M → v = nI e → Q 1 σ) (h0 : (∀ e, e < mp_L M → v ≠ nI e) → Q 0 σ) : kw_X9_isEntry σ v Q := by
  have hL := ok.2.1
  unfold kw_X9_isEntry
  refine ⟨(kI_in (k := 1) (by decide)).mpr (by decide), ?_⟩
  rw [show (1 : Int32).toNatClampNeg = 1 from rfl, hp.1.2.1]
  have e1 : (lN (mp_L M) - (1 : Int64)).toInt = (mp_L M : Int) - 1 := by
    rcases Nat.eq_zero_or_pos (mp_L M) with q | q
    · rw [q]; rfl
    · rw [lN_m1 q, lN_toInt (by omega)]
      omega
  refine sp_X9_in (fun q => ⟨Or.inr rfl, ?_⟩) (fun q => ⟨Or.inl rfl, h0 (fun i hi e => q ?_)⟩)
  · rw [kI_l, e1, show (0 : Int64).toInt = 0 from rfl] at q
    obtain ⟨i, hi, e⟩ := kI_ex (n := mp_L M) q.1 (by omega)
    exact h1 i hi e
  · rw [e, kI_l, e1, nI_toInt (by omega), show (0 : Int64).toInt = 0 from rfl]
    refine ⟨Int.natCast_nonneg i, by omega⟩
