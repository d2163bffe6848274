/-! ===== the reference's text; settings allowed ===== -/
def rd_T (σ : ka_S) (n : Nat) (t : Nat → Nat) : Prop := σ.1 (25, 0, 0) 2 = nI n ∧ ∀ k, k < n → σ.1 (26, 0, 0) k = nI (t k)
theorem lN_tI (n : Nat) (h : n < 2 ^ 31) : (lN n).toInt = n := lN_toInt h
theorem sp_X9_isSetting {σ : ka_S} {s x : Int32} {Q : Int32 → ka_S → Prop} (h1 : mc_set s x → Q 1 σ) (h0 : ¬ mc_set s x → Q 0 σ) : kw_X9_isSetting σ s x Q := by
  unfold kw_X9_isSetting
  have l10 : (10 : Int64).toInt = 10 := rfl
  have l60 : (60 : Int64).toInt = 60 := rfl
  have l1 : (1 : Int64).toInt = 1 := rfl
  have l3 : (3 : Int64).toInt = 3 := rfl
  have l0 : (0 : Int64).toInt = 0 := rfl
  have d1 : ¬ ((9 : Int32) = 10) := by decide
  have d2 : ¬ ((9 : Int32) = 11) := by decide
  have d4 : ¬ ((10 : Int32) = 11) := by decide
  refine ⟨fun e => sp_X9_in (fun q => ⟨Or.inr rfl, h1 (Or.inl ⟨e, ?_, ?_⟩)⟩) (fun q => ⟨Or.inl rfl, h0 (fun c => ?_)⟩), fun e => ⟨fun e2 => sp_X9_in (fun q => ⟨Or.inr rfl, h1 (Or.inr (Or.inl ⟨e2, ?_, ?_⟩))⟩) (fun q => ⟨Or.inl rfl, h0 (fun c => ?_)⟩), fun e2 =>
    ⟨fun e3 => sp_X9_in (fun q => ⟨fun z => absurd z (by decide), fun _ => h1 (Or.inr (Or.inr ⟨e3, ?_, ?_⟩))⟩) (fun q => ⟨fun _ => h0 (fun c => ?_), fun z => absurd rfl z⟩), fun e3 => h0 (fun c => ?_)⟩⟩⟩
  · rw [kI_l, l10, l60] at q; exact q.1
  · rw [kI_l, l10, l60] at q; exact q.2
  · rw [kI_l, l10, l60] at q
    rcases c with c | c | c
    · exact q c.2
    · exact d1 (e.symm.trans c.1)
    · exact d2 (e.symm.trans c.1)
  · rw [kI_l, l1, l3] at q; exact q.1
  · rw [kI_l, l1, l3] at q; exact q.2
  · rw [kI_l, l1, l3] at q
    rcases c with c | c | c
    · exact e c.1
    · exact q c.2
    · exact d4 (e2.symm.trans c.1)
  · rw [kI_l, l0, l1] at q; exact q.1
  · rw [kI_l, l0, l1] at q; exact q.2
  · rw [kI_l, l0, l1] at q
    rcases c with c | c | c
    · exact e c.1
    · exact e2 c.1
    · exact q c.2
  · rcases c with c | c | c
    · exact e c.1
    · exact e2 c.1
    · exact e3 c.1
theorem sp_X9_isFree_0 {σ : ka_S} {m : Nat} {t : Nat → Nat} {Q : Int32 → ka_S → Prop} (ht : rd_T σ m t) (hm : m ≤ 60) (h0 : Q 0 σ) : ∀ (n k : Nat), k ≤ m → m < k + n → kw_X9_isFree_17 Q n σ 0 (nI k) := by
  intro n
  induction n with
  | zero => intro k q1 q2; omega
  | succ n ih =>
    intro k q1 q2
    rw [kw_X9_isFree_17, ht.1]
    refine ⟨fun _ => ⟨Or.inl rfl, h0⟩, fun q => ⟨fun _ => ?_, fun z => absurd rfl z⟩⟩
    rw [nI_leI (by omega) (by omega)] at q
    rw [forall_eq, show (nI k + 1 : Int32) = nI (k + 1) from nI_1 k]
    exact ih (k + 1) (by omega) (by omega)
theorem sp_X9_isFree_1 {σ : ka_S} {m : Nat} {t : Nat → Nat} {Q : Int32 → ka_S → Prop} (ht : rd_T σ m t) (hm : m ≤ 24) (hc : ∀ k, k < m → t k < 256) (h1 : mc_free m t → Q 1 σ) (h0 : ¬ mc_free m t → Q 0 σ) :
    ∀ (n k : Nat), k ≤ m → m < k + n → (∀ j, j < k → 32 ≤ t j ∧ t j ≤ 126) → kw_X9_isFree_17 Q n σ 1 (nI k) := by
  intro n
  induction n with
  | zero => intro k q1 q2; omega
  | succ n ih =>
    intro k q1 q2 hr
    rw [kw_X9_isFree_17, ht.1]
    refine ⟨fun q => ⟨Or.inr rfl, ?_⟩, fun q => ⟨fun z => absurd z (by decide), fun _ => ⟨(kI_in (by omega)).mpr ?_, ?_⟩⟩⟩
    · rw [nI_leI (by omega) (by omega)] at q
      obtain rfl : k = m := by omega
      exact h1 ⟨hm, hr⟩
    · rw [nI_leI (by omega) (by omega)] at q
      omega
    · rw [nI_leI (by omega) (by omega)] at q
      have hk : k < m := by omega
      have h256 := hc k hk
      rw [nI_clamp (by omega), ht.2 k hk]
      refine sp_X9_in (fun z => ⟨fun e => absurd e (by decide), fun _ => ?_⟩) (fun z => ⟨fun _ => ?_, fun e => absurd rfl e⟩)
      · rw [kI_l, nI_toInt (by omega), show (32 : Int64).toInt = 32 from rfl, show (126 : Int64).toInt = 126 from rfl] at z
        rw [forall_eq, show (nI k + 1 : Int32) = nI (k + 1) from nI_1 k]
        refine ih (k + 1) (by omega) (by omega) (fun j hj => ?_)
        by_cases e : j = k
        · rw [e]; omega
        · exact hr j (by omega)
      · rw [kI_l, nI_toInt (by omega), show (32 : Int64).toInt = 32 from rfl, show (126 : Int64).toInt = 126 from rfl] at z
        rw [forall_eq, show (nI k + 1 : Int32) = nI (k + 1) from nI_1 k]
        exact sp_X9_isFree_0 ht (by omega) (h0 (fun c => by have := c.2 k hk; omega)) n (k + 1) (by omega) (by omega)
theorem sp_X9_isFree {σ : ka_S} {m : Nat} {t : Nat → Nat} {Q : Int32 → ka_S → Prop} (ht : rd_T σ m t) (hm : m ≤ 60) (hc : ∀ k, k < m → t k < 256) (h1 : mc_free m t → Q 1 σ) (h0 : ¬ mc_free m t → Q 0 σ) : kw_X9_isFree σ Q := by
  unfold kw_X9_isFree
  rw [ht.1, kI_lit, nI_ltI (by decide) (by omega)]
  refine ⟨fun q => ⟨61, sp_X9_isFree_0 ht hm (h0 (fun c => by have := c.1; omega)) 61 0 (Nat.zero_le _) (by omega)⟩, fun q => ⟨61, sp_X9_isFree_1 ht (by omega) hc h1 h0 61 0 (Nat.zero_le _) (by omega) (fun j hj => absurd hj (Nat.not_lt_zero j))⟩⟩
