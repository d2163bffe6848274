/-! ===== the reference's rows, written ===== -/
def xc (a : ka_K) (d n : Nat) (k : ka_K) (j : Nat) : Prop := k = a ∧ d ≤ j ∧ j < d + n
theorem sp_X9_copy_3 {σ0 : ka_S} {a a2 : ka_K} {s d m : Nat} {Q : ka_S → Prop} (hs : s + m ≤ ka_n a) (hd : d + m ≤ ka_n a2) (hb : s + m < 2 ^ 31 ∧ d + m < 2 ^ 31) (hov : a ≠ a2 ∨ d ≤ s ∨ s + m ≤ d)
    (h : ∀ σ', ag (xc a2 d m) σ0 σ' → (∀ j, j < m → σ'.2 a2 (d + j) = σ0.2 a (s + j)) → Q σ') :
    ∀ (n k : Nat) (σ : ka_S), k ≤ m → m < k + n → ag (xc a2 d k) σ0 σ → (∀ j, j < k → σ.2 a2 (d + j) = σ0.2 a (s + j)) → kw_X9_copy_3 a a2 Q n σ (nI s) (nI d) (nI m) (nI k) := by
  intro n
  induction n with
  | zero => intro k σ h1 h2; omega
  | succ n ih =>
    intro k σ h1 h2 ha hr
    rw [kw_X9_copy_3, nI_leI (by omega) (by omega), nI_add, nI_add]
    refine ⟨fun q => ?_, fun q => ⟨(kI_in (by omega)).mpr (by omega), (kI_in (by omega)).mpr (by omega), ?_⟩⟩
    · obtain rfl : k = m := by omega
      exact h σ ha hr
    · rw [nI_clamp (by omega), nI_clamp (by omega), forall_eq, forall_eq, show (nI k + 1 : Int32) = nI (k + 1) from nI_1 k]
      have e : σ.2 a (s + k) = σ0.2 a (s + k) := (ha a (s + k) (fun q => by
        rcases hov with z | z | z
        · exact z q.1
        · have := q.2; omega
        · have := q.2; omega)).2
      refine ih (k + 1) _ (by omega) (by omega) (ag_L (ag_mono ha (fun k' j' q => ⟨q.1, q.2.1, by have := q.2.2; omega⟩)) ⟨rfl, by omega, by omega⟩) (fun j hj => ?_)
      rw [st_L]
      by_cases q2 : j = k
      · rw [q2, if_pos ⟨rfl, rfl⟩, e]
      · rw [if_neg (fun z => q2 (by have := z.2; omega))]
        exact hr j (by omega)
theorem sp_X9_copy {σ : ka_S} {a a2 : ka_K} {s d m : Nat} {Q : ka_S → Prop} (hs : s + m ≤ ka_n a) (hd : d + m ≤ ka_n a2) (hb : s + m < 2 ^ 31 ∧ d + m < 2 ^ 31) (hov : a ≠ a2 ∨ d ≤ s ∨ s + m ≤ d)
    (h : ∀ σ', ag (xc a2 d m) σ σ' → (∀ j, j < m → σ'.2 a2 (d + j) = σ.2 a (s + j)) → Q σ') : kw_X9_copy σ a a2 (nI s) (nI d) (nI m) Q :=
  ⟨m + 1, sp_X9_copy_3 hs hd hb hov h (m + 1) 0 σ (Nat.zero_le _) (by omega) ag_refl (fun j hj => absurd hj (Nat.not_lt_zero j))⟩
/-- a row of its own -/
def xr (a : ka_K) (k : ka_K) (j : Nat) : Prop := k = a
theorem xc_r {a : ka_K} {d n : Nat} (k : ka_K) (j : Nat) (h : xc a d n k j) : xr a k j := h.1
theorem sp_X9_clean_2 {σ0 : ka_S} {a : ka_K} {Q : ka_S → Prop} (hn : ka_n a = 253) (h : ∀ σ', ag (xr a) σ0 σ' → rd_P σ' a mp_new → Q σ') :
    ∀ (n k : Nat) (σ : ka_S), k ≤ 253 → 253 < k + n → ag (xr a) σ0 σ → (∀ j, j < k → σ.2 a j = 0) → kw_X9_clean_2 a Q n σ (nI k) := by
  intro n
  induction n with
  | zero => intro k σ h1 h2; omega
  | succ n ih =>
    intro k σ h1 h2 ha hr
    rw [kw_X9_clean_2, hn]
    refine ⟨fun q => ?_, fun q => ?_⟩
    · rw [kI_lit, nI_leI (by decide) (by omega)] at q
      obtain rfl : k = 253 := by omega
      refine ⟨(kI_in (k := 2) (by decide)).mpr (by decide), ?_⟩
      rw [forall_eq]
      refine ⟨(kI_in (k := 3) (by decide)).mpr (by decide), ?_⟩
      rw [forall_eq]
      refine ⟨(kI_in (k := 4) (by decide)).mpr (by decide), ?_⟩
      rw [forall_eq, show (2 : Int32).toNatClampNeg = 2 from rfl, show (3 : Int32).toNatClampNeg = 3 from rfl, show (4 : Int32).toNatClampNeg = 4 from rfl]
      refine h _ (ag_L (ag_L (ag_L ha rfl) rfl) rfl) ⟨⟨?_, ?_, ?_, ?_, ?_⟩, fun i hi => absurd hi (Nat.not_lt_zero i), fun e he => absurd he (Nat.not_lt_zero e)⟩
      · simp only [st_I, st_L, st_I2, st_L1, Prod.mk.injEq, Nat.reduceEqDiff, false_and, and_false, true_and, and_true, and_self, if_false, if_true, reduceIte]
        exact hr 0 (by decide)
      · simp only [st_I, st_L, st_I2, st_L1, Prod.mk.injEq, Nat.reduceEqDiff, false_and, and_false, true_and, and_true, and_self, if_false, if_true, reduceIte]
        exact hr 1 (by decide)
      · simp only [st_I, st_L, st_I2, st_L1, Prod.mk.injEq, Nat.reduceEqDiff, false_and, and_false, true_and, and_true, and_self, if_false, if_true, reduceIte]
        rfl
      · simp only [st_I, st_L, st_I2, st_L1, Prod.mk.injEq, Nat.reduceEqDiff, false_and, and_false, true_and, and_true, and_self, if_false, if_true, reduceIte]
        rfl
      · simp only [st_I, st_L, st_I2, st_L1, Prod.mk.injEq, Nat.reduceEqDiff, false_and, and_false, true_and, and_true, and_self, if_false, if_true, reduceIte]
        rfl
    · rw [kI_lit, nI_leI (by decide) (by omega)] at q
      refine ⟨(kI_in (by omega)).mpr (by omega), ?_⟩
      rw [nI_clamp (by omega), forall_eq, forall_eq, show (nI k + 1 : Int32) = nI (k + 1) from nI_1 k]
      refine ih (k + 1) _ (by omega) (by omega) (ag_L ha rfl) (fun j hj => ?_)
      rw [st_L]
      by_cases q2 : j = k
      · rw [if_pos ⟨rfl, q2⟩]
      · rw [if_neg (fun z => q2 z.2)]
        exact hr j (by omega)
theorem sp_X9_clean {σ : ka_S} {a : ka_K} {Q : ka_S → Prop} (hn : ka_n a = 253) (h : ∀ σ', ag (xr a) σ σ' → rd_P σ' a mp_new → Q σ') : kw_X9_clean σ a Q :=
  ⟨254, sp_X9_clean_2 hn h 254 0 σ (Nat.zero_le _) (by decide) ag_refl (fun j hj => absurd hj (Nat.not_lt_zero j))⟩
theorem lN_m1 {n : Nat} (h : 1 ≤ n) : lN n - (1 : Int64) = lN (n - 1) := lN_sub h
theorem sp_X9_removeOn {σ : ka_S} {a : ka_K} {i : Nat} {M : ma_P} {Q : ka_S → Prop} (hn : ka_n a = 253) (ok : mp_ok M) (hp : rd_P σ a M) (hi : i < mp_N M) (h : ∀ σ', ag (xr a) σ σ' → rd_P σ' a (mp_remove M i) → Q σ') : kw_X9_removeOn σ a (nI i) Q := by
  have hN := ok.1
  have hL := ok.2.1
  unfold kw_X9_removeOn
  refine sp_X9_many hn hp ?_
  have e1 : (5 : Int32) + 18 * (nI i + 1) = nI (5 + 18 * (i + 1)) := by
    rw [show (nI i + 1 : Int32) = nI (i + 1) from nI_1 i, kI_lit, kI_lit, pk_mul, nI_add]
  have e2 : (5 : Int32) + 18 * nI i = nI (5 + 18 * i) := by rw [kI_lit, kI_lit, pk_mul, nI_add]
  have e3 : (18 : Int32) * ((nI (mp_N M) - 1) - nI i) = nI (18 * (mp_N M - 1 - i)) := by
    rw [kI_lit, kI_lit, kI_sub (show 1 ≤ mp_N M by omega), kI_sub (show i ≤ mp_N M - 1 by omega), pk_mul]
  rw [e1, e2, e3]
  refine sp_X9_copy (by omega) (by omega) (by omega) (Or.inr (Or.inl (by omega))) (fun σ1 a1 r1 => ?_)
  have c0 : σ1.2 a 0 = lN (mp_N M) := (a1 a 0 (fun q => by have := q.2; omega)).2.trans hp.1.1
  rw [hn, show (0 : Int32).toNatClampNeg = 0 from rfl, c0, lN_m1 (by omega)]
  refine ⟨(kI_in (k := 0) (by decide)).mpr (by decide), (kI_in (k := 0) (by decide)).mpr (by decide), ?_⟩
  rw [forall_eq]
  have out : ∀ j, j ≠ 0 → ¬ (5 + 18 * i ≤ j ∧ j < 5 + 18 * i + 18 * (mp_N M - 1 - i)) → (ka_wL σ1 a 0 (lN (mp_N M - 1))).2 a j = σ.2 a j := fun j h0 hj => by
    rw [st_L, if_neg (fun z => h0 z.2)]
    exact (a1 a j (fun q => hj q.2)).2
  refine h _ (ag_L (ag_mono a1 xc_r) rfl) ⟨⟨?_, ?_, ?_, ?_, ?_⟩, fun j hj => ?_, fun e he => ?_⟩
  · rw [st_L, if_pos ⟨rfl, rfl⟩]; rfl
  · exact (out 1 (by decide) (by omega)).trans hp.1.2.1
  · exact (out 2 (by decide) (by omega)).trans hp.1.2.2.1
  · exact (out 3 (by decide) (by omega)).trans hp.1.2.2.2.1
  · exact (out 4 (by decide) (by omega)).trans hp.1.2.2.2.2
  · have hj' : j < mp_N M - 1 := hj
    show rd_Wf _ (mf_cut (mp_D M) i j)
    unfold mf_cut
    by_cases q : j < i
    · rw [if_pos q]
      refine rd_Wf_congr (ok.2.2.2.2.2.1 j (by omega)) (hp.2.1 j (by omega)) (fun c hc => ?_)
      exact out _ (by omega) (by omega)
    · rw [if_neg q]
      refine rd_Wf_congr (ok.2.2.2.2.2.1 (j + 1) (by omega)) (hp.2.1 (j + 1) (by omega)) (fun c hc => ?_)
      have := r1 (18 * (j - i) + c) (by omega)
      show (ka_wL σ1 a 0 (lN (mp_N M - 1))).2 a (5 + 18 * j + c) = σ.2 a (5 + 18 * (j + 1) + c)
      rw [st_L, if_neg (fun z => by have := z.2; omega)]
      rw [show 5 + 18 * i + (18 * (j - i) + c) = 5 + 18 * j + c by omega, show 5 + 18 * (i + 1) + (18 * (j - i) + c) = 5 + 18 * (j + 1) + c by omega] at this
      exact this
  · have he' : e < mp_L M := he
    exact ⟨(out _ (by omega) (by omega)).trans (hp.2.2 e he').1, (out _ (by omega) (by omega)).trans (hp.2.2 e he').2⟩
/-- an entry is dropped: the end of the reference's forget -/
theorem sp_X9_forgetOn {σ : ka_S} {a : ka_K} {e : Nat} {M : ma_P} {Q : ka_S → Prop} (hn : ka_n a = 253) (ok : mp_ok M) (hp : rd_P σ a M) (he : e < mp_L M) (h : ∀ σ', ag (xr a) σ σ' → rd_P σ' a (mp_forget M e) → Q σ') :
    kw_X9_copy σ a a (nI (223 + 2 * e)) (nI (221 + 2 * e)) (nI (2 * (mp_L M - 1 - e))) (fun σ7 => ∀ σ10, σ10 = ka_wL σ7 a 1 ((σ7.2 a 1) - 1) → Q σ10) := by
  have hN := ok.1
  have hL := ok.2.1
  refine sp_X9_copy (by omega) (by omega) (by omega) (Or.inr (Or.inl (by omega))) (fun σ1 a1 r1 => ?_)
  have c0 : σ1.2 a 1 = lN (mp_L M) := (a1 a 1 (fun q => by have := q.2; omega)).2.trans hp.1.2.1
  rw [c0, lN_m1 (by omega), forall_eq]
  have out : ∀ j, j ≠ 1 → ¬ (221 + 2 * e ≤ j ∧ j < 221 + 2 * e + 2 * (mp_L M - 1 - e)) → (ka_wL σ1 a 1 (lN (mp_L M - 1))).2 a j = σ.2 a j := fun j h0 hj => by
    rw [st_L, if_neg (fun z => h0 z.2)]
    exact (a1 a j (fun q => hj q.2)).2
  refine h _ (ag_L (ag_mono a1 xc_r) rfl) ⟨⟨?_, ?_, ?_, ?_, ?_⟩, fun j hj => ?_, fun j hj => ?_⟩
  · exact (out 0 (by decide) (by omega)).trans hp.1.1
  · rw [st_L, if_pos ⟨rfl, rfl⟩]; rfl
  · exact (out 2 (by decide) (by omega)).trans hp.1.2.2.1
  · exact (out 3 (by decide) (by omega)).trans hp.1.2.2.2.1
  · exact (out 4 (by decide) (by omega)).trans hp.1.2.2.2.2
  · have hj' : j < mp_N M := hj
    exact rd_Wf_congr (ok.2.2.2.2.2.1 j hj') (hp.2.1 j hj') (fun c hc => out _ (by omega) (by omega))
  · have hj' : j < mp_L M - 1 := hj
    show _ = lN (ma_M (mf_cut (mp_A M) e j)) ∧ _ = lN (ma_M (mf_cut (mp_B M) e j))
    unfold mf_cut
    by_cases q : j < e
    · rw [if_pos q, if_pos q]
      exact ⟨(out _ (by omega) (by omega)).trans (hp.2.2 j (by omega)).1, (out _ (by omega) (by omega)).trans (hp.2.2 j (by omega)).2⟩
    · rw [if_neg q, if_neg q]
      have t1 := r1 (2 * (j - e)) (by omega)
      have t2 := r1 (2 * (j - e) + 1) (by omega)
      rw [show 221 + 2 * e + 2 * (j - e) = 221 + 2 * j by omega, show 223 + 2 * e + 2 * (j - e) = 221 + 2 * (j + 1) by omega] at t1
      rw [show 221 + 2 * e + (2 * (j - e) + 1) = 222 + 2 * j by omega, show 223 + 2 * e + (2 * (j - e) + 1) = 222 + 2 * (j + 1) by omega] at t2
      rw [st_L, if_neg (fun z => by have := z.2; omega), st_L, if_neg (fun z => by have := z.2; omega), t1, t2]
      exact hp.2.2 (j + 1) (by omega)
