/-! ===== the reference's page: a row of longs ===== -/
def mk_c (R : Nat → Nat) (F j i : Nat) : Nat := if 8 * j + i < F then R (8 * j + i) * 128 ^ i else 0
def mk_pack (R : Nat → Nat) (F j : Nat) : Nat := ma_sum (mk_c R F j) 8
def rd_Wf (g : Nat → Int64) (w : ma_W) : Prop := (g 0 = lN (mw_S w) ∧ g 1 = lN (mw_E w) ∧ g 2 = lN (mw_F w)) ∧ (∀ j, j < 3 → g (3 + j) = lN (mk_pack (mw_R w) (mw_F w) j)) ∧
  ∀ p, p < mw_S w → (0 < p → g (6 + 3 * p) = lN (mw_M w p)) ∧ g (7 + 3 * p) = lN (ma_M (mw_P w p)) ∧ g (8 + 3 * p) = lN (ma_M (mw_G w p))
def rd_F (f : Nat → Int64) (M : ma_P) : Prop := (f 0 = lN (mp_N M) ∧ f 1 = lN (mp_L M) ∧ f 2 = lN (mp_W M) ∧ f 3 = lN (mp_S M) ∧ f 4 = lN (mp_Y M)) ∧
  (∀ i, i < mp_N M → rd_Wf (fun j => f (5 + 18 * i + j)) (mp_D M i)) ∧ ∀ e, e < mp_L M → f (221 + 2 * e) = lN (ma_M (mp_A M e)) ∧ f (222 + 2 * e) = lN (ma_M (mp_B M e))
def rd_P (σ : ka_S) (a : ka_K) (M : ma_P) : Prop := rd_F (σ.2 a) M
def rd_at (σ : ka_S) (a : ka_K) (b : Nat) (M : ma_P) : Prop := rd_F (fun j => σ.2 a (b + j)) M
theorem rd_Wf_congr {f g : Nat → Int64} {w : ma_W} (ok : mw_ok w) (h : rd_Wf f w) (e : ∀ j, j < 18 → g j = f j) : rd_Wf g w := by
  have hS := ok.1.2
  refine ⟨⟨(e 0 (by decide)).trans h.1.1, (e 1 (by decide)).trans h.1.2.1, (e 2 (by decide)).trans h.1.2.2⟩, fun j hj => (e _ (by omega)).trans (h.2.1 j hj), fun p hp => ⟨fun h0 => (e _ (by omega)).trans ((h.2.2 p hp).1 h0), (e _ (by omega)).trans (h.2.2 p hp).2.1, (e _ (by omega)).trans (h.2.2 p hp).2.2⟩⟩
theorem rd_F_congr {f g : Nat → Int64} {M : ma_P} (ok : mp_ok M) (h : rd_F f M) (e : ∀ j, j < 253 → g j = f j) : rd_F g M := by
  have hN := ok.1
  have hL := ok.2.1
  refine ⟨⟨(e 0 (by decide)).trans h.1.1, (e 1 (by decide)).trans h.1.2.1, (e 2 (by decide)).trans h.1.2.2.1, (e 3 (by decide)).trans h.1.2.2.2.1, (e 4 (by decide)).trans h.1.2.2.2.2⟩,
    fun i hi => rd_Wf_congr (ok.2.2.2.2.2.1 i hi) (h.2.1 i hi) (fun j hj => e _ (by omega)), fun k hk => ⟨(e _ (by omega)).trans (h.2.2 k hk).1, (e _ (by omega)).trans (h.2.2 k hk).2⟩⟩
theorem rd_P_ag {X : ka_K → Nat → Prop} {σ σ' : ka_S} {a : ka_K} {M : ma_P} (ok : mp_ok M) (h : rd_P σ a M) (g : ag X σ σ') (hX : ∀ n, n < 253 → ¬ X a n) : rd_P σ' a M := rd_F_congr ok h (fun j hj => (g a j (hX j hj)).2)
/-! ===== the reference's small methods ===== -/
theorem sp_X9_in {σ : ka_S} {x lo hi : Int64} {Q : Int32 → ka_S → Prop} (h1 : lo.toInt ≤ x.toInt ∧ x.toInt ≤ hi.toInt → Q 1 σ) (h0 : ¬ (lo.toInt ≤ x.toInt ∧ x.toInt ≤ hi.toInt) → Q 0 σ) : kw_X9_in σ x lo hi Q := by
  unfold kw_X9_in
  rw [Int64.lt_iff_toInt_lt, Int64.lt_iff_toInt_lt]
  exact ⟨fun q => h0 (by omega), fun q => ⟨fun q2 => h0 (by omega), fun q2 => h1 (by omega)⟩⟩
theorem kI_tm1 {n : Nat} (h : n < 2 ^ 31) : (nI n - (1 : Int32)).toInt = (n : Int) - 1 := by
  rcases Nat.eq_zero_or_pos n with q | q
  · subst q
    rfl
  · rw [kI_lit, kI_sub (show 1 ≤ n from q), nI_toInt (by omega)]
    omega
theorem kI_ex {v : Int32} {n : Nat} (h0 : 0 ≤ v.toInt) (h1 : v.toInt < n) : ∃ i, i < n ∧ v = nI i := by
  have hv : ¬ v < 0 := by
    rw [Int32.lt_iff_toInt_lt, Int32.toInt_zero]
    omega
  obtain ⟨i, hi, rfl⟩ := nI_of hv
  rw [nI_toInt hi] at h1
  exact ⟨i, by omega, rfl⟩
theorem kI_l (v : Int32) : v.toInt64.toInt = v.toInt := Int32.toInt_toInt64 v
theorem sp_X9_many {σ : ka_S} {a : ka_K} {M : ma_P} {Q : Int32 → ka_S → Prop} (hn : ka_n a = 253) (hp : rd_P σ a M) (h : Q (nI (mp_N M)) σ) : kw_X9_many σ a Q := by
  unfold kw_X9_many
  rw [hn]
  refine ⟨(kI_in (k := 0) (by decide)).mpr (by decide), ?_⟩
  rw [show (0 : Int32).toNatClampNeg = 0 from rfl, hp.1.1, lN_i]
  exact h
theorem sp_X9_isWordOf {σ : ka_S} {a : ka_K} {v : Int32} {M : ma_P} {Q : Int32 → ka_S → Prop} (hn : ka_n a = 253) (ok : mp_ok M) (hp : rd_P σ a M) (h1 : ∀ i, i < mp_N M → v = nI i → Q 1 σ) (h0 : (∀ i, i < mp_N M → v ≠ nI i) → Q 0 σ) : kw_X9_isWordOf σ a v Q := by
  have hN := ok.1
  unfold kw_X9_isWordOf
  refine sp_X9_many hn hp (sp_X9_in (fun q => ⟨Or.inr rfl, ?_⟩) (fun q => ⟨Or.inl rfl, h0 (fun i hi e => q ?_)⟩))
  · rw [kI_l, kI_l, kI_tm1 (by omega)] at q
    obtain ⟨i, hi, e⟩ := kI_ex (n := mp_N M) q.1 (by omega)
    exact h1 i hi e
  · rw [e, kI_l, kI_l, kI_tm1 (by omega), nI_toInt (by omega)]
    refine ⟨Int.natCast_nonneg i, by omega⟩
theorem sp_X9_cell {σ : ka_S} {i j : Nat} {Q : Int32 → ka_S → Prop} (h : Q (nI (5 + 18 * i + j)) σ) : kw_X9_cell σ (nI i) (nI j) Q := by
  unfold kw_X9_cell
  rw [kI_lit, kI_lit, pk_mul, nI_add, nI_add]
  exact h
theorem sp_X9_mark {σ : ka_S} {i p : Nat} {Q : Int32 → ka_S → Prop} (h : Q (nI (5 + 18 * i + (6 + 3 * p))) σ) : kw_X9_mark σ (nI i) (nI p) Q := by
  unfold kw_X9_mark
  rw [kI_lit, kI_lit, pk_mul, nI_add]
  exact sp_X9_cell h
theorem sp_X9_partAt {σ : ka_S} {i p : Nat} {Q : Int32 → ka_S → Prop} (h : Q (nI (5 + 18 * i + (7 + 3 * p))) σ) : kw_X9_partAt σ (nI i) (nI p) Q := by
  unfold kw_X9_partAt
  rw [show ((6 : Int32) + 3 * nI p + 1) = nI (7 + 3 * p) by rw [kI_lit, kI_lit, kI_lit, pk_mul, nI_add, nI_add]; congr 1; omega]
  exact sp_X9_cell h
theorem sp_X9_glossAt {σ : ka_S} {i p : Nat} {Q : Int32 → ka_S → Prop} (h : Q (nI (5 + 18 * i + (8 + 3 * p))) σ) : kw_X9_glossAt σ (nI i) (nI p) Q := by
  unfold kw_X9_glossAt
  rw [show ((6 : Int32) + 3 * nI p + 2) = nI (8 + 3 * p) by rw [kI_lit, kI_lit, kI_lit, pk_mul, nI_add, nI_add]; congr 1; omega]
  exact sp_X9_cell h
theorem rd_s {σ : ka_S} {a : ka_K} {M : ma_P} {i : Nat} (hp : rd_P σ a M) (hi : i < mp_N M) : σ.2 a (5 + 18 * i + 0) = lN (mw_S (mp_D M i)) := (hp.2.1 i hi).1.1
theorem rd_e {σ : ka_S} {a : ka_K} {M : ma_P} {i : Nat} (hp : rd_P σ a M) (hi : i < mp_N M) : σ.2 a (5 + 18 * i + 1) = lN (mw_E (mp_D M i)) := (hp.2.1 i hi).1.2.1
theorem rd_f {σ : ka_S} {a : ka_K} {M : ma_P} {i : Nat} (hp : rd_P σ a M) (hi : i < mp_N M) : σ.2 a (5 + 18 * i + 2) = lN (mw_F (mp_D M i)) := (hp.2.1 i hi).1.2.2
theorem rd_m {σ : ka_S} {a : ka_K} {M : ma_P} {i p : Nat} (hp : rd_P σ a M) (hi : i < mp_N M) (h : p < mw_S (mp_D M i)) (h0 : 0 < p) : σ.2 a (5 + 18 * i + (6 + 3 * p)) = lN (mw_M (mp_D M i) p) := ((hp.2.1 i hi).2.2 p h).1 h0
theorem rd_p {σ : ka_S} {a : ka_K} {M : ma_P} {i p : Nat} (hp : rd_P σ a M) (hi : i < mp_N M) (h : p < mw_S (mp_D M i)) : σ.2 a (5 + 18 * i + (7 + 3 * p)) = lN (ma_M (mw_P (mp_D M i) p)) := ((hp.2.1 i hi).2.2 p h).2.1
theorem rd_g {σ : ka_S} {a : ka_K} {M : ma_P} {i p : Nat} (hp : rd_P σ a M) (hi : i < mp_N M) (h : p < mw_S (mp_D M i)) : σ.2 a (5 + 18 * i + (8 + 3 * p)) = lN (ma_M (mw_G (mp_D M i) p)) := ((hp.2.1 i hi).2.2 p h).2.2
theorem sp_X9_parts {σ : ka_S} {a : ka_K} {M : ma_P} {i : Nat} {Q : Int32 → ka_S → Prop} (hn : ka_n a = 253) (ok : mp_ok M) (hp : rd_P σ a M) (hi : i < mp_N M) (h : Q (nI (mw_S (mp_D M i))) σ) : kw_X9_parts σ a (nI i) Q := by
  have hN := ok.1
  unfold kw_X9_parts
  rw [hn, kI_lit]
  refine sp_X9_cell ⟨(kI_in (by omega)).mpr (by omega), ?_⟩
  rw [nI_clamp (by omega), rd_s hp hi, lN_i]
  exact h
theorem sp_X9_isPartOf {σ : ka_S} {a : ka_K} {v u : Int32} {M : ma_P} {Q : Int32 → ka_S → Prop} (hn : ka_n a = 253) (ok : mp_ok M) (hp : rd_P σ a M) (h1 : ∀ i p, i < mp_N M → p < mw_S (mp_D M i) → v = nI i → u = nI p → Q 1 σ)
    (h0 : (∀ i p, i < mp_N M → p < mw_S (mp_D M i) → ¬ (v = nI i ∧ u = nI p)) → Q 0 σ) : kw_X9_isPartOf σ a v u Q := by
  have hN := ok.1
  unfold kw_X9_isPartOf
  refine sp_X9_isWordOf hn ok hp (fun i hi e => ⟨fun q => absurd q (by decide), fun _ => ?_⟩) (fun q => ⟨fun _ => h0 (fun i p hi _ e => q i hi e.1), fun q2 => absurd rfl q2⟩)
  subst e
  have hS := (ok.2.2.2.2.2.1 i hi).1
  refine sp_X9_parts hn ok hp hi (sp_X9_in (fun q => ⟨fun z => absurd z (by decide), fun _ => ?_⟩) (fun q => ⟨fun _ => h0 (fun j p hj hpp e => q ?_), fun z => absurd rfl z⟩))
  · rw [kI_l, kI_l, kI_tm1 (by omega)] at q
    obtain ⟨p, hpp, e⟩ := kI_ex (n := mw_S (mp_D M i)) q.1 (by omega)
    exact h1 i p hi hpp rfl e
  · have hS' := (ok.2.2.2.2.2.1 j hj).1
    have e1 := e.1
    rw [nI_eq (by omega) (by omega)] at e1
    subst e1
    rw [e.2, kI_l, kI_l, kI_tm1 (by omega), nI_toInt (by omega)]
    refine ⟨Int.natCast_nonneg p, by omega⟩
