/-! ===== the reference takes a free line, a gloss ===== -/
theorem ma_sum_cut {f : Nat → Nat} {m : Nat} : ∀ d, (∀ i, m ≤ i → i < m + d → f i = 0) → ma_sum f (m + d) = ma_sum f m := by
  intro d
  induction d with
  | zero => intro _; rfl
  | succ d ih =>
    intro h
    show ma_sum f (m + d) + f (m + d) = _
    rw [ih (fun i h1 h2 => h i h1 (by omega)), h (m + d) (by omega) (by omega), Nat.add_zero]
theorem mk_pack_low {t : Nat → Nat} {k : Nat} (h : ∀ j, j < k → t j < 128) : mk_pack t k (k / 8) < 128 ^ (k % 8) := by
  have hm : k % 8 < 8 := Nat.mod_lt _ (by decide)
  have e := ma_sum_cut (f := fun i => (if 8 * (k / 8) + i < k then t (8 * (k / 8) + i) else 0) * 128 ^ i) (m := k % 8) (8 - k % 8) (fun i h1 h2 => by
    show (if 8 * (k / 8) + i < k then t (8 * (k / 8) + i) else 0) * 128 ^ i = 0
    rw [if_neg (by omega), Nat.zero_mul])
  rw [show k % 8 + (8 - k % 8) = 8 by omega] at e
  rw [mk_pack_d, e]
  refine mk_lt (d := fun i => if 8 * (k / 8) + i < k then t (8 * (k / 8) + i) else 0) _ (fun i hi => ?_)
  show (if 8 * (k / 8) + i < k then t (8 * (k / 8) + i) else 0) < 128
  by_cases q : 8 * (k / 8) + i < k
  · rw [if_pos q]; exact h _ q
  · rw [if_neg q]; decide
theorem mk_pw7 (m : Nat) : 2 ^ (7 * m) = 128 ^ m := by rw [Nat.pow_mul]
theorem mk_or {t : Nat → Nat} {k : Nat} (hk : k < 24) (h : ∀ j, j < k + 1 → t j < 128) : lN (mk_pack t k (k / 8)) ||| ((nI (t k)).toInt64 <<< (((7 : Int32) * (nI k - nI k / (8 : Int32) * (8 : Int32))).toInt64 &&& 63)) = lN (mk_pack t (k + 1) (k / 8)) := by
  have hm : k % 8 < 8 := Nat.mod_lt _ (by decide)
  have h1 := h k (Nat.lt_succ_self k)
  have e1 : (nI k - nI k / (8 : Int32) * (8 : Int32)) = nI (k % 8) := kI_rem (a := k) (b := 8) (by omega) (by decide) (by decide)
  have e2 : (7 : Int32) * nI (k % 8) = nI (7 * (k % 8)) := by rw [kI_lit, pk_mul]
  have hl := mk_pack_low (t := t) (k := k) (fun j hj => h j (by omega))
  have h3 : t k * 128 ^ (k % 8) + 128 ^ (k % 8) ≤ 128 ^ 8 := by
    have : (t k + 1) * 128 ^ (k % 8) ≤ 128 * 128 ^ (k % 8) := Nat.mul_le_mul_right _ (by omega)
    rw [Nat.succ_mul] at this
    have h4 : 128 * 128 ^ (k % 8) = 128 ^ (k % 8 + 1) := by rw [Nat.pow_succ, Nat.mul_comm]
    have h5 : (128 : Nat) ^ (k % 8 + 1) ≤ 128 ^ 8 := Nat.pow_le_pow_right (by decide) (by omega)
    omega
  have h6 : (128 : Nat) ^ 8 < 2 ^ 64 := by decide
  rw [e1, e2, nI_l (by omega), wb_shl _ (by omega), mk_pw7, mk_pack_step, if_pos rfl]
  exact g_or' (mk_pw7 (k % 8)) hl (by omega)
theorem sp_X9_setFree_110 {σ0 : ka_S} {i n E : Nat} {t : Nat → Nat} {M : ma_P} {Q : Int32 → ka_S → Prop} (ok : mp_ok M) (hp : rd_P σ0 (37, 0, 0) M) (hi : i < mp_N M) (ht : rd_T σ0 n t) (hf : mc_free n t) (hE : E = if 0 < n then 1 else mw_E (mp_D M i))
    (h : ∀ σ', ag (xr (37, 0, 0)) σ0 σ' → rd_P σ' (37, 0, 0) (mp_setD M i (mw_free (mp_D M i) n t)) → Q (nI n) σ') :
    ∀ (m k : Nat) (σ : ka_S), k ≤ n → n < k + m → ag (xc (37, 0, 0) (5 + 18 * i + 1) 5) σ0 σ → σ.2 (37, 0, 0) (5 + 18 * i + 1) = lN E → σ.2 (37, 0, 0) (5 + 18 * i + 2) = lN n → (∀ j, j < 3 → σ.2 (37, 0, 0) (5 + 18 * i + (3 + j)) = lN (mk_pack t k j)) → kw_X9_setFree_110 Q m σ (nI i) (nI k) := by
  intro m
  induction m with
  | zero => intro k σ h1 h2; omega
  | succ m ih =>
    intro k σ h1 h2 ha h3 h4 hr
    have hN := ok.1
    have hn := hf.1
    have e2 : σ.1 (25, 0, 0) 2 = nI n := (ha (25, 0, 0) 2 (fun q => absurd q.1 (by decide))).1.trans ht.1
    rw [kw_X9_setFree_110, e2, nI_leI (by omega) (by omega)]
    refine ⟨fun q => ?_, fun q => ?_⟩
    · obtain rfl : k = n := by omega
      have g := hp.2.1 i hi
      have out : ∀ j, ¬ (5 + 18 * i + 1 ≤ j ∧ j < 5 + 18 * i + 1 + 5) → σ.2 (37, 0, 0) j = σ0.2 (37, 0, 0) j := fun j hj => (ha (37, 0, 0) j (fun q => hj q.2)).2
      refine h σ (ag_mono ha xc_r) (rd_P_setD ok hp hi (fun j hj hn => out j (by omega)) ⟨⟨?_, ?_, ?_⟩, fun j hj => ?_, fun q hq => ⟨fun h0 => ?_, ?_, ?_⟩⟩)
      · exact (out _ (by omega)).trans g.1.1
      · show σ.2 (37, 0, 0) (5 + 18 * i + 1) = lN (if 0 < k then 1 else mw_E (mp_D M i))
        rw [h3, hE]
      · exact h4
      · exact hr j hj
      · exact (out _ (by omega)).trans ((g.2.2 q hq).1 h0)
      · exact (out _ (by omega)).trans (g.2.2 q hq).2.1
      · exact (out _ (by omega)).trans (g.2.2 q hq).2.2
    · have hk : k < n := by omega
      have e3 : (3 : Int32) + nI k / (8 : Int32) = nI (3 + k / 8) := by
        rw [kI_lit, kI_lit, pk_div (by omega) (by decide) (by decide), nI_add]
      have e4 : σ.1 (26, 0, 0) k = nI (t k) := (ha (26, 0, 0) k (fun q => absurd q.1 (by decide))).1.trans (ht.2 k hk)
      rw [e3]
      refine sp_X9_cell ?_
      rw [nI_clamp (by omega), nI_clamp (by omega), e4, hr (k / 8) (by omega), mk_or (by omega) (fun j hj => by have := hf.2 j (by omega); omega)]
      refine ⟨(kI_in (by omega)).mpr (by omega), (kI_in (by omega)).mpr (by omega), (kI_in (by omega)).mpr (by omega), ?_⟩
      rw [forall_eq, forall_eq, show (nI k + 1 : Int32) = nI (k + 1) from nI_1 k]
      refine ih (k + 1) _ (by omega) (by omega) (ag_L ha ⟨rfl, by omega, by omega⟩) ?_ ?_ (fun j hj => ?_)
      · rw [st_L, if_neg (fun z => by have := z.2; omega)]
        exact h3
      · rw [st_L, if_neg (fun z => by have := z.2; omega)]
        exact h4
      · rw [st_L]
        by_cases e : j = k / 8
        · rw [if_pos ⟨rfl, by omega⟩, e]
        · rw [if_neg (fun z => by have := z.2; omega), hr j hj, mk_pack_step, if_neg e, Nat.add_zero]
theorem sp_X9_setFree_39 {σ0 : ka_S} {i n : Nat} {t : Nat → Nat} {M : ma_P} {Q : Int32 → ka_S → Prop} (ok : mp_ok M) (hp : rd_P σ0 (37, 0, 0) M) (hi : i < mp_N M) (ht : rd_T σ0 n t) (hf : mc_free n t)
    (h : ∀ σ', ag (xr (37, 0, 0)) σ0 σ' → rd_P σ' (37, 0, 0) (mp_setD M i (mw_free (mp_D M i) n t)) → Q (nI n) σ') :
    ∀ (m k : Nat) (σ : ka_S), 2 ≤ k → k ≤ 6 → 6 < k + m → ag (xc (37, 0, 0) (5 + 18 * i + 2) 4) σ0 σ → (∀ j, 2 ≤ j → j < k → σ.2 (37, 0, 0) (5 + 18 * i + j) = 0) → kw_X9_setFree_39 Q m σ (nI i) (nI k) := by
  intro m
  induction m with
  | zero => intro k σ _ h1 h2; omega
  | succ m ih =>
    intro k σ h0 h1 h2 ha hr
    have hN := ok.1
    have hn := hf.1
    rw [kw_X9_setFree_39, show (6 : Int32) = nI 6 from rfl, nI_leI (by decide) (by omega)]
    refine ⟨fun q => ?_, fun q => sp_X9_cell ?_⟩
    · obtain rfl : k = 6 := by omega
      have e2 : σ.1 (25, 0, 0) 2 = nI n := (ha (25, 0, 0) 2 (fun q => absurd q.1 (by decide))).1.trans ht.1
      refine sp_X9_cell (j := 2) ⟨(kI_in (by omega)).mpr (by omega), ?_⟩
      rw [nI_clamp (by omega), e2, nI_l (by omega), forall_eq]
      have fin : ∀ (E : Nat) (x : Int64), x = lN E → E = (if 0 < n then 1 else mw_E (mp_D M i)) → kw_X9_setFree_107 Q (ka_wL σ (37, 0, 0) (5 + 18 * i + 2) (lN n)) (nI i) (nI (5 + 18 * i + 1)) x := by
        intro E x ex hE
        subst ex
        unfold kw_X9_setFree_107
        rw [nI_clamp (by omega)]
        refine ⟨(kI_in (by omega)).mpr (by omega), ?_⟩
        rw [forall_eq]
        refine ⟨25, sp_X9_setFree_110 ok hp hi ht hf hE h 25 0 _ (Nat.zero_le _) (by omega) (ag_L (ag_L (ag_mono ha (fun k j q => ⟨q.1, by have := q.2; omega, by have := q.2; omega⟩)) ⟨rfl, by omega, by omega⟩) ⟨rfl, by omega, by omega⟩) ?_ ?_ (fun j hj => ?_)⟩
        · rw [st_L, if_pos ⟨rfl, rfl⟩]
        · rw [st_L, if_neg (fun z => by have := z.2; omega), st_L, if_pos ⟨rfl, rfl⟩]
        · rw [st_L, if_neg (fun z => by have := z.2; omega), st_L, if_neg (fun z => by have := z.2; omega), mk_pack_0]
          exact hr (3 + j) (by omega) (by omega)
      refine sp_X9_cell (j := 1) ?_
      have e5 : (ka_wL σ (37, 0, 0) (5 + 18 * i + 2) (lN n)).1 (25, 0, 0) 2 = nI n := e2
      rw [e5, show (0 : Int32) = nI 0 from rfl, nI_leI (by omega) (by omega)]
      refine ⟨fun z => sp_X9_cell (j := 1) ⟨(kI_in (by omega)).mpr (by omega), ?_⟩, fun z => fin 1 _ rfl (by rw [if_pos (by omega)])⟩
      refine fin (mw_E (mp_D M i)) _ ?_ (by rw [if_neg (by omega)])
      rw [nI_clamp (by omega), st_L, if_neg (fun z => by have := z.2; omega)]
      exact ((ha (37, 0, 0) _ (fun q => by have := q.2; omega)).2).trans (rd_e hp hi)
    · rw [nI_clamp (by omega)]
      refine ⟨(kI_in (by omega)).mpr (by omega), ?_⟩
      rw [forall_eq, forall_eq, show (nI k + 1 : Int32) = nI (k + 1) from nI_1 k]
      refine ih (k + 1) _ (by omega) (by omega) (by omega) (ag_L ha ⟨rfl, by omega, by omega⟩) (fun j hj1 hj2 => ?_)
      rw [st_L]
      by_cases e : j = k
      · rw [if_pos ⟨rfl, by rw [e]⟩]
      · rw [if_neg (fun z => e (by have := z.2; omega))]
        exact hr j hj1 (by omega)
theorem sp_X9_setGloss_43 {σ : ka_S} {i p n : Nat} {t : Nat → Nat} {M : ma_P} {Q : Int32 → ka_S → Prop} (ok : mp_ok M) (hp : rd_P σ (37, 0, 0) M) (hi : i < mp_N M) (hk : p < mw_S (mp_D M i)) (ht : rd_T σ n t) (hg : mc_gloss n t)
    (h : ∀ σ', ag (xr (37, 0, 0)) σ σ' → rd_P σ' (37, 0, 0) (mp_setG M i p (ma_tx t n)) → Q (nI (mt_gapsP (mp_setG M i p (ma_tx t n)))) σ') :
    ∀ (m k : Nat), k ≤ n → n < k + m → kw_X9_setGloss_43 Q m σ (nI i) (nI p) (lN (ma_M (ma_tx t k))) (nI k) := by
  intro m
  induction m with
  | zero => intro k h1 h2; omega
  | succ m ih =>
    intro k h1 h2
    have hN := ok.1
    have hn := hg.1
    have hS := (ok.2.2.2.2.2.1 i hi).1
    rw [kw_X9_setGloss_43, ht.1, nI_leI (by omega) (by omega)]
    refine ⟨fun q => sp_X9_glossAt ⟨(kI_in (by omega)).mpr (by omega), ?_⟩, fun q => ⟨(kI_in (by omega)).mpr (by omega), ?_⟩⟩
    · obtain rfl : k = n := by omega
      rw [nI_clamp (by omega), forall_eq]
      have r := rd_P_setG (g := ma_tx t k) ok hp hi hk rfl
      exact sp_X9_gaps rfl (mp_setG_ok ok hi (ma_tx_g hg (Nat.le_refl _))) r (h _ (ag_L ag_refl rfl) r)
    · have hx := hg.2 k (by omega)
      have z := sp_X9_withLetter (σ := σ) (l := ma_tx t k) (x := t k) (Q := fun r17 σ16 => ∀ x18 : Int32, x18 = nI k + (1 : Int32) → (kw_X9_setGloss_43 Q m) σ16 (nI i) (nI p) r17 x18) (ma_tx_g hg h1) (by rw [ma_tx_len]; omega) hx (by
        rw [forall_eq, show (nI k + 1 : Int32) = nI (k + 1) from nI_1 k]
        exact ih (k + 1) (by omega) (by omega))
      rw [ma_tx_len] at z
      rw [nI_clamp (by omega), ht.2 k (by omega)]
      exact z
