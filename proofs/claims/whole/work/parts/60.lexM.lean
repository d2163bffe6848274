/-! ===== the reference: a word written, the lexicon ===== -/
theorem rd_P_setD {σ σ' : ka_S} {a : ka_K} {M : ma_P} {i : Nat} {w : ma_W} (ok : mp_ok M) (hp : rd_P σ a M) (hi : i < mp_N M) (out : ∀ j, j < 253 → ¬ (5 + 18 * i ≤ j ∧ j < 5 + 18 * i + 18) → σ'.2 a j = σ.2 a j) (hw : rd_Wf (fun c => σ'.2 a (5 + 18 * i + c)) w) : rd_P σ' a (mp_setD M i w) := by
  have hN := ok.1
  have hL := ok.2.1
  refine ⟨⟨(out 0 (by decide) (by omega)).trans hp.1.1, (out 1 (by decide) (by omega)).trans hp.1.2.1, (out 2 (by decide) (by omega)).trans hp.1.2.2.1, (out 3 (by decide) (by omega)).trans hp.1.2.2.2.1, (out 4 (by decide) (by omega)).trans hp.1.2.2.2.2⟩, fun j hj => ?_, fun e he => ?_⟩
  · have hj' : j < mp_N M := hj
    show rd_Wf _ (if j = i then w else mp_D M j)
    by_cases q : j = i
    · rw [if_pos q, q]; exact hw
    · rw [if_neg q]
      exact rd_Wf_congr (ok.2.2.2.2.2.1 j hj') (hp.2.1 j hj') (fun c hc => out _ (by omega) (by omega))
  · have he' : e < mp_L M := he
    exact ⟨(out _ (by omega) (by omega)).trans (hp.2.2 e he').1, (out _ (by omega) (by omega)).trans (hp.2.2 e he').2⟩
theorem rd_P_setG {σ : ka_S} {a : ka_K} {M : ma_P} {i p : Nat} {g : List Nat} {x : Int64} (ok : mp_ok M) (hp : rd_P σ a M) (hi : i < mp_N M) (hk : p < mw_S (mp_D M i)) (hx : x = lN (ma_M g)) : rd_P (ka_wL σ a (5 + 18 * i + (8 + 3 * p)) x) a (mp_setG M i p g) := by
  have hS := (ok.2.2.2.2.2.1 i hi).1
  have h := hp.2.1 i hi
  refine rd_P_setD (w := mw_setG (mp_D M i) p g) ok hp hi (fun j hj hn => ?_) ⟨⟨?_, ?_, ?_⟩, fun j hj => ?_, fun q hq => ⟨fun h0 => ?_, ?_, ?_⟩⟩
  · rw [st_L, if_neg (fun z => by have := z.2; omega)]
  · show (ka_wL σ a (5 + 18 * i + (8 + 3 * p)) x).2 a (5 + 18 * i + 0) = _
    rw [st_L, if_neg (fun z => by have := z.2; omega)]
    exact h.1.1
  · show (ka_wL σ a (5 + 18 * i + (8 + 3 * p)) x).2 a (5 + 18 * i + 1) = _
    rw [st_L, if_neg (fun z => by have := z.2; omega)]
    exact h.1.2.1
  · show (ka_wL σ a (5 + 18 * i + (8 + 3 * p)) x).2 a (5 + 18 * i + 2) = _
    rw [st_L, if_neg (fun z => by have := z.2; omega)]
    exact h.1.2.2
  · show (ka_wL σ a (5 + 18 * i + (8 + 3 * p)) x).2 a (5 + 18 * i + (3 + j)) = _
    rw [st_L, if_neg (fun z => by have := z.2; omega)]
    exact h.2.1 j hj
  · show (ka_wL σ a (5 + 18 * i + (8 + 3 * p)) x).2 a (5 + 18 * i + (6 + 3 * q)) = _
    rw [st_L, if_neg (fun z => by have := z.2; omega)]
    exact (h.2.2 q hq).1 h0
  · show (ka_wL σ a (5 + 18 * i + (8 + 3 * p)) x).2 a (5 + 18 * i + (7 + 3 * q)) = _
    rw [st_L, if_neg (fun z => by have := z.2; omega)]
    exact (h.2.2 q hq).2.1
  · show (ka_wL σ a (5 + 18 * i + (8 + 3 * p)) x).2 a (5 + 18 * i + (8 + 3 * q)) = lN (ma_M (if q = p then g else mw_G (mp_D M i) q))
    rw [st_L]
    by_cases e : q = p
    · rw [if_pos ⟨rfl, by rw [e]⟩, if_pos e, hx]
    · rw [if_neg (fun z => by have := z.2; omega), if_neg e]
      exact (h.2.2 q hq).2.2
/-- only entries are written -/
def xe (a : ka_K) (k : ka_K) (j : Nat) : Prop := k = a ∧ 221 ≤ j ∧ j < 253
def rd_sh (σ : ka_S) (a : ka_K) (M : ma_P) (k : Nat) : Prop := ∀ e, (e < k → σ.2 a (221 + 2 * e) = lN (ma_M (mp_A M e)) ∧ σ.2 a (222 + 2 * e) = lN (ma_M (mp_B M e))) ∧
  (k < e → e < mp_L M + 1 → σ.2 a (221 + 2 * e) = lN (ma_M (mp_A M (e - 1))) ∧ σ.2 a (222 + 2 * e) = lN (ma_M (mp_B M (e - 1))))
theorem rd_P_ent {σ σ' : ka_S} {a : ka_K} {M M' : ma_P} (ok : mp_ok M) (hp : rd_P σ a M) (out : ∀ j, j < 221 → j ≠ 1 → σ'.2 a j = σ.2 a j) (h1 : σ'.2 a 1 = lN (mp_L M')) (hl : ∀ e, e < mp_L M' → σ'.2 a (221 + 2 * e) = lN (ma_M (mp_A M' e)) ∧ σ'.2 a (222 + 2 * e) = lN (ma_M (mp_B M' e)))
    (e1 : mp_N M' = mp_N M) (e2 : M'.1.2 = M.1.2) (e3 : M'.2.1 = M.2.1) : rd_P σ' a M' := by
  have hN := ok.1
  have f1 : mp_W M' = mp_W M := congrArg Prod.fst e2
  have f2 : mp_S M' = mp_S M := congrArg (fun x => x.2.1) e2
  have f3 : mp_Y M' = mp_Y M := congrArg (fun x => x.2.2) e2
  have f4 : mp_D M' = mp_D M := e3
  refine ⟨⟨?_, h1, ?_, ?_, ?_⟩, fun j hj => ?_, hl⟩
  · rw [e1]; exact (out 0 (by decide) (by decide)).trans hp.1.1
  · rw [f1]; exact (out 2 (by decide) (by decide)).trans hp.1.2.2.1
  · rw [f2]; exact (out 3 (by decide) (by decide)).trans hp.1.2.2.2.1
  · rw [f3]; exact (out 4 (by decide) (by decide)).trans hp.1.2.2.2.2
  · rw [f4]
    rw [e1] at hj
    exact rd_Wf_congr (ok.2.2.2.2.2.1 j hj) (hp.2.1 j hj) (fun c hc => out _ (by omega) (by omega))
theorem sp_X9_learnOn_107 {σ : ka_S} {a : ka_K} {M : ma_P} {i p e : Nat} {x : Int64} {Q : ka_S → Prop} (hn : ka_n a = 253) (ok : mp_ok M) (hi : i < mp_N M) (hk : p < mw_S (mp_D M i)) (he : e < 16) (hg : σ.2 a (5 + 18 * i + (8 + 3 * p)) = lN (ma_M (mw_G (mp_D M i) p)))
    (h : Q (ka_wL (ka_wL σ a (221 + 2 * e) x) a (222 + 2 * e) (lN (ma_M (mw_G (mp_D M i) p))))) : kw_X9_learnOn_107 a Q σ (nI i) (nI p) x (nI e) := by
  have hN := ok.1
  have hS := (ok.2.2.2.2.2.1 i hi).1
  have e1 : (221 : Int32) + 2 * nI e = nI (221 + 2 * e) := by rw [kI_lit, kI_lit, pk_mul, nI_add]
  have e2 : nI (221 + 2 * e) + (1 : Int32) = nI (222 + 2 * e) := by rw [kI_lit, nI_add]; congr 1; omega
  unfold kw_X9_learnOn_107
  rw [hn, e1, e2, nI_clamp (by omega), nI_clamp (by omega)]
  refine ⟨(kI_in (by omega)).mpr (by omega), ?_⟩
  rw [forall_eq]
  refine sp_X9_glossAt ⟨(kI_in (by omega)).mpr (by omega), (kI_in (by omega)).mpr (by omega), ?_⟩
  rw [forall_eq, nI_clamp (by omega), st_L, if_neg (fun z => by have := z.2; omega), hg]
  exact h
theorem sp_X9_learnOn_26 {σ0 : ka_S} {a : ka_K} {M : ma_P} {l : List Nat} {v1 v2 : Int32} {Q : ka_S → Prop} (hn : ka_n a = 253) (ok : mp_ok M) (hl : ma_p l) (hL : mp_L M < 16)
    (h : ∀ σ, ag (xe a) σ0 σ → rd_sh σ a M (mt_pos M l (mp_L M)) → kw_X9_learnOn_100 a Q σ v1 v2 (lN (ma_M l)) (nI (mt_pos M l (mp_L M)))) :
    ∀ (n k : Nat) (σ : ka_S), k < n → k ≤ mp_L M → mt_pos M l k = mt_pos M l (mp_L M) → ag (xe a) σ0 σ → rd_sh σ a M k → kw_X9_learnOn_26 a Q n σ v1 v2 (lN (ma_M l)) (nI k) := by
  intro n
  induction n with
  | zero => intro k σ h1; omega
  | succ n ih =>
    intro k σ h1 h2 h3 ha hr
    rw [kw_X9_learnOn_26, hn]
    rcases Nat.eq_zero_or_pos k with z | z
    · subst z
      refine ⟨fun _ => ?_, fun q => absurd (by decide) q⟩
      have e : 0 = mt_pos M l (mp_L M) := h3
      have := h σ ha (by rw [← e]; exact hr)
      rw [← e] at this
      exact this
    · obtain ⟨k, rfl⟩ : ∃ k', k = k' + 1 := ⟨k - 1, by omega⟩
      have hA := (ok.2.2.2.2.2.2 k (by omega)).1
      have b1 := ma_M_lt hA.g
      have b2 := ma_M_lt hl.g
      have cmp := ma_M_C hl (Or.inl hA)
      have e1 : (221 : Int32) + 2 * nI (k + 1) = nI (223 + 2 * k) := by rw [kI_lit, kI_lit, pk_mul, nI_add]; congr 1; omega
      have e2 : nI (223 + 2 * k) - (2 : Int32) = nI (221 + 2 * k) := by rw [kI_lit, kI_sub (by omega)]; congr 1; omega
      have e3 : nI (223 + 2 * k) - (1 : Int32) = nI (222 + 2 * k) := by rw [kI_lit, kI_sub (by omega)]; congr 1; omega
      have e4 : nI (223 + 2 * k) + (1 : Int32) = nI (224 + 2 * k) := by rw [kI_lit, nI_add]; congr 1; omega
      have e5 : mt_pos M l (k + 1) = if ma_C (mp_A M k) ≤ ma_C l then k + 1 else mt_pos M l k := rfl
      rw [e5] at h3
      rw [e1, e2, e3, e4, nI_clamp (by omega), nI_clamp (by omega), nI_clamp (by omega), nI_clamp (by omega), ((hr k).1 (by omega)).1, pk_lLE (by omega) (by omega)]
      refine ⟨fun q => ?_, fun _ => ⟨(kI_in (by omega)).mpr (by omega), fun z2 => ?_, fun z2 => ⟨(kI_in (by omega)).mpr (by omega), (kI_in (by omega)).mpr (by omega), ?_⟩⟩⟩
      · rw [kI_lit, nI_leI (by omega) (by decide)] at q
        omega
      · rw [if_pos (Nat.le_of_not_lt (fun z => by have := cmp.mpr z; omega))] at h3
        have := h σ ha (by rw [← h3]; exact hr)
        rw [← h3] at this
        exact this
      · rw [if_neg (fun z => by
          have : ma_C l < ma_C (mp_A M k) := cmp.mp (by omega)
          omega)] at h3
        rw [forall_eq]
        refine ⟨(kI_in (by omega)).mpr (by omega), (kI_in (by omega)).mpr (by omega), ?_⟩
        rw [forall_eq, forall_eq, kI_m1, st_L, if_neg (fun z => by have := z.2; omega)]
        refine ih k _ (by omega) (by omega) h3 (ag_L (ag_L ha ⟨rfl, by omega, by omega⟩) ⟨rfl, by omega, by omega⟩) (fun e => ⟨fun he => ?_, fun he1 he2 => ?_⟩)
        · rw [st_L, if_neg (fun z => by have := z.2; omega), st_L, if_neg (fun z => by have := z.2; omega), st_L, if_neg (fun z => by have := z.2; omega), st_L, if_neg (fun z => by have := z.2; omega)]
          exact (hr e).1 (by omega)
        · by_cases q2 : e = k + 1
          · subst q2
            rw [st_L, if_neg (fun z => by have := z.2; omega), st_L, if_pos ⟨rfl, by omega⟩, st_L, if_pos ⟨rfl, by omega⟩]
            exact ⟨rfl, ((hr k).1 (by omega)).2⟩
          · rw [st_L, if_neg (fun z => by have := z.2; omega), st_L, if_neg (fun z => by have := z.2; omega), st_L, if_neg (fun z => by have := z.2; omega), st_L, if_neg (fun z => by have := z.2; omega)]
            exact (hr e).2 (by omega) he2
