/-! ===== the reference: a sentence ends, is joined; settings ===== -/
theorem mk_pack_0 (R : Nat → Nat) (j : Nat) : mk_pack R 0 j = 0 := by
  have : ∀ n, ma_sum (mk_c R 0 j) n = 0 := by
    intro n
    induction n with
    | zero => rfl
    | succ n ih =>
      show ma_sum (mk_c R 0 j) n + (if 8 * j + n < 0 then R (8 * j + n) * 128 ^ n else 0) = 0
      rw [ih, if_neg (Nat.not_lt_zero _)]
  exact this 8
theorem rd_P_end {σ : ka_S} {a : ka_K} {M : ma_P} {i : Nat} (ok : mp_ok M) (hp : rd_P σ a M) (hi : i < mp_N M) : rd_P (ka_wL σ a (5 + 18 * i + 1) 1) a (mp_setD M i (mw_end (mp_D M i))) := by
  have h := hp.2.1 i hi
  refine rd_P_setD ok hp hi (fun j hj hn => ?_) ⟨⟨?_, ?_, ?_⟩, fun j hj => ?_, fun q hq => ⟨fun h0 => ?_, ?_, ?_⟩⟩
  · rw [st_L, if_neg (fun z => by have := z.2; omega)]
  · show (ka_wL σ a (5 + 18 * i + 1) 1).2 a (5 + 18 * i + 0) = _
    rw [st_L, if_neg (fun z => by have := z.2; omega)]
    exact h.1.1
  · show (ka_wL σ a (5 + 18 * i + 1) 1).2 a (5 + 18 * i + 1) = _
    rw [st_L, if_pos ⟨rfl, rfl⟩]
    rfl
  · show (ka_wL σ a (5 + 18 * i + 1) 1).2 a (5 + 18 * i + 2) = _
    rw [st_L, if_neg (fun z => by have := z.2; omega)]
    exact h.1.2.2
  · show (ka_wL σ a (5 + 18 * i + 1) 1).2 a (5 + 18 * i + (3 + j)) = _
    rw [st_L, if_neg (fun z => by have := z.2; omega)]
    exact h.2.1 j hj
  · show (ka_wL σ a (5 + 18 * i + 1) 1).2 a (5 + 18 * i + (6 + 3 * q)) = _
    rw [st_L, if_neg (fun z => by have := z.2; omega)]
    exact (h.2.2 q hq).1 h0
  · show (ka_wL σ a (5 + 18 * i + 1) 1).2 a (5 + 18 * i + (7 + 3 * q)) = _
    rw [st_L, if_neg (fun z => by have := z.2; omega)]
    exact (h.2.2 q hq).2.1
  · show (ka_wL σ a (5 + 18 * i + 1) 1).2 a (5 + 18 * i + (8 + 3 * q)) = _
    rw [st_L, if_neg (fun z => by have := z.2; omega)]
    exact (h.2.2 q hq).2.2
theorem sp_X9_joinOn_10 {σ0 : ka_S} {a : ka_K} {M : ma_P} {i : Nat} {Q : ka_S → Prop} (hn : ka_n a = 253) (ok : mp_ok M) (hp : rd_P σ0 a M) (hi : i < mp_N M) (h : ∀ σ', ag (xr a) σ0 σ' → rd_P σ' a (mp_setD M i (mw_join (mp_D M i))) → Q σ') :
    ∀ (n k : Nat) (σ : ka_S), 2 ≤ k → k ≤ 6 → 6 < k + n → ag (xc a (5 + 18 * i + 1) 5) σ0 σ → (∀ j, 1 ≤ j → j < k → σ.2 a (5 + 18 * i + j) = 0) → kw_X9_joinOn_10 a Q n σ (nI i) (nI k) := by
  intro n
  induction n with
  | zero => intro k σ _ h1 h2; omega
  | succ n ih =>
    intro k σ h0 h1 h2 ha hr
    have hN := ok.1
    rw [kw_X9_joinOn_10, kI_lit, nI_leI (by decide) (by omega)]
    refine ⟨fun q => ?_, fun q => sp_X9_cell ?_⟩
    · obtain rfl : k = 6 := by omega
      have g := hp.2.1 i hi
      have out : ∀ j, ¬ (5 + 18 * i + 1 ≤ j ∧ j < 5 + 18 * i + 1 + 5) → σ.2 a j = σ0.2 a j := fun j hj => (ha a j (fun q => hj q.2)).2
      refine h σ (ag_mono ha xc_r) (rd_P_setD ok hp hi (fun j hj hn => out j (by omega)) ⟨⟨?_, ?_, ?_⟩, fun j hj => ?_, fun q hq => ⟨fun h0 => ?_, ?_, ?_⟩⟩)
      · exact (out _ (by omega)).trans g.1.1
      · exact hr 1 (by decide) (by decide)
      · exact hr 2 (by decide) (by decide)
      · show σ.2 a (5 + 18 * i + (3 + j)) = lN (mk_pack (mw_R (mp_D M i)) 0 j)
        rw [mk_pack_0, hr (3 + j) (by omega) (by omega)]
        rfl
      · exact (out _ (by omega)).trans ((g.2.2 q hq).1 h0)
      · exact (out _ (by omega)).trans (g.2.2 q hq).2.1
      · exact (out _ (by omega)).trans (g.2.2 q hq).2.2
    · rw [hn, nI_clamp (by omega)]
      refine ⟨(kI_in (by omega)).mpr (by omega), ?_⟩
      rw [forall_eq, forall_eq, show (nI k + 1 : Int32) = nI (k + 1) from nI_1 k]
      refine ih (k + 1) _ (by omega) (by omega) (by omega) (ag_L ha ⟨rfl, by omega, by omega⟩) (fun j hj1 hj2 => ?_)
      rw [st_L]
      by_cases e : j = k
      · rw [if_pos ⟨rfl, by rw [e]⟩]
      · rw [if_neg (fun z => e (by have := z.2; omega))]
        exact hr j hj1 (by omega)
theorem sp_X9_joinOn {σ : ka_S} {a : ka_K} {M : ma_P} {i : Nat} {Q : ka_S → Prop} (hn : ka_n a = 253) (ok : mp_ok M) (hp : rd_P σ a M) (hi : i < mp_N M) (h : ∀ σ', ag (xr a) σ σ' → rd_P σ' a (mp_setD M i (mw_join (mp_D M i))) → Q σ') : kw_X9_joinOn σ a (nI i) Q := by
  have hN := ok.1
  unfold kw_X9_joinOn
  rw [hn, show (1 : Int32) = nI 1 from rfl]
  refine sp_X9_cell ⟨(kI_in (by omega)).mpr (by omega), ?_⟩
  rw [nI_clamp (by omega), forall_eq]
  refine ⟨5, sp_X9_joinOn_10 hn ok hp hi h 5 2 _ (Nat.le_refl _) (by decide) (by decide) (ag_L ag_refl ⟨rfl, by omega, by omega⟩) (fun j hj1 hj2 => ?_)⟩
  rw [st_L, if_pos ⟨rfl, by omega⟩]
theorem rd_P_hdr {σ σ' : ka_S} {a : ka_K} {M M' : ma_P} (ok : mp_ok M) (hp : rd_P σ a M) (out : ∀ j, (j < 2 ∨ 5 ≤ j) → σ'.2 a j = σ.2 a j) (h2 : σ'.2 a 2 = lN (mp_W M')) (h3 : σ'.2 a 3 = lN (mp_S M')) (h4 : σ'.2 a 4 = lN (mp_Y M')) (e1 : M'.1.1 = M.1.1) (e2 : M'.2 = M.2) : rd_P σ' a M' := by
  have f1 : mp_N M' = mp_N M := congrArg Prod.fst e1
  have f2 : mp_L M' = mp_L M := congrArg Prod.snd e1
  have f3 : mp_D M' = mp_D M := congrArg Prod.fst e2
  have f4 : mp_A M' = mp_A M := congrArg (fun x => x.2.1) e2
  have f5 : mp_B M' = mp_B M := congrArg (fun x => x.2.2) e2
  refine ⟨⟨?_, ?_, h2, h3, h4⟩, fun j hj => ?_, fun e he => ?_⟩
  · rw [f1]; exact (out 0 (Or.inl (by decide))).trans hp.1.1
  · rw [f2]; exact (out 1 (Or.inl (by decide))).trans hp.1.2.1
  · rw [f3]
    rw [f1] at hj
    exact rd_Wf_congr (ok.2.2.2.2.2.1 j hj) (hp.2.1 j hj) (fun c hc => out _ (Or.inr (by omega)))
  · rw [f4, f5]
    rw [f2] at he
    exact ⟨(out _ (Or.inr (by omega))).trans (hp.2.2 e he).1, (out _ (Or.inr (by omega))).trans (hp.2.2 e he).2⟩
