/-! ===== the reference's layout: rows ===== -/
def xrow (k : ka_K) (n : Nat) : Prop := (32 ≤ k.1 ∧ k.1 ≤ 34) ∨ (k = (25, 0, 0) ∧ n = 12)
def xy (k : ka_K) (n : Nat) : Prop := (27 ≤ k.1 ∧ k.1 ≤ 34) ∨ (k = (25, 0, 0) ∧ 11 ≤ n ∧ n ≤ 13)
theorem xrow_y (k : ka_K) (n : Nat) (h : xrow k n) : xy k n := by
  rcases h with h | h
  · exact Or.inl ⟨Nat.le_trans (by decide) h.1, h.2⟩
  · exact Or.inr ⟨h.1, by rw [h.2]; exact ⟨by decide, by decide⟩⟩
def rd_row (σ : ka_S) (r k o f : Nat) : Prop := σ.1 (32, 0, 0) r = nI k ∧ σ.1 (33, 0, 0) r = nI o ∧ σ.1 (34, 0, 0) r = nI f
/-- a row is added -/
theorem sp_X9_addRow {σ : ka_S} {r k o f : Nat} {Q : ka_S → Prop} (h12 : σ.1 (25, 0, 0) 12 = nI r) (hr : r < 72)
    (h : ∀ σ', ag xrow σ σ' → σ'.1 (25, 0, 0) 12 = nI (r + 1) → rd_row σ' r k o f → (∀ j k o f, j < r → rd_row σ j k o f → rd_row σ' j k o f) → Q σ') : kw_X9_addRow σ (nI k) (nI o) (nI f) Q := by
  have hv : vp_in (nI r) 72 := (kI_in (by omega)).mpr hr
  have e1 : (ka_wI σ (32, 0, 0) r (nI k)).1 (25, 0, 0) 12 = nI r := by
    simp only [st_I, st_L, st_I2, st_L1, Prod.mk.injEq, Nat.reduceEqDiff, false_and, and_false, true_and, and_true, and_self, if_false, if_true, reduceIte]
    exact h12
  have e2 : (ka_wI (ka_wI σ (32, 0, 0) r (nI k)) (33, 0, 0) r (nI o)).1 (25, 0, 0) 12 = nI r := by
    simp only [st_I, st_L, st_I2, st_L1, Prod.mk.injEq, Nat.reduceEqDiff, false_and, and_false, true_and, and_true, and_self, if_false, if_true, reduceIte]
    exact h12
  have e3 : (ka_wI (ka_wI (ka_wI σ (32, 0, 0) r (nI k)) (33, 0, 0) r (nI o)) (34, 0, 0) r (nI f)).1 (25, 0, 0) 12 = nI r := by
    simp only [st_I, st_L, st_I2, st_L1, Prod.mk.injEq, Nat.reduceEqDiff, false_and, and_false, true_and, and_true, and_self, if_false, if_true, reduceIte]
    exact h12
  unfold kw_X9_addRow
  rw [h12, nI_clamp (by omega)]
  refine ⟨hv, ?_⟩
  rw [forall_eq, e1, nI_clamp (by omega)]
  refine ⟨hv, ?_⟩
  rw [forall_eq, e2, nI_clamp (by omega)]
  refine ⟨hv, ?_⟩
  rw [forall_eq, e3, forall_eq, show (nI r + 1 : Int32) = nI (r + 1) from nI_1 r]
  refine h _ (ag_I (ag_I (ag_I (ag_I ag_refl (Or.inl ⟨by decide, by decide⟩)) (Or.inl ⟨by decide, by decide⟩)) (Or.inl ⟨by decide, by decide⟩)) (Or.inr ⟨rfl, rfl⟩)) ?_ ⟨?_, ?_, ?_⟩ (fun j k' o' f' hj hz => ⟨?_, ?_, ?_⟩)
  · simp only [st_I, st_L, st_I2, st_L1, Prod.mk.injEq, Nat.reduceEqDiff, false_and, and_false, true_and, and_true, and_self, if_false, if_true, reduceIte]
  · simp only [st_I, st_L, st_I2, st_L1, Prod.mk.injEq, Nat.reduceEqDiff, false_and, and_false, true_and, and_true, and_self, if_false, if_true, reduceIte]
  · simp only [st_I, st_L, st_I2, st_L1, Prod.mk.injEq, Nat.reduceEqDiff, false_and, and_false, true_and, and_true, and_self, if_false, if_true, reduceIte]
  · simp only [st_I, st_L, st_I2, st_L1, Prod.mk.injEq, Nat.reduceEqDiff, false_and, and_false, true_and, and_true, and_self, if_false, if_true, reduceIte]
  · simp only [st_I, st_L, st_I2, st_L1, Prod.mk.injEq, Nat.reduceEqDiff, false_and, and_false, true_and, and_true, and_self, if_false, if_true, reduceIte]
    rw [if_neg (by omega)]
    exact hz.1
  · simp only [st_I, st_L, st_I2, st_L1, Prod.mk.injEq, Nat.reduceEqDiff, false_and, and_false, true_and, and_true, and_self, if_false, if_true, reduceIte]
    rw [if_neg (by omega)]
    exact hz.2.1
  · simp only [st_I, st_L, st_I2, st_L1, Prod.mk.injEq, Nat.reduceEqDiff, false_and, and_false, true_and, and_true, and_self, if_false, if_true, reduceIte]
    rw [if_neg (by omega)]
    exact hz.2.2
/-- the rows of the lines of a sentence -/
theorem sp_X9_layOut_222 {σ0 : ka_S} {a : ka_K} {v2 v3 v4 v5 v6 v7 : Int32} {k F R L : Nat} {M : ma_P} {K : ka_S → Int32 → Int32 → Int32 → Int32 → Int32 → Int32 → Prop} {Q : ka_S → Prop} (hn : ka_n a = 253) (h36 : 36 ≤ a.1) (ok : mp_ok M) (hp : rd_P σ0 a M) (hk : k < mp_N M) (h7 : v7 = nI k)
    (h11 : σ0.1 (25, 0, 0) 11 = nI L) (hL : L ≤ 12) (hR : R + 2 * (L - F) ≤ 72)
    (h : ∀ σ', ag xrow σ0 σ' → σ'.1 (25, 0, 0) 12 = nI (R + 2 * (L - F)) → (∀ j k o f, j < R → rd_row σ0 j k o f → rd_row σ' j k o f) → (∀ l, F ≤ l → l < L → rd_row σ' (R + 2 * (l - F)) 0 l 0 ∧ rd_row σ' (R + 2 * (l - F) + 1) 1 l 0) →
      ∃ n, kw_X9_layOut_267 a K Q n σ' v2 v3 v4 v5 v6 v7 (nI (mw_F (mp_D M k))) 0) :
    ∀ (n l : Nat) (σ : ka_S), F ≤ l → l ≤ L → L < l + n → ag xrow σ0 σ → σ.1 (25, 0, 0) 12 = nI (R + 2 * (l - F)) → (∀ j k o f, j < R → rd_row σ0 j k o f → rd_row σ j k o f) → (∀ l', F ≤ l' → l' < l → rd_row σ (R + 2 * (l' - F)) 0 l' 0 ∧ rd_row σ (R + 2 * (l' - F) + 1) 1 l' 0) →
      kw_X9_layOut_222 a K Q n σ v2 v3 v4 v5 v6 v7 (nI l) := by
  intro n
  induction n with
  | zero => intro l σ _ h1 h2; omega
  | succ n ih =>
    intro l σ h0 h1 h2 ha h12 hold hnew
    have hN := ok.1
    have e11 : σ.1 (25, 0, 0) 11 = nI L := (ha (25, 0, 0) 11 (fun q => by
      rcases q with q | q
      · exact absurd q.1 (by decide)
      · exact absurd q.2 (by decide))).1.trans h11
    rw [kw_X9_layOut_222, e11, nI_leI (by omega) (by omega)]
    refine ⟨fun q => ?_, fun q => ?_⟩
    · obtain rfl : l = L := by omega
      subst h7
      have hp' : rd_P σ a M := rd_P_ag ok hp ha (fun n _ q => by
        rcases q with q | q
        · have := q.2; omega
        · rw [q.1] at h36; exact absurd h36 (by decide))
      refine sp_X9_cell (j := 2) ⟨?_, ?_⟩
      · rw [hn]; exact (kI_in (by omega)).mpr (by omega)
      · rw [nI_clamp (by omega), rd_f hp' hk, lN_i, forall_eq]
        exact h σ ha h12 hold hnew
    · have z0 : (0 : Int32) = nI 0 := rfl
      have z1 : (1 : Int32) = nI 1 := rfl
      have e0 : kw_X9_addRow σ (nI 0) (nI l) (nI 0) (fun σ36 => kw_X9_addRow σ36 (nI 1) (nI l) (nI 0) (fun σ37 => ∀ x38 : Int32, x38 = nI l + (1 : Int32) → (kw_X9_layOut_222 a K Q n) σ37 v2 v3 v4 v5 v6 v7 x38)) := by
        refine sp_X9_addRow h12 (by omega) (fun σ1 a1 r1 n1 o1 => sp_X9_addRow r1 (by omega) (fun σ2 a2 r2 n2 o2 => ?_))
        rw [forall_eq, show (nI l + 1 : Int32) = nI (l + 1) from nI_1 l]
        refine ih (l + 1) σ2 (by omega) (by omega) (by omega) (ag_trans ha (ag_trans a1 a2)) ?_ (fun j k' o' f' hj hz => o2 j k' o' f' (by omega) (o1 j k' o' f' (by omega) (hold j k' o' f' hj hz))) (fun l' hl1 hl2 => ?_)
        · rw [r2]; congr 1; omega
        · by_cases e : l' = l
          · subst e
            exact ⟨o2 _ _ _ _ (by omega) n1, n2⟩
          · have z := hnew l' hl1 (by omega)
            exact ⟨o2 _ _ _ _ (by omega) (o1 _ _ _ _ (by omega) z.1), o2 _ _ _ _ (by omega) (o1 _ _ _ _ (by omega) z.2)⟩
      exact e0
/-- the rows of a free line -/
theorem sp_X9_layOut_267 {σ0 : ka_S} {a : ka_K} {v3 v4 v5 v6 v7 : Int32} {k W B G F : Nat} {K : ka_S → Int32 → Int32 → Int32 → Int32 → Int32 → Int32 → Prop} {Q : ka_S → Prop} (h7 : v7 = nI k) (hW : 10 ≤ W ∧ W ≤ 60) (hF : F ≤ 24)
    (hB : B + (F + W - 1) / W ≤ 72) (h13 : σ0.1 (25, 0, 0) 13 = nI G)
    (h : ∀ σ', ag xrow σ0 σ' → σ'.1 (25, 0, 0) 12 = nI (B + (F + W - 1) / W) → (∀ j k o f, j < B → rd_row σ0 j k o f → rd_row σ' j k o f) → (∀ f, f < (F + W - 1) / W → rd_row σ' (B + f) 2 k (f * W)) → K (ka_wI σ' (25, 0, 0) 13 (nI (G + 1))) (nI W) v3 v4 v5 v6 (nI (k + 1))) :
    ∀ (n f : Nat) (σ : ka_S), f ≤ (F + W - 1) / W → (F + W - 1) / W < f + n → ag xrow σ0 σ → σ.1 (25, 0, 0) 12 = nI (B + f) → (∀ j k o f, j < B → rd_row σ0 j k o f → rd_row σ j k o f) → (∀ f', f' < f → rd_row σ (B + f') 2 k (f' * W)) →
      kw_X9_layOut_267 a K Q n σ (nI W) v3 v4 v5 v6 v7 (nI F) (nI (f * W)) := by
  intro n
  induction n with
  | zero => intro f σ h1 h2; omega
  | succ n ih =>
    intro f σ h1 h2 ha h12 hold hnew
    have hq : (F + W - 1) / W ≤ 3 := by
      have : (F + W - 1) / W < 4 := (Nat.div_lt_iff_lt_mul (by omega)).mpr (by omega)
      omega
    have hfW : f * W ≤ 3 * 60 := Nat.mul_le_mul (by omega) hW.2
    have key : F ≤ f * W ↔ (F + W - 1) / W ≤ f := by
      rw [← Nat.lt_succ_iff (m := (F + W - 1) / W), Nat.div_lt_iff_lt_mul (by omega), Nat.succ_mul]
      omega
    have e13 : σ.1 (25, 0, 0) 13 = nI G := (ha (25, 0, 0) 13 (fun q => by
      rcases q with q | q
      · exact absurd q.1 (by decide)
      · exact absurd q.2 (by decide))).1.trans h13
    subst h7
    rw [kw_X9_layOut_267, nI_leI (by omega) (by omega), key, e13]
    refine ⟨fun q => ?_, fun q => ?_⟩
    · obtain rfl : f = (F + W - 1) / W := by omega
      rw [forall_eq, forall_eq, show (nI G + 1 : Int32) = nI (G + 1) from nI_1 G, show (nI k + 1 : Int32) = nI (k + 1) from nI_1 k]
      exact h σ ha h12 hold hnew
    · refine sp_X9_addRow (k := 2) h12 (by omega) (fun σ1 a1 r1 n1 o1 => ?_)
      rw [forall_eq, nI_add, ← Nat.succ_mul]
      refine ih (f + 1) σ1 (by omega) (by omega) (ag_trans ha a1) r1 (fun j k' o' f' hj hz => o1 j k' o' f' (by omega) (hold j k' o' f' hj hz)) (fun f' hf => ?_)
      by_cases e : f' = f
      · subst e
        exact n1
      · exact o1 _ _ _ _ (by omega) (hnew f' (by omega))
