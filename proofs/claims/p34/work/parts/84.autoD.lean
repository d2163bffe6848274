theorem rc_W_addP {σ : ka_S} {o i p c : Nat} {w : ma_W} (hw : rc_W σ o i w) : rc_W (ka_wL σ (6, o, i) p (lN (ma_C (mw_P w p ++ [c])))) o i (mw_addP w p c) := by
  refine ⟨⟨?_, ?_, ?_⟩, fun q hq => ?_, fun k hk => ?_⟩
  · simp only [st_I, st_L, st_I2, st_L1, Prod.mk.injEq, Nat.reduceEqDiff, false_and, and_false, true_and, and_true, and_self, if_false, if_true, reduceIte]
    exact hw.1.1
  · simp only [st_I, st_L, st_I2, st_L1, Prod.mk.injEq, Nat.reduceEqDiff, false_and, and_false, true_and, and_true, and_self, if_false, if_true, reduceIte]
    exact hw.1.2.1
  · simp only [st_I, st_L, st_I2, st_L1, Prod.mk.injEq, Nat.reduceEqDiff, false_and, and_false, true_and, and_true, and_self, if_false, if_true, reduceIte]
    exact hw.1.2.2
  · simp only [st_I, st_L, st_I2, st_L1, Prod.mk.injEq, Nat.reduceEqDiff, false_and, and_false, true_and, and_true, and_self, if_false, if_true, reduceIte]
    show (if q = p then lN (ma_C (mw_P w p ++ [c])) else σ.2 (6, o, i) q) = lN (ma_C (if q = p then mw_P w p ++ [c] else mw_P w q)) ∧ _
    have z := hw.2.1 q hq
    by_cases e : q = p
    · rw [if_pos e, if_pos e]; exact ⟨rfl, z.2⟩
    · rw [if_neg e, if_neg e]; exact z
  · simp only [st_I, st_L, st_I2, st_L1, Prod.mk.injEq, Nat.reduceEqDiff, false_and, and_false, true_and, and_true, and_self, if_false, if_true, reduceIte]
    exact hw.2.2 k hk
theorem rc_W_setG {σ : ka_S} {o i p : Nat} {w : ma_W} {g : List Nat} (hw : rc_W σ o i w) : rc_W (ka_wL σ (7, o, i) p (lN (ma_C g))) o i (mw_setG w p g) := by
  refine ⟨⟨?_, ?_, ?_⟩, fun q hq => ?_, fun k hk => ?_⟩
  · simp only [st_I, st_L, st_I2, st_L1, Prod.mk.injEq, Nat.reduceEqDiff, false_and, and_false, true_and, and_true, and_self, if_false, if_true, reduceIte]
    exact hw.1.1
  · simp only [st_I, st_L, st_I2, st_L1, Prod.mk.injEq, Nat.reduceEqDiff, false_and, and_false, true_and, and_true, and_self, if_false, if_true, reduceIte]
    exact hw.1.2.1
  · simp only [st_I, st_L, st_I2, st_L1, Prod.mk.injEq, Nat.reduceEqDiff, false_and, and_false, true_and, and_true, and_self, if_false, if_true, reduceIte]
    exact hw.1.2.2
  · simp only [st_I, st_L, st_I2, st_L1, Prod.mk.injEq, Nat.reduceEqDiff, false_and, and_false, true_and, and_true, and_self, if_false, if_true, reduceIte]
    show _ ∧ (if q = p then lN (ma_C g) else σ.2 (7, o, i) q) = lN (ma_C (if q = p then g else mw_G w q)) ∧ _
    have z := hw.2.1 q hq
    by_cases e : q = p
    · rw [if_pos e, if_pos e]; exact ⟨z.1, rfl, z.2.2⟩
    · rw [if_neg e, if_neg e]; exact z
  · simp only [st_I, st_L, st_I2, st_L1, Prod.mk.injEq, Nat.reduceEqDiff, false_and, and_false, true_and, and_true, and_self, if_false, if_true, reduceIte]
    exact hw.2.2 k hk
theorem sp_X5_takesLetter {σ : ka_S} {s : ma_A} {c : Nat} {Q : Int32 → ka_S → Prop} (ok : mv_ok s) (hV : rc_V σ s) (z : mv_g s = 0) (hc : c < 256) (h : mv_post (if (97 ≤ c ∧ c ≤ 122) ∧ (mw_P (mv_w s) (mv_p s)).length < 8 then some (mv_set s (mw_addP (mv_w s) (mv_p s) c) 0 (mv_p s)) else none) (fun s' => ∀ σ', ag xrd σ σ' → rc_V σ' s' → Q 1 σ') (Q 0 σ)) : kw_X5_takesLetter σ (nI c) Q := by
  have hR := ok.1
  obtain ⟨c1, c2, c3, c4, _⟩ := ok.2.2.2
  have hw := rc_Vw ok hV
  have hl := (c4 _ c3).1
  have h8 := hl.1
  unfold kw_X5_takesLetter
  refine sp_X2_isLetter (by omega) (fun w => ⟨fun q => absurd q (by decide), fun _ => ?_⟩) (fun w => ⟨fun _ => ?_, fun q => absurd rfl q⟩)
  · rw [hV.1.2.1, nI_clamp (by omega), hV.1.2.2.2, nI_clamp (by omega), (hw.2.1 _ c3).1]
    refine ⟨by omega, (kI_in (by omega)).mpr (by omega), sp_X2_length hl.g ?_⟩
    rw [hV.1.2.1, nI_clamp (by omega), hV.1.2.2.2, nI_clamp (by omega), (hw.2.1 _ c3).1, show (8 : Int32) = nI 8 from rfl, nI_ltI (by omega) (by decide)]
    refine ⟨fun q => ⟨by omega, by omega, (kI_in (by omega)).mpr (by omega), sp_X2_with hl.g q hc ⟨(kI_in (by omega)).mpr (by omega), ?_⟩⟩, fun q => ?_⟩
    · rw [if_pos ⟨w, q⟩] at h
      rw [forall_eq]
      have a2 : ag (fun k n => (k = (18, 0, 0) ∧ (n = 3 ∨ n = 4)) ∨ xw 18 (mv_R s - 1) k n) σ (ka_wL σ (6, 18, mv_R s - 1) (mv_p s) (lN (ma_C (mw_P (mv_w s) (mv_p s) ++ [c])))) := ag_L ag_refl (Or.inr (xw_k (by decide) (by decide)))
      refine h _ (ag_mono a2 xr_s) (rc_V_set hV hR.1 a2 ?_ ?_ (rc_W_addP hw))
      · simp only [st_I, st_L, st_I2, st_L1, Prod.mk.injEq, Nat.reduceEqDiff, false_and, and_false, true_and, and_true, and_self, if_false, if_true, reduceIte]
        rw [hV.1.2.2.1, z]
      · simp only [st_I, st_L, st_I2, st_L1, Prod.mk.injEq, Nat.reduceEqDiff, false_and, and_false, true_and, and_true, and_self, if_false, if_true, reduceIte]
        exact hV.1.2.2.2
    · rw [if_neg (fun y => q y.2)] at h
      exact h
  · rw [if_neg (fun y => w y.1)] at h
    exact h
theorem sp_X5_takesGlossLetter {σ : ka_S} {s : ma_A} {c : Nat} {Q : Int32 → ka_S → Prop} (ok : mv_ok s) (hV : rc_V σ s) (z : ¬ mv_g s = 0) (hc : c < 256) (h : mv_post (if ((97 ≤ c ∧ c ≤ 122) ∨ c = 46) ∧ (mw_G (mv_w s) (mv_p s)).length < 8 then some (mv_set s (mw_setG (mv_w s) (mv_p s) (mw_G (mv_w s) (mv_p s) ++ [c])) 1 (mv_p s)) else none) (fun s' => ∀ σ', ag xrd σ σ' → rc_V σ' s' → Q 1 σ') (Q 0 σ)) : kw_X5_takesGlossLetter σ (nI c) Q := by
  have hR := ok.1
  have hg := ok.2.1
  obtain ⟨c1, c2, c3, c4, _⟩ := ok.2.2.2
  have hw := rc_Vw ok hV
  have hl := (c4 _ c3).2.1
  have h8 := hl.1
  unfold kw_X5_takesGlossLetter
  refine sp_X2_isGlossLetter (by omega) (fun w => ⟨fun q => absurd q (by decide), fun _ => ?_⟩) (fun w => ⟨fun _ => ?_, fun q => absurd rfl q⟩)
  · rw [hV.1.2.1, nI_clamp (by omega), hV.1.2.2.2, nI_clamp (by omega), (hw.2.1 _ c3).2.1]
    refine ⟨by omega, (kI_in (by omega)).mpr (by omega), sp_X2_length hl ?_⟩
    rw [hV.1.2.1, nI_clamp (by omega), hV.1.2.2.2, nI_clamp (by omega), (hw.2.1 _ c3).2.1, show (8 : Int32) = nI 8 from rfl, nI_ltI (by omega) (by decide)]
    refine ⟨fun q => ⟨by omega, by omega, (kI_in (by omega)).mpr (by omega), sp_X2_with hl q hc ⟨(kI_in (by omega)).mpr (by omega), ?_⟩⟩, fun q => ?_⟩
    · rw [if_pos ⟨w, q⟩] at h
      rw [forall_eq]
      have a2 : ag (fun k n => (k = (18, 0, 0) ∧ (n = 3 ∨ n = 4)) ∨ xw 18 (mv_R s - 1) k n) σ (ka_wL σ (7, 18, mv_R s - 1) (mv_p s) (lN (ma_C (mw_G (mv_w s) (mv_p s) ++ [c])))) := ag_L ag_refl (Or.inr (xw_k (by decide) (by decide)))
      refine h _ (ag_mono a2 xr_s) (rc_V_set hV hR.1 a2 ?_ ?_ (rc_W_setG hw))
      · simp only [st_I, st_L, st_I2, st_L1, Prod.mk.injEq, Nat.reduceEqDiff, false_and, and_false, true_and, and_true, and_self, if_false, if_true, reduceIte]
        rw [hV.1.2.2.1, show mv_g s = 1 by omega]
      · simp only [st_I, st_L, st_I2, st_L1, Prod.mk.injEq, Nat.reduceEqDiff, false_and, and_false, true_and, and_true, and_self, if_false, if_true, reduceIte]
        exact hV.1.2.2.2
    · rw [if_neg (fun y => q y.2)] at h
      exact h
  · rw [if_neg (fun y => w y.1)] at h
    exact h
theorem mv_post_imp {o : Option ma_A} {f g : ma_A → Prop} {z y : Prop} (h : mv_post o f z) (h1 : ∀ s, f s → g s) (h2 : z → y) : mv_post o g y := by
  cases o with
  | some s => exact h1 s h
  | none => exact h2 h
theorem sp_X5_takes {σ : ka_S} {s : ma_A} {c : Nat} {Q : Int32 → ka_S → Prop} (ok : mv_ok s) (hV : rc_V σ s) (hc : c < 256) (h : mv_post (mv_take s c) (fun s' => ∀ σ', ag xrd σ σ' → rc_V σ' s' → Q 1 σ') (Q 0 σ)) : kw_X5_takes σ (nI c) Q := by
  have hg := ok.2.1
  have i1 : ∀ s', (∀ σ', ag xrd σ σ' → rc_V σ' s' → Q 1 σ') → ∀ σ', ag xrd σ σ' → rc_V σ' s' → ((1 : Int32) = 0 ∨ (1 : Int32) = 1) ∧ Q 1 σ' := fun s' f σ' a r => ⟨Or.inr rfl, f σ' a r⟩
  have i0 : Q 0 σ → ((0 : Int32) = 0 ∨ (0 : Int32) = 1) ∧ Q 0 σ := fun q => ⟨Or.inl rfl, q⟩
  unfold mv_take at h
  unfold kw_X5_takes
  rw [show (32 : Int32) = nI 32 from rfl, show (58 : Int32) = nI 58 from rfl, nI_eq (by omega) (by decide), nI_eq (by omega) (by decide)]
  refine ⟨fun q => ?_, fun q => ⟨fun q2 => ?_, fun q2 => ?_⟩⟩
  · rw [if_pos q] at h
    exact sp_X5_takesBlank ok hV (mv_post_imp h i1 i0)
  · rw [if_neg q, if_pos q2] at h
    exact sp_X5_takesColon ok hV (mv_post_imp h i1 i0)
  · rw [if_neg q, if_neg q2] at h
    refine sp_X2_isMark (by omega) (fun w => ⟨fun q => absurd q (by decide), fun _ => ?_⟩) (fun w => ⟨fun _ => ?_, fun q => absurd rfl q⟩)
    · rw [if_pos w] at h
      rw [hV.1.2.2.1, show (0 : Int32) = nI 0 from rfl, nI_eq (by omega) (by decide)]
      refine ⟨fun z => ?_, fun z => ?_⟩
      · rw [if_pos z] at h
        exact sp_X5_takesMarkOfParts ok hV z (mv_post_imp h i1 i0)
      · rw [if_neg z] at h
        exact sp_X5_takesMarkOfGlosses ok hV z hc (mv_post_imp h i1 i0)
    · rw [if_neg w] at h
      rw [hV.1.2.2.1, show (0 : Int32) = nI 0 from rfl, nI_eq (by omega) (by decide)]
      refine ⟨fun z => ?_, fun z => ?_⟩
      · rw [if_pos z] at h
        exact sp_X5_takesLetter ok hV z hc (mv_post_imp h i1 i0)
      · rw [if_neg z] at h
        exact sp_X5_takesGlossLetter ok hV z hc (mv_post_imp h i1 i0)
theorem rc_T_rd {σ σ' : ka_S} {n : Nat} {t : Nat → Nat} (h : rc_T σ n t) (a : ag xrd σ σ') : rc_T σ' n t := by
  refine ⟨(a (10, 0, 0) 1 (fun q => ?_)).1.trans h.1, fun k hk => (a (11, 0, 0) k (fun q => ?_)).1.trans (h.2 k hk)⟩
  · rcases q with q | q
    · exact absurd q (by decide)
    · exact absurd q.1 (by decide)
  · rcases q with q | q
    · exact absurd q (by decide)
    · exact absurd q.1 (by decide)
theorem sp_X5_read_11 {σ0 : ka_S} {N : Nat} {t : Nat → Nat} {Q : Int32 → ka_S → Prop} (ht : rc_T σ0 N t) (hN : N ≤ 60) (hc : ∀ k, k < N → t k < 256) :
    ∀ (n k m : Nat) (s : ma_A) (σ : ka_S), k + m = N → m < n → ag xrd σ0 σ → mv_ok s → rc_V σ s → (∀ σ', ag xrd σ0 σ' → rc_V σ' (mv_run t m k s).2 → Q (mv_run t m k s).1 σ') → kw_X5_read_11 Q n σ (nI k) := by
  intro n
  induction n with
  | zero => intro k m s σ h1 h2; omega
  | succ n ih =>
    intro k m s σ h1 h2 ha ok hV h
    have ht' := rc_T_rd ht ha
    rw [kw_X5_read_11, ht'.1, nI_leI (by omega) (by omega)]
    refine ⟨fun q => ?_, fun q => ⟨(kI_in (by omega)).mpr (by omega), ?_⟩⟩
    · obtain rfl : m = 0 := by omega
      have h' : ∀ σ', ag xrd σ0 σ' → rc_V σ' s → Q (if mv_wh s then -9 else nI k) σ' := h
      refine sp_X5_isWordWhole ok hV (fun w => ⟨fun q => absurd q (by decide), fun _ => ?_⟩) (fun w => ⟨fun _ => ?_, fun q => absurd rfl q⟩)
      · rw [if_pos w] at h'
        exact h' σ ha hV
      · rw [if_neg w] at h'
        rw [ht'.1, show N = k by omega]
        exact h' σ ha hV
    · obtain ⟨m, rfl⟩ : ∃ m', m = m' + 1 := ⟨m - 1, by omega⟩
      rw [nI_clamp (by omega), ht'.2 k (by omega)]
      have z := mv_take_ok (c := t k) ok
      unfold mv_run at h
      refine sp_X5_takes ok hV (hc k (by omega)) ?_
      cases e : mv_take s (t k) with
      | some s' =>
        rw [e] at z h
        intro σ1 a1 r1
        refine ⟨fun q => absurd q (by decide), fun _ => ?_⟩
        rw [forall_eq, show (nI k + 1 : Int32) = nI (k + 1) from nI_1 k]
        exact ih (k + 1) m s' σ1 (by omega) (by omega) (ag_trans ha a1) z r1 h
      | none =>
        rw [e] at h
        exact ⟨fun _ => h σ ha hV, fun q => absurd rfl q⟩
theorem sp_X5_read {σ : ka_S} {N : Nat} {t : Nat → Nat} {Q : Int32 → ka_S → Prop} (ht : rc_T σ N t) (hN : N ≤ 60) (hc : ∀ k, k < N → t k < 256) (h : ∀ σ', ag xrd σ σ' → rc_V σ' (mv_read N t).2 → Q (mv_read N t).1 σ') : kw_X5_read σ Q := by
  unfold kw_X5_read
  rw [forall_eq]
  have a1 : ag xrd σ (ka_wI σ (18, 0, 0) 1 0) := ag_I ag_refl (Or.inl rfl)
  refine sp_X5_openWord (R := 0) (by simp only [st_I, st_L, st_I2, st_L1, Prod.mk.injEq, Nat.reduceEqDiff, false_and, and_false, true_and, and_true, and_self, if_false, if_true, reduceIte]
                                     rfl) (by decide) (fun σ1 a2 v2 w2 _ => ⟨61, sp_X5_read_11 (σ0 := σ) ht hN hc 61 0 N mv_0 σ1 (Nat.zero_add _) (by omega) (ag_trans a1 a2) mv_0_ok ⟨v2, fun j hj => ?_⟩ h⟩)
  have hj' : j < 1 := hj
  obtain rfl : j = 0 := by omega
  exact w2
