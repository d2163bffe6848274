/-! ===== the class reads the text ===== -/
def xrd (k : ka_K) (_ : Nat) : Prop := k.1 = 18 ∨ (k.2.1 = 18 ∧ 5 ≤ k.1 ∧ k.1 ≤ 9)
theorem xw_rd {i : Nat} (k : ka_K) (n : Nat) (h : xw 18 i k n) : xrd k n := Or.inr ⟨h.1, h.2.2⟩
def rc_Vh (σ : ka_S) (R g p : Nat) : Prop := σ.1 (18, 0, 0) 1 = nI R ∧ σ.1 (18, 0, 0) 2 = nI (R - 1) ∧ σ.1 (18, 0, 0) 3 = nI g ∧ σ.1 (18, 0, 0) 4 = nI p
def rc_V (σ : ka_S) (s : ma_A) : Prop := rc_Vh σ (mv_R s) (mv_g s) (mv_p s) ∧ ∀ j, j < mv_R s → rc_W σ 18 j (mv_D s j)
theorem rc_Vw {σ : ka_S} {s : ma_A} (ok : mv_ok s) (h : rc_V σ s) : rc_W σ 18 (mv_R s - 1) (mv_w s) := h.2 _ (by have := ok.1; omega)
theorem sp_X7_reset {σ : ka_S} {o i : Nat} {Q : ka_S → Prop} (h : ∀ σ', ag (xw o i) σ σ' → rc_W σ' o i mw_zero → Q σ') : kw_X7_reset σ o i Q := by
  unfold kw_X7_reset
  rw [forall_eq, forall_eq, forall_eq]
  refine h _ (ag_I (ag_I (ag_I ag_refl (xw_k (by decide) (by decide))) (xw_k (by decide) (by decide))) (xw_k (by decide) (by decide))) ⟨⟨?_, ?_, ?_⟩, fun p hp => absurd hp (Nat.not_lt_zero p), fun k hk => absurd hk (Nat.not_lt_zero k)⟩
  · simp only [st_I, st_L, st_I2, st_L1, Prod.mk.injEq, Nat.reduceEqDiff, false_and, and_false, true_and, and_true, and_self, if_false, if_true, reduceIte]
    rfl
  · simp only [st_I, st_L, st_I2, st_L1, Prod.mk.injEq, Nat.reduceEqDiff, false_and, and_false, true_and, and_true, and_self, if_false, if_true, reduceIte]
    rfl
  · simp only [st_I, st_L, st_I2, st_L1, Prod.mk.injEq, Nat.reduceEqDiff, false_and, and_false, true_and, and_true, and_self, if_false, if_true, reduceIte]
    rfl
theorem sp_X7_openPart {σ : ka_S} {o i c : Nat} {v : Int32} {w : ma_W} {Q : ka_S → Prop} (hw : rc_W σ o i w) (hS : mw_S w < 4) (hv : v = if mw_S w = 0 then -9 else nI c) (h : ∀ σ', ag (xw o i) σ σ' → rc_W σ' o i (mw_part w c) → Q σ') : kw_X7_openPart σ o i v Q := by
  have hi : vp_in (nI (mw_S w)) 4 := (kI_in (by omega)).mpr hS
  have e0 := hw.1.1
  have e1 : (ka_wL σ (6, o, i) (mw_S w) 0).1 (5, o, i) 4 = nI (mw_S w) := e0
  have e2 : (ka_wL (ka_wL σ (6, o, i) (mw_S w) 0) (7, o, i) (mw_S w) 0).1 (5, o, i) 4 = nI (mw_S w) := e0
  have e3 : (ka_wI (ka_wL (ka_wL σ (6, o, i) (mw_S w) 0) (7, o, i) (mw_S w) 0) (8, o, i) (mw_S w) v).1 (5, o, i) 4 = nI (mw_S w) := by
    simp only [st_I, st_L, st_I2, st_L1, Prod.mk.injEq, Nat.reduceEqDiff, false_and, and_false, true_and, and_true, and_self, if_false, if_true, reduceIte]
    exact e0
  unfold kw_X7_openPart
  rw [e0, show (4 : Int32) = nI 4 from rfl, nI_leI (by decide) (by omega), nI_clamp (by omega)]
  refine ⟨fun q => absurd q (by omega), fun _ => ⟨hi, ?_⟩⟩
  rw [forall_eq, e1, nI_clamp (by omega)]
  refine ⟨hi, ?_⟩
  rw [forall_eq, e2, nI_clamp (by omega)]
  refine ⟨hi, ?_⟩
  rw [forall_eq, e3, show (nI (mw_S w) + 1 : Int32) = nI (mw_S w + 1) from nI_1 _, forall_eq]
  refine h _ (ag_I (ag_I (ag_L (ag_L ag_refl (xw_k (by decide) (by decide))) (xw_k (by decide) (by decide))) (xw_k (by decide) (by decide))) (xw_k (by decide) (by decide))) ⟨⟨?_, ?_, ?_⟩, fun p hp => ?_, fun k hk => ?_⟩
  · simp only [st_I, st_L, st_I2, st_L1, Prod.mk.injEq, Nat.reduceEqDiff, false_and, and_false, true_and, and_true, and_self, if_false, if_true, reduceIte]
    rfl
  · simp only [st_I, st_L, st_I2, st_L1, Prod.mk.injEq, Nat.reduceEqDiff, false_and, and_false, true_and, and_true, and_self, if_false, if_true, reduceIte]
    exact hw.1.2.1
  · simp only [st_I, st_L, st_I2, st_L1, Prod.mk.injEq, Nat.reduceEqDiff, false_and, and_false, true_and, and_true, and_self, if_false, if_true, reduceIte]
    exact hw.1.2.2
  · have hp' : p < mw_S w + 1 := hp
    simp only [st_I, st_L, st_I2, st_L1, Prod.mk.injEq, Nat.reduceEqDiff, false_and, and_false, true_and, and_true, and_self, if_false, if_true, reduceIte]
    show (if p = mw_S w then 0 else σ.2 (6, o, i) p) = lN (ma_C (if p = mw_S w then [] else mw_P w p)) ∧ (if p = mw_S w then 0 else σ.2 (7, o, i) p) = lN (ma_C (if p = mw_S w then [] else mw_G w p)) ∧ (if p = mw_S w then v else σ.1 (8, o, i) p) = if p = 0 then -9 else nI (if p = mw_S w then c else mw_M w p)
    by_cases q : p = mw_S w
    · rw [if_pos q, if_pos q, if_pos q, if_pos q, if_pos q, if_pos q, hv, q]
      exact ⟨rfl, rfl, rfl⟩
    · rw [if_neg q, if_neg q, if_neg q, if_neg q, if_neg q, if_neg q]
      exact hw.2.1 p (by omega)
  · simp only [st_I, st_L, st_I2, st_L1, Prod.mk.injEq, Nat.reduceEqDiff, false_and, and_false, true_and, and_true, and_self, if_false, if_true, reduceIte]
    exact hw.2.2 k hk
theorem sp_X5_openWord {σ : ka_S} {R : Nat} {Q : ka_S → Prop} (h1 : σ.1 (18, 0, 0) 1 = nI R) (hR : R < 12)
    (h : ∀ σ', ag xrd σ σ' → rc_Vh σ' (R + 1) 0 0 → rc_W σ' 18 R (mw_part mw_zero 0) → (∀ j w, j ≠ R → rc_W σ 18 j w → rc_W σ' 18 j w) → Q σ') : kw_X5_openWord σ Q := by
  have e1 : (ka_wI σ (18, 0, 0) 2 (nI R)).1 (18, 0, 0) 1 = nI R := by
    simp only [st_I, st_L, st_I2, st_L1, Prod.mk.injEq, Nat.reduceEqDiff, false_and, and_false, true_and, and_true, and_self, if_false, if_true, reduceIte]
    exact h1
  have e2 : (ka_wI (ka_wI σ (18, 0, 0) 2 (nI R)) (18, 0, 0) 1 (nI (R + 1))).1 (18, 0, 0) 2 = nI R := by
    simp only [st_I, st_L, st_I2, st_L1, Prod.mk.injEq, Nat.reduceEqDiff, false_and, and_false, true_and, and_true, and_self, if_false, if_true, reduceIte]
  have e3 : (ka_wI (ka_wI σ (18, 0, 0) 2 (nI R)) (18, 0, 0) 1 (nI (R + 1))).1 (18, 0, 0) 1 = nI (R + 1) := by
    simp only [st_I, st_L, st_I2, st_L1, Prod.mk.injEq, Nat.reduceEqDiff, false_and, and_false, true_and, and_true, and_self, if_false, if_true, reduceIte]
  have a0 : ag xrd σ (ka_wI (ka_wI σ (18, 0, 0) 2 (nI R)) (18, 0, 0) 1 (nI (R + 1))) := ag_I (ag_I ag_refl (Or.inl rfl)) (Or.inl rfl)
  have w0 : ∀ j w, rc_W σ 18 j w → rc_W (ka_wI (ka_wI σ (18, 0, 0) 2 (nI R)) (18, 0, 0) 1 (nI (R + 1))) 18 j w := fun j w hw => rc_W_ag (X := fun k _ => k.1 = 18) hw (ag_I (ag_I ag_refl rfl) rfl) (fun κ n h5 h9 q => absurd (show κ = 18 from q) (by omega))
  unfold kw_X5_openWord
  rw [h1, show (12 : Int32) = nI 12 from rfl, nI_leI (by decide) (by omega)]
  refine ⟨fun q => absurd q (by omega), fun _ => ⟨(kI_in (by omega)).mpr hR, ?_⟩⟩
  rw [forall_eq, e1, show (nI R + 1 : Int32) = nI (R + 1) from nI_1 R, forall_eq, e2, nI_clamp (by omega)]
  generalize ka_wI (ka_wI σ (18, 0, 0) 2 (nI R)) (18, 0, 0) 1 (nI (R + 1)) = σ3 at e2 e3 a0 w0 ⊢
  refine ⟨hR, sp_X7_reset (fun σ4 a4 r4 => ?_)⟩
  have e4 : σ4.1 (18, 0, 0) 2 = nI R := (a4 (18, 0, 0) 2 (fun q => absurd q.1 (by decide))).1.trans e2
  have e4' : σ4.1 (18, 0, 0) 1 = nI (R + 1) := (a4 (18, 0, 0) 1 (fun q => absurd q.1 (by decide))).1.trans e3
  rw [e4, nI_clamp (by omega)]
  refine ⟨hR, sp_X7_openPart (c := 0) r4 (by decide) rfl (fun σ5 a5 r5 => ?_)⟩
  have e5 : σ5.1 (18, 0, 0) 2 = nI R := (a5 (18, 0, 0) 2 (fun q => absurd q.1 (by decide))).1.trans e4
  have e5' : σ5.1 (18, 0, 0) 1 = nI (R + 1) := (a5 (18, 0, 0) 1 (fun q => absurd q.1 (by decide))).1.trans e4'
  rw [forall_eq, forall_eq]
  have a6 : ag (fun k _ => k.1 = 18) σ5 (ka_wI (ka_wI σ5 (18, 0, 0) 3 0) (18, 0, 0) 4 0) := ag_I (ag_I ag_refl rfl) rfl
  have w6 : ∀ j w, rc_W σ5 18 j w → rc_W (ka_wI (ka_wI σ5 (18, 0, 0) 3 0) (18, 0, 0) 4 0) 18 j w := fun j w hw => rc_W_ag hw a6 (fun κ n h5 h9 q => absurd (show κ = 18 from q) (by omega))
  refine h _ (ag_trans a0 (ag_trans (ag_mono a4 xw_rd) (ag_trans (ag_mono a5 xw_rd) (ag_mono a6 (fun k n q => Or.inl q))))) ⟨?_, ?_, ?_, ?_⟩ (w6 _ _ r5) (fun j w hj hw => w6 _ _ (rc_W_ag (rc_W_ag (w0 j w hw) a4 (fun κ n _ _ q => hj q.2.1)) a5 (fun κ n _ _ q => hj q.2.1)))
  · simp only [st_I, st_L, st_I2, st_L1, Prod.mk.injEq, Nat.reduceEqDiff, false_and, and_false, true_and, and_true, and_self, if_false, if_true, reduceIte]
    exact e5'
  · simp only [st_I, st_L, st_I2, st_L1, Prod.mk.injEq, Nat.reduceEqDiff, false_and, and_false, true_and, and_true, and_self, if_false, if_true, reduceIte]
    exact e5
  · simp only [st_I, st_L, st_I2, st_L1, Prod.mk.injEq, Nat.reduceEqDiff, false_and, and_false, true_and, and_true, and_self, if_false, if_true, reduceIte]
    rfl
  · simp only [st_I, st_L, st_I2, st_L1, Prod.mk.injEq, Nat.reduceEqDiff, false_and, and_false, true_and, and_true, and_self, if_false, if_true, reduceIte]
    rfl
theorem sp_X5_hasPartLetters {σ : ka_S} {s : ma_A} {Q : Int32 → ka_S → Prop} (ok : mv_ok s) (hV : rc_V σ s) (h1 : 0 < (mw_P (mv_w s) (mv_p s)).length → Q 1 σ) (h0 : ¬ 0 < (mw_P (mv_w s) (mv_p s)).length → Q 0 σ) : kw_X5_hasPartLetters σ Q := by
  have hR := ok.1
  obtain ⟨c1, c2, c3, c4, _⟩ := ok.2.2.2
  have hw := rc_Vw ok hV
  unfold kw_X5_hasPartLetters
  rw [hV.1.2.1, hV.1.2.2.2, nI_clamp (by omega), nI_clamp (by omega), (hw.2.1 _ c3).1]
  refine ⟨by omega, (kI_in (by omega)).mpr (by omega), sp_X2_length (c4 _ c3).1.g ?_⟩
  have h8 := (c4 _ c3).1.1
  rw [show (0 : Int32) = nI 0 from rfl, nI_leI (by omega) (by decide)]
  exact ⟨fun q => h0 (by omega), fun q => h1 (by omega)⟩
theorem sp_X5_isWordWhole {σ : ka_S} {s : ma_A} {Q : Int32 → ka_S → Prop} (ok : mv_ok s) (hV : rc_V σ s) (h1 : mv_wh s → Q 1 σ) (h0 : ¬ mv_wh s → Q 0 σ) : kw_X5_isWordWhole σ Q := by
  have hR := ok.1
  have hg := ok.2.1
  obtain ⟨c1, c2, c3, c4, _⟩ := ok.2.2.2
  have hw := rc_Vw ok hV
  unfold kw_X5_isWordWhole
  rw [hV.1.2.1, hV.1.2.2.1, hV.1.2.2.2, nI_clamp (by omega), hw.1.1, show (0 : Int32) = nI 0 from rfl, nI_eq (by omega) (by decide), show nI (mw_S (mv_w s)) - (1 : Int32) = nI (mw_S (mv_w s) - 1) by rw [kI_lit, pk_sub (by omega)], nI_eq (by omega) (by omega)]
  refine ⟨fun z => sp_X5_hasPartLetters ok hV (fun q => ⟨Or.inr rfl, h1 (Or.inl ⟨z, q⟩)⟩) (fun q => ⟨Or.inl rfl, h0 (fun y => y.elim (fun y => q y.2) (fun y => y.1 z))⟩), fun z => ⟨by omega, fun q => h1 (Or.inr ⟨z, by omega⟩), fun q => h0 (fun y => y.elim (fun y => z y.1) (fun y => q (by omega)))⟩⟩
theorem rc_V_set {σ σ' : ka_S} {s : ma_A} {w : ma_W} {g p : Nat} (hV : rc_V σ s) (hR : 1 ≤ mv_R s) (a : ag (fun k n => (k = (18, 0, 0) ∧ (n = 3 ∨ n = 4)) ∨ xw 18 (mv_R s - 1) k n) σ σ') (h3 : σ'.1 (18, 0, 0) 3 = nI g) (h4 : σ'.1 (18, 0, 0) 4 = nI p) (hw : rc_W σ' 18 (mv_R s - 1) w) : rc_V σ' (mv_set s w g p) := by
  refine ⟨⟨(a _ _ (fun q => ?_)).1.trans hV.1.1, (a _ _ (fun q => ?_)).1.trans hV.1.2.1, h3, h4⟩, fun j hj => ?_⟩
  · rcases q with q | q
    · exact absurd q.2 (by decide)
    · exact absurd q.1 (by decide)
  · rcases q with q | q
    · exact absurd q.2 (by decide)
    · exact absurd q.1 (by decide)
  · have hj' : j < mv_R s := hj
    show rc_W σ' 18 j (if j = mv_R s - 1 then w else mv_D s j)
    by_cases e : j = mv_R s - 1
    · rw [if_pos e, e]; exact hw
    · rw [if_neg e]
      refine rc_W_ag (hV.2 j hj') a (fun κ n h5 h9 q => ?_)
      rcases q with q | q
      · have : κ = 18 := congrArg Prod.fst q.1
        omega
      · exact e q.2.1
theorem xr_s {R : Nat} (k : ka_K) (n : Nat) (h : (k = (18, 0, 0) ∧ (n = 3 ∨ n = 4)) ∨ xw 18 R k n) : xrd k n := by
  rcases h with h | h
  · exact Or.inl (by rw [h.1])
  · exact xw_rd k n h
theorem sp_X5_takesBlank {σ : ka_S} {s : ma_A} {Q : Int32 → ka_S → Prop} (ok : mv_ok s) (hV : rc_V σ s) (h : mv_post (if mv_wh s ∧ mv_R s < 12 then some (mv_next s) else none) (fun s' => ∀ σ', ag xrd σ σ' → rc_V σ' s' → Q 1 σ') (Q 0 σ)) : kw_X5_takesBlank σ Q := by
  have hR := ok.1
  unfold kw_X5_takesBlank
  refine sp_X5_isWordWhole ok hV (fun w => ⟨fun q => absurd q (by decide), fun _ => ?_⟩) (fun w => ⟨fun _ => ?_, fun q => absurd rfl q⟩)
  · rw [hV.1.1, show (12 : Int32) = nI 12 from rfl, nI_ltI (by omega) (by decide)]
    refine ⟨fun q => ?_, fun q => ?_⟩
    · rw [if_pos ⟨w, q⟩] at h
      refine sp_X5_openWord hV.1.1 q (fun σ1 a1 v1 w1 o1 => h σ1 a1 ⟨v1, fun j hj => ?_⟩)
      have hj' : j < mv_R s + 1 := hj
      show rc_W σ1 18 j (if j = mv_R s then mw_part mw_zero 0 else mv_D s j)
      by_cases e : j = mv_R s
      · rw [if_pos e, e]; exact w1
      · rw [if_neg e]; exact o1 j _ e (hV.2 j (by omega))
    · rw [if_neg (fun z => q z.2)] at h
      exact h
  · rw [if_neg (fun z => w z.1)] at h
    exact h
theorem sp_X5_takesColon {σ : ka_S} {s : ma_A} {Q : Int32 → ka_S → Prop} (ok : mv_ok s) (hV : rc_V σ s) (h : mv_post (if mv_g s = 0 ∧ mv_wh s then some (mv_set s (mv_w s) 1 0) else none) (fun s' => ∀ σ', ag xrd σ σ' → rc_V σ' s' → Q 1 σ') (Q 0 σ)) : kw_X5_takesColon σ Q := by
  have hR := ok.1
  have hg := ok.2.1
  unfold kw_X5_takesColon
  rw [hV.1.2.2.1, show (0 : Int32) = nI 0 from rfl, nI_eq (by omega) (by decide)]
  refine ⟨fun z => sp_X5_hasPartLetters ok hV (fun w => ⟨fun q => absurd q (by decide), fun _ => ?_⟩) (fun w => ⟨fun _ => ?_, fun q => absurd rfl q⟩), fun z => ?_⟩
  · rw [if_pos ⟨z, Or.inl ⟨z, w⟩⟩] at h
    rw [forall_eq, forall_eq]
    have a1 : ag (fun k n => (k = (18, 0, 0) ∧ (n = 3 ∨ n = 4)) ∨ xw 18 (mv_R s - 1) k n) σ (ka_wI (ka_wI σ (18, 0, 0) 3 1) (18, 0, 0) 4 (nI 0)) := ag_I (ag_I ag_refl (Or.inl ⟨rfl, Or.inl rfl⟩)) (Or.inl ⟨rfl, Or.inr rfl⟩)
    refine h _ (ag_mono a1 xr_s) (rc_V_set hV hR.1 a1 ?_ ?_ (rc_W_ag (X := fun k _ => k = (18, 0, 0)) (rc_Vw ok hV) (ag_I (ag_I ag_refl rfl) rfl) (fun κ n h5 h9 q => by
      have : κ = 18 := congrArg Prod.fst q
      omega)))
    · simp only [st_I, st_L, st_I2, st_L1, Prod.mk.injEq, Nat.reduceEqDiff, false_and, and_false, true_and, and_true, and_self, if_false, if_true, reduceIte]
      rfl
    · simp only [st_I, st_L, st_I2, st_L1, Prod.mk.injEq, Nat.reduceEqDiff, false_and, and_false, true_and, and_true, and_self, if_false, if_true, reduceIte]
  · rw [if_neg (fun y => y.2.elim (fun y => w y.2) (fun y => y.1 z))] at h
    exact h
  · rw [if_neg (fun y => z y.1)] at h
    exact h
theorem sp_X5_takesMarkOfParts {σ : ka_S} {s : ma_A} {c : Nat} {Q : Int32 → ka_S → Prop} (ok : mv_ok s) (hV : rc_V σ s) (z : mv_g s = 0) (h : mv_post (if mv_wh s ∧ mw_S (mv_w s) < 4 then some (mv_set s (mw_part (mv_w s) c) 0 (mv_p s + 1)) else none) (fun s' => ∀ σ', ag xrd σ σ' → rc_V σ' s' → Q 1 σ') (Q 0 σ)) : kw_X5_takesMarkOfParts σ (nI c) Q := by
  have hR := ok.1
  obtain ⟨c1, c2, c3, c4, _⟩ := ok.2.2.2
  have hw := rc_Vw ok hV
  unfold kw_X5_takesMarkOfParts
  refine sp_X5_hasPartLetters ok hV (fun w => ⟨fun q => absurd q (by decide), fun _ => ?_⟩) (fun w => ⟨fun _ => ?_, fun q => absurd rfl q⟩)
  · rw [hV.1.2.1, nI_clamp (by omega), hw.1.1, show (4 : Int32) = nI 4 from rfl, nI_ltI (by omega) (by decide)]
    refine ⟨by omega, fun q => ⟨by omega, ?_⟩, fun q => ?_⟩
    · rw [if_pos ⟨Or.inl ⟨z, w⟩, q⟩] at h
      refine sp_X7_openPart (c := c) hw q (by rw [if_neg (by omega)]) (fun σ1 a1 r1 => ?_)
      have e4 : σ1.1 (18, 0, 0) 4 = nI (mv_p s) := (a1 (18, 0, 0) 4 (fun q => absurd q.1 (by decide))).1.trans hV.1.2.2.2
      have e3 : σ1.1 (18, 0, 0) 3 = nI (mv_g s) := (a1 (18, 0, 0) 3 (fun q => absurd q.1 (by decide))).1.trans hV.1.2.2.1
      rw [e4, show (nI (mv_p s) + 1 : Int32) = nI (mv_p s + 1) from nI_1 _, forall_eq]
      have a2 : ag (fun k n => (k = (18, 0, 0) ∧ (n = 3 ∨ n = 4)) ∨ xw 18 (mv_R s - 1) k n) σ (ka_wI σ1 (18, 0, 0) 4 (nI (mv_p s + 1))) := ag_I (ag_mono a1 (fun k n q => Or.inr q)) (Or.inl ⟨rfl, Or.inr rfl⟩)
      refine h _ (ag_mono a2 xr_s) (rc_V_set hV hR.1 a2 ?_ ?_ (rc_W_ag (X := fun k _ => k = (18, 0, 0)) r1 (ag_I ag_refl rfl) (fun κ n h5 h9 q => by
        have : κ = 18 := congrArg Prod.fst q
        omega)))
      · simp only [st_I, st_L, st_I2, st_L1, Prod.mk.injEq, Nat.reduceEqDiff, false_and, and_false, true_and, and_true, and_self, if_false, if_true, reduceIte]
        rw [e3, z]
      · simp only [st_I, st_L, st_I2, st_L1, Prod.mk.injEq, Nat.reduceEqDiff, false_and, and_false, true_and, and_true, and_self, if_false, if_true, reduceIte]
    · rw [if_neg (fun y => q y.2)] at h
      exact h
  · rw [if_neg (fun y => y.1.elim (fun y => w y.2) (fun y => y.1 z))] at h
    exact h
theorem sp_X5_takesMarkOfGlosses {σ : ka_S} {s : ma_A} {c : Nat} {Q : Int32 → ka_S → Prop} (ok : mv_ok s) (hV : rc_V σ s) (z : ¬ mv_g s = 0) (hc : c < 256) (h : mv_post (if mv_p s + 1 < mw_S (mv_w s) ∧ mw_M (mv_w s) (mv_p s + 1) = c then some (mv_set s (mv_w s) 1 (mv_p s + 1)) else none) (fun s' => ∀ σ', ag xrd σ σ' → rc_V σ' s' → Q 1 σ') (Q 0 σ)) : kw_X5_takesMarkOfGlosses σ (nI c) Q := by
  have hR := ok.1
  have hg := ok.2.1
  obtain ⟨c1, c2, c3, c4, _⟩ := ok.2.2.2
  have hw := rc_Vw ok hV
  unfold kw_X5_takesMarkOfGlosses
  rw [hV.1.2.1, nI_clamp (by omega), hw.1.1, hV.1.2.2.2, show (nI (mv_p s) + 1 : Int32) = nI (mv_p s + 1) from nI_1 _, nI_leI (by omega) (by omega), nI_clamp (by omega)]
  refine ⟨by omega, fun q => ?_, fun q => ⟨by omega, (kI_in (by omega)).mpr (by omega), ?_⟩⟩
  · rw [if_neg (fun y => by have := y.1; omega)] at h
    exact h
  · have hm := (c4 (mv_p s + 1) (by omega)).2.2 (by omega)
    rw [(hw.2.1 _ (show mv_p s + 1 < mw_S (mv_w s) by omega)).2.2, if_neg (by omega), nI_eq (by omega) (by omega)]
    refine ⟨fun q2 => ?_, fun q2 => ?_⟩
    · rw [if_pos ⟨by omega, q2⟩] at h
      rw [forall_eq]
      have a2 : ag (fun k n => (k = (18, 0, 0) ∧ (n = 3 ∨ n = 4)) ∨ xw 18 (mv_R s - 1) k n) σ (ka_wI σ (18, 0, 0) 4 (nI (mv_p s + 1))) := ag_I ag_refl (Or.inl ⟨rfl, Or.inr rfl⟩)
      refine h _ (ag_mono a2 xr_s) (rc_V_set hV hR.1 a2 ?_ ?_ (rc_W_ag (X := fun k _ => k = (18, 0, 0)) hw (ag_I ag_refl rfl) (fun κ n h5 h9 q => by
        have : κ = 18 := congrArg Prod.fst q
        omega)))
      · simp only [st_I, st_L, st_I2, st_L1, Prod.mk.injEq, Nat.reduceEqDiff, false_and, and_false, true_and, and_true, and_self, if_false, if_true, reduceIte]
        rw [hV.1.2.2.1, show mv_g s = 1 by omega]
      · simp only [st_I, st_L, st_I2, st_L1, Prod.mk.injEq, Nat.reduceEqDiff, false_and, and_false, true_and, and_true, and_self, if_false, if_true, reduceIte]
    · rw [if_neg (fun y => q2 y.2)] at h
      exact h
