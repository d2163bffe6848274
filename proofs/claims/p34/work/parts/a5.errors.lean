/-! ===== errors: what throws, and changes nothing ===== -/
theorem kn_ge {a n : Nat} (h : n ≤ a) (ha : a < 2 ^ 31) : ∀ k, k < n → nI a ≠ nI k := fun k hk e => by
  rw [nI_eq ha (by omega)] at e
  omega
theorem kn_m1 {n : Nat} (hn : n ≤ 2 ^ 31) : ∀ k, k < n → (-1 : Int32) ≠ nI k := fun k hk e => kI_n1 (by omega) e
theorem x_learn2 {σ : ka_S} {A : ma_X} {i p : Nat} {Q : Int64 → ka_S → Prop} (hv : kv σ A) (hi : i < mp_N (kx_M A)) (hp : p < mw_S (mp_D (kx_M A) i)) (hn : ¬ mc_learn (kx_M A) i p) (h : ∀ σ1, kv σ1 A → Q (-9000000000000000003 : Int64) σ1) : kw_L_learn σ (nI i) (nI p) Q := by
  have hN := hv.1.2.2.1.1
  have hS := (hv.1.2.2.1.2.2.2.2.2.1 i hi).1
  unfold kw_L_learn
  refine s_learn hv (fun j q hj hq e e2 hl σ1 _ => ?_) (fun z => absurd ⟨rfl, rfl⟩ (z i p hi hp)) (fun j q hj hq e e2 _ => h σ hv)
  have hS' := (hv.1.2.2.1.2.2.2.2.2.1 j hj).1
  rw [nI_eq (by omega) (by omega)] at e e2
  subst e e2
  exact absurd hl hn
theorem mp_cmd_1 (M : ma_P) : mi_script 1 1 1 0 M = nI 0 := rfl
theorem le_622 {σ : ka_S} {A : ma_X} {Q : Int32 → ka_S → Prop} (hv : kv σ A) (h : ∀ σ1, kv σ1 A → Q 1 σ1) : kw_L_errors_622 Q σ (mf_now (kx_M A)) := by
  unfold kw_L_errors_622
  refine x_script hv (fun n s z => ?_) (fun σ1 h1 => kb_eq rfl ?_)
  · have e := z.2.2.1
    have := z.1
    rw [show (5 : Int32) = nI 5 from rfl, nI_eq (by decide) (by omega)] at e
    omega
  refine x_script h1 (fun n s z => ?_) (fun σ2 h2 => kb_eq rfl ?_)
  · have e := z.2.2.1
    have e2 := z.2.2.2
    have hn := z.1
    have hs := z.2.1
    rw [show (1 : Int32) = nI 1 from rfl, nI_eq (by decide) (by omega)] at e
    subst e
    rw [show (10000 : Int64) = lN 10000 from rfl, pk_lEQ (by decide) (mc_scr_lt hn.2 hs)] at e2
    omega
  refine l1_script (n := 1) (s := 1) h2 (by decide) (by decide) (fun σ3 h3 => kb_eq (by rw [mp_cmd_1]; rfl) ?_)
  refine x_simulate h3 (fun n h1 h2 e => ?_) (fun σ4 h4 => kb_eq rfl ?_)
  · rw [show (0 : Int32) = nI 0 from rfl, nI_eq (by decide) (by omega)] at e
    omega
  refine x_simulate h4 (fun n h1 h2 e => ?_) (fun σ5 h5 => kb_eq rfl ?_)
  · rw [show (100 : Int32) = nI 100 from rfl, nI_eq (by decide) (by omega)] at e
    omega
  refine x_save h5 (kn_ge (a := 2) (by decide) (by decide)) (fun σ6 h6 => kb_eq rfl ?_)
  refine x_restore h6 (kn_m1 (by decide)) (fun σ7 h7 => kb_eq rfl ?_)
  exact l_now h7 (fun σ8 h8 => kb_eq rfl (h σ8 h8))
theorem le_603 {σ : ka_S} {A : ma_X} {Q : Int32 → ka_S → Prop} (hv : kv σ A) (h : ∀ σ1, kv σ1 A → Q 1 σ1) : kw_L_errors_603 Q σ (mf_now (kx_M A)) (nI (mp_L (kx_M A))) := by
  have hL := hv.1.2.2.1.2.1
  unfold kw_L_errors_603
  refine kb_i (mp_L (kx_M A)) 0 (fun _ => le_622 hv h) (fun q => ?_)
  exact x_entry2 (b := 1) hv (by decide) ⟨0, by omega, rfl⟩ kI_n1p (fun σ1 h1 => kb_eq rfl (le_622 h1 h))
theorem le_567 {σ : ka_S} {A : ma_X} {Q : Int32 → ka_S → Prop} (hv : kv σ A) (h : ∀ σ1, kv σ1 A → Q 1 σ1) : kw_L_errors_567 Q σ (mf_now (kx_M A)) (nI (mp_L (kx_M A))) (nI (mt_rows (kx_M A))) 1 := by
  have hR := mt_rows_le hv.1.2.2.1
  unfold kw_L_errors_567
  refine kb_ne (by decide) (kb_i (mt_rows (kx_M A)) 0 (fun _ => le_603 hv h) (fun q => ?_))
  refine x_row2 hv ⟨0, by omega, rfl⟩ (kn_ge (a := 3) (by decide) (by decide)) (fun σ1 h1 => kb_eq rfl ?_)
  exact x_at2 h1 ⟨0, by omega, rfl⟩ kI_n1p (fun σ2 h2 => kb_eq rfl (le_603 h2 h))
theorem le_507 {A : ma_X} {v1 : Int64} {v3 v4 v5 : Int32} {i : Nat} {K385 : ka_S → Int64 → Int32 → Int32 → Int32 → Int32 → Int32 → Prop} {Q : Int32 → ka_S → Prop} (hi : i < mp_N (kx_M A)) (h : ∀ σ1, kv σ1 A → K385 σ1 v1 v3 v4 v5 1 (nI (i + 1))) :
    ∀ (m p : Nat), p + m = mw_S (mp_D (kx_M A) i) → ∀ (σ : ka_S), kv σ A → kw_L_errors_507 K385 Q (m + 1) σ v1 v3 v4 v5 1 (nI i) (nI (mw_S (mp_D (kx_M A) i))) (nI p) := by
  intro m
  induction m with
  | zero =>
    intro p hp σ hv
    have hS := (hv.1.2.2.1.2.2.2.2.2.1 i hi).1
    rw [kw_L_errors_507]
    refine kb_le (mw_S (mp_D (kx_M A) i)) p (fun _ => ?_) (fun q => absurd q (by omega))
    intro x ex
    subst ex
    rw [nI_1]
    exact h σ hv
  | succ m ih =>
    intro p hp σ hv
    have hS := (hv.1.2.2.1.2.2.2.2.2.1 i hi).1
    have hp' : p < mw_S (mp_D (kx_M A) i) := by omega
    have hG := ((hv.1.2.2.1.2.2.2.2.2.1 i hi).2.2.2.2.1 p hp').2.1.1
    rw [kw_L_errors_507]
    refine kb_le (mw_S (mp_D (kx_M A) i)) p (fun q => absurd q (by omega)) (fun _ => kb_ne (by decide) ?_)
    refine l1_part (k := 1) hv hi hp' (by decide) (fun σ1 h1 => ?_)
    refine kb_lLT 0 (mw_G (mp_D (kx_M A) i) p).length (fun _ => ?_) (fun q => ?_) rfl (nI_l (by omega))
    · intro x ex
      subst ex
      rw [nI_1]
      exact ih (p + 1) (by omega) σ1 h1
    · refine x_learn2 h1 hi hp' (fun z => z.1 ?_) (fun σ2 h2 => kb_eq rfl ?_)
      · exact List.length_eq_zero_iff.mp (by omega)
      · intro x ex
        subst ex
        rw [nI_1]
        exact ih (p + 1) (by omega) σ2 h2
theorem le_385 {A : ma_X} {Q : Int32 → ka_S → Prop} (h : ∀ σ1, kv σ1 A → Q 1 σ1) :
    ∀ (m i : Nat), i + m = mp_N (kx_M A) → ∀ (σ : ka_S), kv σ A → kw_L_errors_385 Q (m + 1) σ (mf_now (kx_M A)) (nI (mp_N (kx_M A))) (nI (mp_L (kx_M A))) (nI (mt_rows (kx_M A))) 1 (nI i) := by
  intro m
  induction m with
  | zero =>
    intro i hi σ hv
    have hN := hv.1.2.2.1.1
    rw [kw_L_errors_385]
    exact kb_le (mp_N (kx_M A)) i (fun _ => le_567 hv h) (fun q => absurd q (by omega))
  | succ m ih =>
    intro i hi σ hv
    have hN := hv.1.2.2.1.1
    have hi' : i < mp_N (kx_M A) := by omega
    have hS := (hv.1.2.2.1.2.2.2.2.2.1 i hi').1
    rw [kw_L_errors_385]
    refine kb_le (mp_N (kx_M A)) i (fun q => absurd q (by omega)) (fun _ => kb_ne (by decide) ?_)
    refine l1_word (k := 0) hv hi' (by decide) (fun σ1 h1 => ?_)
    intro x ex
    rw [lN_i] at ex
    subst ex
    have sp : ∀ j p, j < mp_N (kx_M A) → p < mw_S (mp_D (kx_M A) j) → ¬ (nI i = nI j ∧ nI (mw_S (mp_D (kx_M A) i)) = nI p) := fun j p hj hp e => by
      have hS' := (hv.1.2.2.1.2.2.2.2.2.1 j hj).1
      obtain ⟨e1, e2⟩ := e
      rw [nI_eq (by omega) (by omega)] at e1 e2
      subst e1
      omega
    refine x_word2 h1 ⟨i, hi', rfl⟩ (kn_ge (a := 8) (by decide) (by decide)) (fun σ2 h2 => kb_eq rfl ?_)
    refine x_part h2 sp (fun σ3 h3 => kb_eq rfl ?_)
    refine x_part2 h3 ⟨i, 0, hi', by omega, rfl, rfl⟩ (kn_ge (a := 4) (by decide) (by decide)) (fun σ4 h4 => kb_eq rfl ?_)
    refine x_letter2 (b := 0) h4 (by decide) ⟨i, 0, hi', by omega, rfl, rfl⟩ kI_n1p (fun σ5 h5 => kb_eq rfl ?_)
    refine x_setGloss h5 sp (fun σ6 h6 => kb_eq rfl ?_)
    refine x_learn h6 (fun j p hj hp e => ?_) (fun σ7 h7 => kb_eq rfl ?_)
    · have hS' := (hv.1.2.2.1.2.2.2.2.2.1 j hj).1
      exact kI_n1 (by omega) e.2
    · exact ⟨mw_S (mp_D (kx_M A) i) + 1, by omega, le_507 hi' (fun σ8 h8 => ih (i + 1) (by omega) σ8 h8) (mw_S (mp_D (kx_M A) i)) 0 (Nat.zero_add _) σ7 h7⟩
theorem le_296 {σ : ka_S} {A : ma_X} {Q : Int32 → ka_S → Prop} (hv : kv σ A) (h : ∀ σ1, kv σ1 A → Q 1 σ1) : kw_L_errors_296 Q σ (mf_now (kx_M A)) (nI (mp_N (kx_M A))) (nI (mp_L (kx_M A))) (nI (mt_rows (kx_M A))) := by
  have hN := hv.1.2.2.1.1
  have hL := hv.1.2.2.1.2.1
  unfold kw_L_errors_296
  refine x_learn hv (fun j p hj hp e => kn_ge (Nat.le_refl _) (by omega) j hj e.1) (fun σ1 h1 => kb_eq rfl ?_)
  refine x_forget h1 (kn_ge (Nat.le_refl _) (by omega)) (fun σ2 h2 => kb_eq rfl ?_)
  refine x_gap h2 kI_n1p (fun σ3 h3 => kb_eq rfl ?_)
  refine x_widthFor h3 (kn_ge (a := 100) (by decide) (by decide)) (fun σ4 h4 => kb_eq rfl ?_)
  refine x_rowsWith h4 (by unfold mc_set; decide) (fun σ5 h5 => kb_eq rfl ?_)
  refine x_rowsWith h5 (by unfold mc_set; decide) (fun σ6 h6 => kb_eq rfl ?_)
  exact ⟨mp_N (kx_M A) + 1, by omega, le_385 h (mp_N (kx_M A)) 0 (Nat.zero_add _) σ6 h6⟩
theorem le_190 {σ : ka_S} {A : ma_X} {Q : Int32 → ka_S → Prop} (hv : kv σ A) (h : ∀ σ1, kv σ1 A → Q 1 σ1) : kw_L_errors_190 Q σ (mf_now (kx_M A)) (nI (mp_N (kx_M A))) (nI (mp_L (kx_M A))) (nI (mt_rows (kx_M A))) := by
  have hN := hv.1.2.2.1.1
  unfold kw_L_errors_190
  refine x_end hv (kn_ge (Nat.le_refl _) (by omega)) (fun σ1 h1 => kb_eq rfl ?_)
  refine x_join h1 (kn_ge (Nat.le_refl _) (by omega)) (fun σ2 h2 => kb_eq rfl ?_)
  refine x_setFree h2 (kn_ge (Nat.le_refl _) (by omega)) (fun σ3 h3 => kb_eq rfl ?_)
  refine x_setGloss h3 (fun j p hj hp e => kn_ge (Nat.le_refl _) (by omega) j hj e.1) (fun σ4 h4 => kb_eq rfl ?_)
  refine x_set h4 (by unfold mc_set; decide) (fun σ5 h5 => kb_eq rfl ?_)
  refine x_set h5 (by unfold mc_set; decide) (fun σ6 h6 => kb_eq rfl ?_)
  refine x_set h6 (by unfold mc_set; decide) (fun σ7 h7 => kb_eq rfl ?_)
  exact x_set h7 (by unfold mc_set; decide) (fun σ8 h8 => kb_eq rfl (le_296 h8 h))
theorem le_80 {σ : ka_S} {A : ma_X} {Q : Int32 → ka_S → Prop} (hv : kv σ A) (h : ∀ σ1, kv σ1 A → Q 1 σ1) : kw_L_errors_80 Q σ (mf_now (kx_M A)) (nI (mp_N (kx_M A))) (nI (mp_L (kx_M A))) (nI (mt_rows (kx_M A))) := by
  have hN := hv.1.2.2.1.1
  have hL := hv.1.2.2.1.2.1
  have hR := mt_rows_le hv.1.2.2.1
  unfold kw_L_errors_80
  rw [nI_1]
  refine x_part hv (fun j p hj hp e => kn_ge (Nat.le_refl _) (by omega) j hj e.1) (fun σ1 h1 => kb_eq rfl ?_)
  refine x_letter (b := 1) h1 (by decide) (fun j p hj hp e => kI_n1 (by omega) e.1) (fun σ2 h2 => kb_eq rfl ?_)
  refine x_entry (b := 0) h2 (by decide) (kn_ge (Nat.le_refl _) (by omega)) (fun σ3 h3 => kb_eq rfl ?_)
  refine x_row h3 (kn_ge (Nat.le_refl _) (by omega)) (fun σ4 h4 => kb_eq rfl ?_)
  refine x_at h4 (kn_ge (Nat.le_refl _) (by omega)) (fun σ5 h5 => kb_eq rfl ?_)
  refine x_insert h5 (kn_ge (Nat.le_refl _) (by omega)) (fun σ6 h6 => kb_eq rfl ?_)
  refine x_insert h6 (kn_m1 (by omega)) (fun σ7 h7 => kb_eq rfl ?_)
  exact x_remove h7 (kn_ge (Nat.le_refl _) (by omega)) (fun σ8 h8 => kb_eq rfl (le_190 h8 h))
theorem l_errors {σ : ka_S} {A : ma_X} {Q : Int32 → ka_S → Prop} (hv : kv σ A) (h : ∀ σ1, kv σ1 A → Q 1 σ1) : kw_L_errors σ Q := by
  have hN := hv.1.2.2.1.1
  unfold kw_L_errors
  refine l_now hv (fun σ1 h1 => l_words h1 (fun σ2 h2 => l1_about (k := 7) h2 (by decide) (fun σ3 h3 => ?_)))
  intro x ex
  rw [lN_i] at ex
  subst ex
  refine l1_about (k := 5) h3 (by decide) (fun σ4 h4 => ?_)
  intro x ex
  rw [lN_i] at ex
  subst ex
  refine x_append h4 (by decide) (fun σ5 h5 => kb_eq rfl ?_)
  refine x_append h5 (by decide) (fun σ6 h6 => kb_eq rfl ?_)
  refine x_about h6 (kn_ge (a := 12) (by decide) (by decide)) (fun σ7 h7 => kb_eq rfl ?_)
  exact x_word h7 (kn_ge (Nat.le_refl _) (by omega)) (fun σ8 h8 => kb_eq rfl (le_80 h8 h))
