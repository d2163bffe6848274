/-! ===== built: the whole page ===== -/
theorem kI_9le {k : Nat} (h : k < 2 ^ 31) : ¬ lN k ≤ (-9 : Int64) := fun q => by
  have h1 := lN_toInt h
  have h2 := Int64.le_iff_toInt_le.mp q
  rw [h1] at h2
  have : (-9 : Int64).toInt = -9 := by decide
  omega
theorem lb_1062 {σ : ka_S} {A : ma_X} {t0 t1 : Int64} {Q : Int32 → ka_S → Prop} (hv : kv σ A) (e : t0 = t1) (h : ∀ σ1, kv σ1 A → Q 1 σ1) : kw_L_built_1062 Q σ (lN (mt_parts (kx_M A))) (lN (mt_gapsP (kx_M A))) (lN (ma_sum (mf_wide (kx_M A) (mp_W (kx_M A)) (mp_Y (kx_M A))) (mp_N (kx_M A)))) (lN (ma_sum (mf_fr (kx_M A) (mp_W (kx_M A))) (mp_N (kx_M A)))) (lN (tl (mt_lay (kx_M A) (mp_W (kx_M A)) (mp_Y (kx_M A)) (mp_N (kx_M A))))) (lN (tl (mt_lay (kx_M A) (mp_W (kx_M A)) (mp_Y (kx_M A)) (mp_N (kx_M A))))) t0 t1 := by
  have ok := hv.1.2.2.1
  have hL := ok.2.1
  have b1 := mt_about_lt ok 1
  have b8 := mt_about_lt ok 8
  have g := mt_diff_gaps (kx_M A)
  have r := tr_eq ok (y := (mp_Y (kx_M A))) ok.2.2.1 (mp_N (kx_M A)) (Nat.le_refl _)
  unfold kw_L_built_1062
  refine kb_eq e ?_
  refine l0_about (k := 4) hv (by decide) (fun σ1 h1 => kb_eq rfl (kb_eq rfl ?_))
  refine l0_about (k := 5) h1 (by decide) (fun σ2 h2 => kb_eq ?_ ?_)
  · show lN (tr (mt_lay (kx_M A) (mp_W (kx_M A)) (mp_Y (kx_M A)) (mp_N (kx_M A)))) = lN 2 * lN (tl (mt_lay (kx_M A) (mp_W (kx_M A)) (mp_Y (kx_M A)) (mp_N (kx_M A)))) + lN _
    rw [r, lN_mul, lN_add]
  refine l0_about (k := 6) h2 (by decide) (fun σ3 h3 => kb_eq rfl ?_)
  refine l0_about (k := 8) h3 (by decide) (fun σ4 h4 => ?_)
  refine kb_lLT (mt_parts (kx_M A) - mt_gapsP (kx_M A)) (mt_about (kx_M A) 8) (fun q => ?_) (fun _ => ?_) (lN_sub (by omega)) rfl (show _ < _ by have : mt_parts (kx_M A) < 2 ^ 20 := b1; omega)
  · have : mt_parts (kx_M A) - mt_gapsP (kx_M A) < mt_diff (kx_M A) := q
    omega
  refine l0_about (k := 7) h4 (by decide) (fun σ5 h5 => ?_)
  exact l_in (mp_L (kx_M A)) 0 16 (Nat.zero_le _) hL (kb_ne (by decide) (h σ5 h5))
theorem lb_1012 {σ : ka_S} {A : ma_X} {Q : Int32 → ka_S → Prop} (hv : kv σ A) (h : ∀ σ1, kv σ1 A → Q 1 σ1) : kw_L_built_1012 Q σ (nI (mp_N (kx_M A))) (lN (mt_parts (kx_M A))) (lN (mt_gapsP (kx_M A))) (lN (ma_sum (mf_wide (kx_M A) (mp_W (kx_M A)) (mp_Y (kx_M A))) (mp_N (kx_M A)))) (lN (ma_sum (mf_fr (kx_M A) (mp_W (kx_M A))) (mp_N (kx_M A)))) 1 (lN (tl (mt_lay (kx_M A) (mp_W (kx_M A)) (mp_Y (kx_M A)) (mp_N (kx_M A))))) (lN (tl (mt_lay (kx_M A) (mp_W (kx_M A)) (mp_Y (kx_M A)) (mp_N (kx_M A))))) := by
  have ok := hv.1.2.2.1
  have hN := ok.1
  unfold kw_L_built_1012
  refine kb_ne (by decide) ?_
  refine l0_about (k := 1) hv (by decide) (fun σ1 h1 => kb_eq rfl ?_)
  refine l0_about (k := 2) h1 (by decide) (fun σ2 h2 => kb_eq rfl ?_)
  refine l0_about (k := 3) h2 (by decide) (fun σ3 h3 => ?_)
  refine kb_i (mp_N (kx_M A)) 0 (fun q => ?_) (fun q => ?_)
  · refine lb_1062 h3 ?_ h
    show lN (ma_sum (mf_sent (kx_M A)) (mp_N (kx_M A))) = 0
    rw [q]
    rfl
  · rw [show nI (mp_N (kx_M A)) - (1 : Int32) = nI (mp_N (kx_M A) - 1) from pk_sub (b := 1) (by omega)]
    refine l0_word (k := 4) h3 (show mp_N (kx_M A) - 1 < _ by omega) (by decide) (fun σ4 h4 => ?_)
    refine lb_1062 h4 ?_ h
    show lN (mt_sent (kx_M A)) = lN (ml_sent (kx_M A) (mp_W (kx_M A)) (mp_Y (kx_M A)) (mp_N (kx_M A) - 1)) + lN 1
    rw [mt_sent_eq ok (mp_W (kx_M A)) (mp_Y (kx_M A)) (by omega), lN_add]
theorem lb_978 {σ : ka_S} {A : ma_X} {r : Nat} {v1 v17 : Int32} {v6 v8 v10 v12 v15 v18 : Int64} {K812 : ka_S → Int32 → Int64 → Int64 → Int64 → Int64 → Int64 → Int32 → Int64 → Int32 → Int64 → Int32 → Prop} {Q : Int32 → ka_S → Prop} (hv : kv σ A) (hr : r < mt_rows (kx_M A))
    (h : ∀ σ1, kv σ1 A → K812 σ1 v1 (lN (mp_W (kx_M A))) v6 v8 v10 v12 1 v15 v17 v18 (nI (r + 1))) : kw_L_built_978 K812 Q σ v1 (lN (mp_W (kx_M A))) v6 v8 v10 v12 v15 v17 v18 (nI r) (lN (mt_row (kx_M A) r 1)) := by
  have ok := hv.1.2.2.1
  have hW := ok.2.2.1
  have b0 := mt_row_lt ok hr 0
  have b1 := mt_row_lt ok hr 1
  unfold kw_L_built_978
  refine l0_row (k := 0) hv hr (by decide) (fun σ1 h1 => ?_)
  refine kb_lLT (mt_row (kx_M A) r 0) 2 (fun _ x ex => ?_) (fun q => ?_)
  · rw [nI_1] at ex
    subst ex
    exact h σ1 h1
  refine kb_lLT (mp_W (kx_M A)) (mt_row (kx_M A) r 1) (fun z => ?_) (fun _ x ex => ?_)
  · have k2 : mr_kind (kx_M A) (mp_W (kx_M A)) (mp_Y (kx_M A)) r = 2 := by
      have e1 : mt_row (kx_M A) r 0 = min 2 (mr_off (kx_M A) (mp_W (kx_M A)) (mp_Y (kx_M A)) r) := rfl
      have e2 : mr_kind (kx_M A) (mp_W (kx_M A)) (mp_Y (kx_M A)) r = min 2 (mr_off (kx_M A) (mp_W (kx_M A)) (mp_Y (kx_M A)) r) := rfl
      omega
    have e : mt_row (kx_M A) r 1 = min (mw_F (mp_D (kx_M A) (mr_word (kx_M A) (mp_W (kx_M A)) (mp_Y (kx_M A)) r)) - mr_from (kx_M A) (mp_W (kx_M A)) (mp_Y (kx_M A)) r) (mp_W (kx_M A)) := if_pos k2
    omega
  · rw [nI_1] at ex
    subst ex
    exact h σ1 h1
theorem lb_896 {σ : ka_S} {A : ma_X} {r : Nat} {v1 v17 : Int32} {v6 v8 v10 v12 v15 v18 : Int64} {K812 : ka_S → Int32 → Int64 → Int64 → Int64 → Int64 → Int64 → Int32 → Int64 → Int32 → Int64 → Int32 → Prop} {Q : Int32 → ka_S → Prop} (hv : kv σ A) (hr : r < mt_rows (kx_M A))
    (h : ∀ σ1, kv σ1 A → K812 σ1 v1 (lN (mp_W (kx_M A))) v6 v8 v10 v12 1 v15 v17 v18 (nI (r + 1))) : kw_L_built_896 K812 Q σ v1 (lN (mp_W (kx_M A))) v6 v8 v10 v12 v15 v17 v18 (nI r) (lN (mt_row (kx_M A) r 1)) := by
  have ok := hv.1.2.2.1
  have b0 := mt_row_lt ok hr 0
  have b3 := mt_about_lt ok 3
  have hw := mr_word_lt ok hr
  have s := ml_sent_lt ok (W := (mp_W (kx_M A))) (y := (mp_Y (kx_M A))) hw
  unfold kw_L_built_896
  refine l0_row (k := 2) hv hr (by decide) (fun σ1 h1 => ?_)
  refine l0_about (k := 3) h1 (by decide) (fun σ2 h2 => ?_)
  refine l_in (mt_row (kx_M A) r 2) 0 (mt_about (kx_M A) 3 - 1) (Nat.zero_le _) (show ml_sent _ _ _ _ ≤ mt_sent _ - 1 by omega) (kb_ne (by decide) ?_) rfl rfl (lN_m1 (show 1 ≤ mt_sent _ by omega))
  refine l0_row (k := 0) h2 hr (by decide) (fun σ3 h3 => ?_)
  refine kb_l (mt_row (kx_M A) r 0) 1 (fun q => ?_) (fun _ => lb_978 h3 hr h)
  obtain ⟨f1, f2, f3⟩ := mr_kind1 (y := (mp_Y (kx_M A))) ok ok.2.2.1 hr q
  obtain ⟨j, rfl⟩ : ∃ j, r = j + 1 := ⟨r - 1, by omega⟩
  rw [Nat.add_sub_cancel] at f2 f3
  rw [pk_p1]
  have hj : j < mt_rows (kx_M A) := by omega
  refine l0_row (k := 0) h3 hj (by decide) (fun σ4 h4 => kb_eq (show lN (mr_kind (kx_M A) (mp_W (kx_M A)) (mp_Y (kx_M A)) j) = 0 by rw [f3]; rfl) ?_)
  refine l0_row (k := 1) h4 hj (by decide) (fun σ5 h5 => kb_eq ?_ ?_)
  · show lN (mr_len (kx_M A) (mp_W (kx_M A)) (mp_Y (kx_M A)) j) = lN (mr_len (kx_M A) (mp_W (kx_M A)) (mp_Y (kx_M A)) (j + 1))
    have q' : mr_kind (kx_M A) (mp_W (kx_M A)) (mp_Y (kx_M A)) (j + 1) = 1 := q
    unfold mr_len
    rw [if_neg (by omega), if_neg (by omega), f2]
  refine l0_row (k := 2) h5 hj (by decide) (fun σ6 h6 => ?_)
  refine l0_row (k := 2) h6 hr (by decide) (fun σ7 h7 => kb_eq ?_ (lb_978 h7 hr h))
  show lN (ml_sent (kx_M A) (mp_W (kx_M A)) (mp_Y (kx_M A)) (mr_word (kx_M A) (mp_W (kx_M A)) (mp_Y (kx_M A)) j)) = lN (ml_sent (kx_M A) (mp_W (kx_M A)) (mp_Y (kx_M A)) (mr_word (kx_M A) (mp_W (kx_M A)) (mp_Y (kx_M A)) (j + 1)))
  rw [f2]
theorem lb_852 {σ : ka_S} {A : ma_X} {r : Nat} {v1 v17 : Int32} {v6 v8 v10 v12 v15 t0 t1 v18 : Int64} {K812 : ka_S → Int32 → Int64 → Int64 → Int64 → Int64 → Int64 → Int32 → Int64 → Int32 → Int64 → Int32 → Prop} {Q : Int32 → ka_S → Prop} (hv : kv σ A) (hr : r < mt_rows (kx_M A)) (e : t0 + t1 = v18)
    (h : ∀ σ1, kv σ1 A → K812 σ1 v1 (lN (mp_W (kx_M A))) v6 v8 v10 v12 1 v15 v17 v18 (nI (r + 1))) : kw_L_built_852 K812 Q σ v1 (lN (mp_W (kx_M A))) v6 v8 v10 v12 v15 v17 (nI r) (lN (mt_row (kx_M A) r 1)) t0 t1 := by
  have ok := hv.1.2.2.1
  have b1 := mt_row_lt ok hr 1
  unfold kw_L_built_852
  rw [e]
  intro x ex
  subst ex
  rw [lN_i]
  refine l0_at (c := mt_row (kx_M A) r 1) hv hr (by omega) (fun σ1 h1 => kb_eq (by rw [show mr_code (kx_M A) (mp_W (kx_M A)) (mp_Y (kx_M A)) r (mt_row (kx_M A) r 1) = -9 from mr_code_out (Nat.le_refl _)]; rfl) ?_)
  refine kb_l (mt_row (kx_M A) r 1) 0 (fun _ => lb_896 h1 hr h) (fun q => ?_)
  rw [show nI (mt_row (kx_M A) r 1) - (1 : Int32) = nI (mt_row (kx_M A) r 1 - 1) from pk_sub (b := 1) (by omega)]
  refine l0_at (c := mt_row (kx_M A) r 1 - 1) h1 hr (by omega) (fun σ2 h2 => kb_ne ?_ (lb_896 h2 hr h))
  obtain ⟨n, hn, en⟩ := mr_code_in ok hr (c := mt_row (kx_M A) r 1 - 1) (show mt_row (kx_M A) r 1 - 1 < mt_row (kx_M A) r 1 by omega)
  rw [en, nI_l (by omega)]
  exact kI_9l (by omega)
theorem lb_812 {A : ma_X} {Q : Int32 → ka_S → Prop} (h : ∀ σ1, kv σ1 A → Q 1 σ1) : ∀ (m r : Nat), r + m = mt_rows (kx_M A) → ∀ (σ : ka_S), kv σ A → kw_L_built_812 Q (m + 1) σ (nI (mp_N (kx_M A))) (lN (mp_W (kx_M A))) (lN (mt_parts (kx_M A))) (lN (mt_gapsP (kx_M A))) (lN (ma_sum (mf_wide (kx_M A) (mp_W (kx_M A)) (mp_Y (kx_M A))) (mp_N (kx_M A)))) (lN (ma_sum (mf_fr (kx_M A) (mp_W (kx_M A))) (mp_N (kx_M A)))) 1 (lN (tl (mt_lay (kx_M A) (mp_W (kx_M A)) (mp_Y (kx_M A)) (mp_N (kx_M A))))) (nI (mt_rows (kx_M A))) (lN (ma_sum (mf_k0 (kx_M A) (mp_W (kx_M A)) (mp_Y (kx_M A))) r)) (nI r) := by
  intro m
  induction m with
  | zero =>
    intro r hr σ hv
    have ok := hv.1.2.2.1
    have bR := mt_rows_le ok
    obtain rfl : r = mt_rows (kx_M A) := by omega
    rw [kw_L_built_812]
    refine kb_le (mt_rows (kx_M A)) (mt_rows (kx_M A)) (fun _ => ?_) (fun q => absurd q (by omega))
    have s : ma_sum (mf_k0 (kx_M A) (mp_W (kx_M A)) (mp_Y (kx_M A))) (mt_rows (kx_M A)) = (tl (mt_lay (kx_M A) (mp_W (kx_M A)) (mp_Y (kx_M A)) (mp_N (kx_M A)))) := mf_k0_sum ok ok.2.2.1
    rw [s]
    exact lb_1012 hv h
  | succ m ih =>
    intro r hr σ hv
    have ok := hv.1.2.2.1
    have bR := mt_rows_le ok
    have hr2 : r < mt_rows (kx_M A) := by omega
    have b0 := mt_row_lt ok hr2 0
    rw [kw_L_built_812]
    refine kb_le (mt_rows (kx_M A)) r (fun q => absurd q (by omega)) (fun _ => ?_)
    refine kb_ne (by decide) ?_
    refine l0_row (k := 1) hv hr2 (by decide) (fun σ1 h1 => ?_)
    refine l0_row (k := 0) h1 hr2 (by decide) (fun σ2 h2 => ?_)
    refine kb_l (mt_row (kx_M A) r 0) 0 (fun q => ?_) (fun q => ?_)
    · refine lb_852 h2 hr2 ?_ (fun σ3 h3 => ih (r + 1) (by omega) σ3 h3)
      show lN _ + lN 1 = lN (ma_sum (mf_k0 (kx_M A) (mp_W (kx_M A)) (mp_Y (kx_M A))) r + mf_k0 (kx_M A) (mp_W (kx_M A)) (mp_Y (kx_M A)) r)
      rw [lN_add, show mf_k0 (kx_M A) (mp_W (kx_M A)) (mp_Y (kx_M A)) r = 1 from if_pos q]
    · refine lb_852 h2 hr2 ?_ (fun σ3 h3 => ih (r + 1) (by omega) σ3 h3)
      show lN _ + lN 0 = lN (ma_sum (mf_k0 (kx_M A) (mp_W (kx_M A)) (mp_Y (kx_M A))) r + mf_k0 (kx_M A) (mp_W (kx_M A)) (mp_Y (kx_M A)) r)
      rw [lN_add, show mf_k0 (kx_M A) (mp_W (kx_M A)) (mp_Y (kx_M A)) r = 0 from if_neg q]
theorem lb_796 {σ : ka_S} {A : ma_X} {t0 : Int64} {Q : Int32 → ka_S → Prop} (hv : kv σ A) (e : t0 = lN (tl (mt_lay (kx_M A) (mp_W (kx_M A)) (mp_Y (kx_M A)) (mp_N (kx_M A))))) (h : ∀ σ1, kv σ1 A → Q 1 σ1) : kw_L_built_796 Q σ (nI (mp_N (kx_M A))) (lN (mp_W (kx_M A))) (lN (mt_parts (kx_M A))) (lN (mt_gapsP (kx_M A))) (lN (ma_sum (mf_wide (kx_M A) (mp_W (kx_M A)) (mp_Y (kx_M A))) (mp_N (kx_M A)))) (lN (ma_sum (mf_fr (kx_M A) (mp_W (kx_M A))) (mp_N (kx_M A)))) 1 t0 := by
  unfold kw_L_built_796
  subst e
  refine l0_about (k := 5) hv (by decide) (fun σ1 h1 => ?_)
  intro x ex
  rw [lN_i] at ex
  subst ex
  exact ⟨_, lb_812 h (mt_rows (kx_M A)) 0 (Nat.zero_add _) σ1 h1⟩
theorem lb_778 {σ : ka_S} {A : ma_X} {Q : Int32 → ka_S → Prop} (hv : kv σ A) (h : ∀ σ1, kv σ1 A → Q 1 σ1) : kw_L_built_778 Q σ (nI (mp_N (kx_M A))) (lN (mp_W (kx_M A))) (lN (mt_parts (kx_M A))) (lN (mt_gapsP (kx_M A))) (lN (ma_sum (mf_wide (kx_M A) (mp_W (kx_M A)) (mp_Y (kx_M A))) (mp_N (kx_M A)))) (lN (ma_sum (mf_fr (kx_M A) (mp_W (kx_M A))) (mp_N (kx_M A)))) 1 := by
  have ok := hv.1.2.2.1
  have hN := ok.1
  unfold kw_L_built_778
  refine kb_i (mp_N (kx_M A)) 0 (fun q => ?_) (fun q => ?_)
  · exact lb_796 hv (by rw [q]; rfl) h
  · rw [show nI (mp_N (kx_M A)) - (1 : Int32) = nI (mp_N (kx_M A) - 1) from pk_sub (b := 1) (by omega)]
    refine l0_word (k := 2) hv (show mp_N (kx_M A) - 1 < _ by omega) (by decide) (fun σ1 h1 => ?_)
    refine lb_796 h1 ?_ h
    have t := ml_tl (W := (mp_W (kx_M A))) (y := (mp_Y (kx_M A))) ok ok.2.2.1 (show mp_N (kx_M A) - 1 < mp_N (kx_M A) by omega)
    rw [show mp_N (kx_M A) - 1 + 1 = mp_N (kx_M A) by omega] at t
    rw [t]
    exact lN_add _ 1
theorem lb_697 {A : ma_X} {e k0 : Nat} {v1 : Int32} {v2 v6 v8 v10 v12 : Int64} {K676 : ka_S → Int32 → Int64 → Int64 → Int64 → Int64 → Int64 → Int32 → Int32 → Prop} {Q : Int32 → ka_S → Prop} (he : e + 1 < mp_L (kx_M A))
    (g1 : k0 < (mp_A (kx_M A) (e + 1)).length) (g3 : ∀ j, j < k0 → mi_let (mp_A (kx_M A) e) j = mi_let (mp_A (kx_M A) (e + 1)) j) (g4 : k0 < (mp_A (kx_M A) e).length → (mp_A (kx_M A) e).getD k0 0 < (mp_A (kx_M A) (e + 1)).getD k0 0)
    (h : ∀ σ1, kv σ1 A → K676 σ1 v1 v2 v6 v8 v10 v12 1 (nI (e + 1 + 1))) : ∀ (m k : Nat), k + m = k0 → ∀ (σ : ka_S), kv σ A → kw_L_built_697 K676 Q (m + 1) σ v1 v2 v6 v8 v10 v12 (nI (e + 1)) (nI k) := by
  intro m
  induction m with
  | zero =>
    intro k hk σ hv
    have ok := hv.1.2.2.1
    obtain rfl : k = k0 := by omega
    have ga := (ok.2.2.2.2.2.2 e (by omega)).1.g
    have gb := (ok.2.2.2.2.2.2 (e + 1) he).1.g
    have l8 : (mp_A (kx_M A) (e + 1)).length ≤ 8 := gb.1
    have kb := kI_let gb g1
    have ks : (∃ c, (mi_let (mp_A (kx_M A) e) k).toInt64 = lN c ∧ c < (mp_A (kx_M A) (e + 1)).getD k 0 ∧ c < 128) ∨ (mi_let (mp_A (kx_M A) e) k).toInt64 = -9 := by
      rcases Nat.lt_or_ge k (mp_A (kx_M A) e).length with z | z
      · have ka := kI_let ga z
        exact Or.inl ⟨_, ka.1, g4 z, ka.2⟩
      · exact Or.inr (kI_let_n z)
    rw [kw_L_built_697]
    refine kb_le 8 k (fun q => absurd q (by omega)) (fun _ => ?_)
    refine l0_entry (b := 0) hv (by decide) he (by omega) (fun σ1 h1 => ?_)
    rw [pk_p1]
    refine l0_entry (b := 0) h1 (by decide) (show e < _ by omega) (by omega) (fun σ2 h2 => kb_ne ?_ ?_)
    · show ¬ (mi_let (mp_A (kx_M A) (e + 1)) k).toInt64 = (mi_let (mp_A (kx_M A) e) k).toInt64
      rw [kb.1]
      rcases ks with ⟨c, ec, hc, hc2⟩ | ec
      · rw [ec, pk_lEQ (by omega) (by omega)]
        omega
      · rw [ec]
        exact kI_9l (by omega)
    unfold kw_L_built_734
    refine kb_le 8 k (fun q => absurd q (by omega)) (fun _ => ?_)
    rw [pk_p1]
    refine l0_entry (b := 0) h2 (by decide) (show e < _ by omega) (by omega) (fun σ3 h3 => ?_)
    refine l0_entry (b := 0) h3 (by decide) he (by omega) (fun σ4 h4 => ⟨fun q => ?_, fun _ x ex => ?_⟩)
    · refine absurd q ?_
      show ¬ (mi_let (mp_A (kx_M A) (e + 1)) k).toInt64 ≤ (mi_let (mp_A (kx_M A) e) k).toInt64
      rw [kb.1]
      rcases ks with ⟨c, ec, hc, hc2⟩ | ec
      · rw [ec, pk_lLE (by omega) (by omega)]
        omega
      · rw [ec]
        exact kI_9le (by omega)
    · rw [nI_1] at ex
      subst ex
      exact h σ4 h4
  | succ m ih =>
    intro k hk σ hv
    have ok := hv.1.2.2.1
    have gb := (ok.2.2.2.2.2.2 (e + 1) he).1.g
    have l8 : (mp_A (kx_M A) (e + 1)).length ≤ 8 := gb.1
    rw [kw_L_built_697]
    refine kb_le 8 k (fun q => absurd q (by omega)) (fun _ => ?_)
    refine l0_entry (b := 0) hv (by decide) he (by omega) (fun σ1 h1 => ?_)
    rw [pk_p1]
    refine l0_entry (b := 0) h1 (by decide) (show e < _ by omega) (by omega) (fun σ2 h2 => kb_eq ?_ (fun x ex => ?_))
    · exact congrArg Int32.toInt64 (g3 k (by omega)).symm
    · rw [nI_1] at ex
      subst ex
      exact ih (k + 1) (by omega) σ2 h2
theorem lb_676 {A : ma_X} {Q : Int32 → ka_S → Prop} (so : mp_so (kx_M A)) (h : ∀ σ1, kv σ1 A → Q 1 σ1) : ∀ (m e : Nat), (e + m = mp_L (kx_M A) ∨ (mp_L (kx_M A) = 0 ∧ m = 0)) → 1 ≤ e → e ≤ 16 → ∀ (σ : ka_S), kv σ A → kw_L_built_676 Q (m + 1) σ (nI (mp_N (kx_M A))) (lN (mp_W (kx_M A))) (lN (mt_parts (kx_M A))) (lN (mt_gapsP (kx_M A))) (lN (ma_sum (mf_wide (kx_M A) (mp_W (kx_M A)) (mp_Y (kx_M A))) (mp_N (kx_M A)))) (lN (ma_sum (mf_fr (kx_M A) (mp_W (kx_M A))) (mp_N (kx_M A)))) 1 (nI e) := by
  intro m
  induction m with
  | zero =>
    intro e he h1e h2e σ hv
    have ok := hv.1.2.2.1
    have hL := ok.2.1
    rw [kw_L_built_676]
    refine l0_about (k := 7) hv (by decide) (fun σ1 h1 => ?_)
    exact kb_lLE (mp_L (kx_M A)) e (fun _ => lb_778 h1 h) (fun q => absurd q (by omega)) rfl (nI_l (by omega))
  | succ m ih =>
    intro e he h1e h2e σ hv
    have ok := hv.1.2.2.1
    have hL := ok.2.1
    obtain ⟨d, rfl⟩ : ∃ d, e = d + 1 := ⟨e - 1, by omega⟩
    have hd : d + 1 < mp_L (kx_M A) := by omega
    have ga := (ok.2.2.2.2.2.2 d (by omega)).1.g
    have gb := (ok.2.2.2.2.2.2 (d + 1) hd).1.g
    obtain ⟨k0, g1, _, g3, g4⟩ := ma_lt_first ((ma_C_cmp ga gb).mp (so d hd))
    rw [kw_L_built_676]
    refine l0_about (k := 7) hv (by decide) (fun σ1 h1 => ?_)
    refine kb_lLE (mp_L (kx_M A)) (d + 1) (fun q => absurd q (by omega)) (fun _ => ?_) rfl (nI_l (by omega))
    refine kb_ne (by decide) ?_
    exact ⟨_, lb_697 hd g1 g3 g4 (fun σ2 h2 => ih (d + 1 + 1) (by omega) (by omega) (by omega) σ2 h2) k0 0 (Nat.zero_add _) σ1 h1⟩
theorem l_built {σ : ka_S} {A : ma_X} {Q : Int32 → ka_S → Prop} (hv : kv σ A) (so : mp_so (kx_M A)) (h : ∀ σ1, kv σ1 A → Q 1 σ1) : kw_L_built σ Q := by
  have ok := hv.1.2.2.1
  have hL := ok.2.1
  unfold kw_L_built
  refine l_words hv (fun σ1 h1 => ?_)
  refine l0_about (k := 9) h1 (by decide) (fun σ2 h2 => ?_)
  refine l0_about (k := 10) h2 (by decide) (fun σ3 h3 => ?_)
  refine ⟨_, lb_38 (fun σ4 h4 => ⟨mp_L (kx_M A) - 1 + 1, ?_⟩) (mp_N (kx_M A)) 0 (Nat.zero_add _) σ3 h3⟩
  refine lb_676 so h (mp_L (kx_M A) - 1) 1 (by omega) (by decide) (by decide) σ4 h4
