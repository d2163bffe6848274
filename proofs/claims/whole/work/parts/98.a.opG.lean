/-! ===== actions ===== -/
def kx_act (A : ma_X) (M : ma_P) : ma_X := kx_setM (kx_note A) M
theorem ko_act {A : ma_X} {M : ma_P} (ok : ko A) (h : mp_ok M) : ko (kx_act A M) := ko_setM (ko_note ok) h
/-- the reference's side of an action -/
theorem sm_act {σ : ka_S} {A : ma_X} {Q : ka_S → Prop} (ok : ko A) (hm : km σ A) (h : ∀ σ1, ag xN σ σ1 → km σ1 (kx_note A) → Q σ1) : kw_X9_note σ Q := sm_note ok hm h
/-! remove -/
theorem sm_remove_off {σ : ka_S} {A : ma_X} {v : Int32} {Q : Int32 → ka_S → Prop} (ok : ko A) (hm : km σ A) (hv : ∀ j, j < mp_N (kx_M A) → v ≠ nI j) (h : ∀ σ1, ag xM σ σ1 → σ1.1 (25, 0, 0) 0 = 1 → km σ1 A → Q 0 σ1) : kw_X9_remove σ v Q :=
  sm_word_no ok hm hv ⟨fun _ => sm_off (by decide) ok hm h, fun q => absurd rfl q⟩
theorem sm_remove_on {σ : ka_S} {A : ma_X} {j : Nat} {Q : Int32 → ka_S → Prop} (ok : ko A) (hm : km σ A) (hj : j < mp_N (kx_M A)) (h : ∀ σ1, ag xM σ σ1 → σ1.1 (25, 0, 0) 0 = 0 → km σ1 (kx_act A (mp_remove (kx_M A) j)) → Q (nI (mp_N (kx_M A) - 1)) σ1) : kw_X9_remove σ (nI j) Q :=
  sm_word_ok ok hm hj ⟨fun q => absurd q (by decide), fun _ => sm_on ok hm (fun σ1 a1 e1 m1 => sm_note ok m1 (fun σ2 a2 m2 => sp_X9_removeOn rfl ok.2.2.1 m2.2.1 hj (fun σ3 a3 r3 => sp_X9_many rfl r3 (h σ3 (sm_MN a1 (ag_trans a2 (ag_mono a3 xr_N))) (sm_0 e1 (ag_trans a2 (ag_mono a3 xr_N))) (km_page (ko_note ok) m2 a3 r3)))))⟩
theorem kl_12 {σ : ka_S} {xs : Nat → Int32} {i : Nat} {o : Int64} (hK : kK σ) : kl_c12 σ xs i o (fun σ1 _ => kK σ1) := by
  obtain ⟨A, ok, hc, hm⟩ := hK
  unfold kl_c12 kw_L_remove
  generalize xs (i + 1) = v
  refine sc_word ok hc (fun j hj e => sc_remember ok hc (fun σ1 a1 c1 => ?_)) (fun hv => sm_remove_off ok hm hv (fun σ2 a2 e2 m2 => kf1 (by decide) e2 ⟨A, ok, kc_M hc a2, m2⟩))
  subst e
  refine sp_X4_dropWord c1.2.1 ok.2.2.1 hj (fun σ2 a2 r2 => ?_)
  rw [r2.1.1]
  exact sm_remove_on ok (km_C ok hm (ag_trans a1 (ag_mono a2 xp_C))) hj (fun σ3 a3 e3 m3 => kf0 e3 ⟨_, ko_act ok (mp_remove_ok ok.2.2.1 hj), kc_M (kc_page c1 a2 r2) a3, m3⟩)
/-! end -/
theorem sm_end_off {σ : ka_S} {A : ma_X} {v : Int32} {Q : Int32 → ka_S → Prop} (ok : ko A) (hm : km σ A) (hv : ∀ j, j < mp_N (kx_M A) → v ≠ nI j) (h : ∀ σ1, ag xM σ σ1 → σ1.1 (25, 0, 0) 0 = 1 → km σ1 A → Q 0 σ1) : kw_X9_end σ v Q :=
  sm_word_no ok hm hv ⟨fun _ => sm_off (by decide) ok hm h, fun q => absurd rfl q⟩
theorem sm_end_on {σ : ka_S} {A : ma_X} {j : Nat} {Q : Int32 → ka_S → Prop} (ok : ko A) (hm : km σ A) (hj : j < mp_N (kx_M A)) (h : ∀ σ1, ag xM σ σ1 → σ1.1 (25, 0, 0) 0 = 0 → km σ1 (kx_act A (mp_setD (kx_M A) j (mw_end (mp_D (kx_M A) j)))) → Q (nI (mt_sent (mp_setD (kx_M A) j (mw_end (mp_D (kx_M A) j))))) σ1) : kw_X9_end σ (nI j) Q := by
  have hN := ok.2.2.1.1
  have ok' := mp_setD_ok (i := j) ok.2.2.1 (mw_end_ok (ok.2.2.1.2.2.2.2.2.1 j hj))
  refine sm_word_ok ok hm hj ⟨fun q => absurd q (by decide), fun _ => sm_on ok hm (fun σ1 a1 e1 m1 => sm_note ok m1 (fun σ2 a2 m2 => sp_X9_cell (j := 1) ⟨(kI_in (by omega)).mpr (by omega), ?_⟩))⟩
  rw [nI_clamp (by omega), forall_eq]
  have r3 := rd_P_end (i := j) ok.2.2.1 m2.2.1 hj
  have a3 : ag (xr (37, 0, 0)) σ2 (ka_wL σ2 (37, 0, 0) (5 + 18 * j + 1) 1) := ag_L ag_refl rfl
  have m3 := km_page (ko_note ok) m2 a3 r3
  exact sp_X9_sentencesOf rfl (by decide) ok' r3 (fun σ4 a4 r4 => h σ4 (sm_MN a1 (ag_trans a2 (ag_trans (ag_mono a3 xr_N) (ag_mono a4 xy_N)))) (sm_0 e1 (ag_trans a2 (ag_trans (ag_mono a3 xr_N) (ag_mono a4 xy_N)))) (km_U (ko_act ok ok') m3 (ag_mono a4 xy_U)))
theorem kl_13 {σ : ka_S} {xs : Nat → Int32} {i : Nat} {o : Int64} (hK : kK σ) : kl_c13 σ xs i o (fun σ1 _ => kK σ1) := by
  obtain ⟨A, ok, hc, hm⟩ := hK
  have hN := ok.2.2.1.1
  unfold kl_c13 kw_L_end
  generalize xs (i + 1) = v
  refine sc_word ok hc (fun j hj e => sc_remember ok hc (fun σ1 a1 c1 => ?_)) (fun hv => sm_end_off ok hm hv (fun σ2 a2 e2 m2 => kf1 (by decide) e2 ⟨A, ok, kc_M hc a2, m2⟩))
  subst e
  rw [nI_clamp (by omega), forall_eq]
  have ok' := mp_setD_ok (i := j) ok.2.2.1 (mw_end_ok (ok.2.2.1.2.2.2.2.2.1 j hj))
  have a2 : ag (xw 0 j) σ1 (ka_wI σ1 (5, 0, j) 6 1) := ag_I ag_refl (xw_k (by decide) (by decide))
  have r2 := rc_P_setD c1.2.1 a2 (rc_W_end (c1.2.1.2.2 j hj))
  refine ⟨(kI_in (by omega)).mpr (by omega), sp_X4_countSentences r2 ok' ?_⟩
  exact sm_end_on ok (km_C ok hm (ag_trans a1 (ag_mono (ag_mono a2 xw_p) xp_C))) hj (fun σ3 a3 e3 m3 => kf0 e3 ⟨_, ko_act ok ok', kc_M (kc_page c1 (ag_mono a2 xw_p) r2) a3, m3⟩)
/-! join -/
theorem sm_join_off {σ : ka_S} {A : ma_X} {v : Int32} {Q : Int32 → ka_S → Prop} (ok : ko A) (hm : km σ A) (hv : ∀ j, j < mp_N (kx_M A) → v ≠ nI j) (h : ∀ σ1, ag xM σ σ1 → σ1.1 (25, 0, 0) 0 = 1 → km σ1 A → Q 0 σ1) : kw_X9_join σ v Q :=
  sm_word_no ok hm hv ⟨fun _ => sm_off (by decide) ok hm h, fun q => absurd rfl q⟩
theorem sm_join_on {σ : ka_S} {A : ma_X} {j : Nat} {Q : Int32 → ka_S → Prop} (ok : ko A) (hm : km σ A) (hj : j < mp_N (kx_M A)) (h : ∀ σ1, ag xM σ σ1 → σ1.1 (25, 0, 0) 0 = 0 → km σ1 (kx_act A (mp_setD (kx_M A) j (mw_join (mp_D (kx_M A) j)))) → Q (nI (mt_sent (mp_setD (kx_M A) j (mw_join (mp_D (kx_M A) j))))) σ1) : kw_X9_join σ (nI j) Q := by
  have ok' := mp_setD_ok (i := j) ok.2.2.1 (mw_join_ok (ok.2.2.1.2.2.2.2.2.1 j hj))
  refine sm_word_ok ok hm hj ⟨fun q => absurd q (by decide), fun _ => sm_on ok hm (fun σ1 a1 e1 m1 => sm_note ok m1 (fun σ2 a2 m2 => sp_X9_joinOn rfl ok.2.2.1 m2.2.1 hj (fun σ3 a3 r3 => ?_)))⟩
  have m3 := km_page (ko_note ok) m2 a3 r3
  exact sp_X9_sentencesOf rfl (by decide) ok' r3 (fun σ4 a4 r4 => h σ4 (sm_MN a1 (ag_trans a2 (ag_trans (ag_mono a3 xr_N) (ag_mono a4 xy_N)))) (sm_0 e1 (ag_trans a2 (ag_trans (ag_mono a3 xr_N) (ag_mono a4 xy_N)))) (km_U (ko_act ok ok') m3 (ag_mono a4 xy_U)))
theorem kl_14 {σ : ka_S} {xs : Nat → Int32} {i : Nat} {o : Int64} (hK : kK σ) : kl_c14 σ xs i o (fun σ1 _ => kK σ1) := by
  obtain ⟨A, ok, hc, hm⟩ := hK
  have hN := ok.2.2.1.1
  unfold kl_c14 kw_L_join
  generalize xs (i + 1) = v
  refine sc_word ok hc (fun j hj e => sc_remember ok hc (fun σ1 a1 c1 => ?_)) (fun hv => sm_join_off ok hm hv (fun σ2 a2 e2 m2 => kf1 (by decide) e2 ⟨A, ok, kc_M hc a2, m2⟩))
  subst e
  rw [nI_clamp (by omega)]
  have ok' := mp_setD_ok (i := j) ok.2.2.1 (mw_join_ok (ok.2.2.1.2.2.2.2.2.1 j hj))
  refine ⟨(kI_in (by omega)).mpr (by omega), sp_X7_dropEnd (c1.2.1.2.2 j hj) (fun σ2 a2 r2 => ?_)⟩
  have r3 := rc_P_setD c1.2.1 a2 r2
  exact sp_X4_countSentences r3 ok' (sm_join_on ok (km_C ok hm (ag_trans a1 (ag_mono (ag_mono a2 xw_p) xp_C))) hj (fun σ3 a3 e3 m3 => kf0 e3 ⟨_, ko_act ok ok', kc_M (kc_page c1 (ag_mono a2 xw_p) r3) a3, m3⟩))
/-! setFree -/
theorem kc_T {σ : ka_S} {A : ma_X} (hc : kc σ A) : rc_T σ (kx_n A) (kx_t A) := hc.1
theorem sm_free_off1 {σ : ka_S} {A : ma_X} {v : Int32} {Q : Int32 → ka_S → Prop} (ok : ko A) (hm : km σ A) (hv : ∀ j, j < mp_N (kx_M A) → v ≠ nI j) (h : ∀ σ1, ag xM σ σ1 → σ1.1 (25, 0, 0) 0 = 1 → km σ1 A → Q 0 σ1) : kw_X9_setFree σ v Q :=
  sm_word_no ok hm hv ⟨fun _ => sm_off (by decide) ok hm h, fun q => absurd rfl q⟩
theorem sm_free_off2 {σ : ka_S} {A : ma_X} {j : Nat} {Q : Int32 → ka_S → Prop} (ok : ko A) (hm : km σ A) (hj : j < mp_N (kx_M A)) (hf : ¬ mc_free (kx_n A) (kx_t A)) (h : ∀ σ1, ag xM σ σ1 → σ1.1 (25, 0, 0) 0 = 2 → km σ1 A → Q 0 σ1) : kw_X9_setFree σ (nI j) Q :=
  sm_word_ok ok hm hj ⟨fun q => absurd q (by decide), fun _ => sp_X9_isFree hm.1 ok.1 ok.2.1 (fun z => absurd z hf) (fun _ => ⟨fun _ => sm_off (by decide) ok hm h, fun q => absurd rfl q⟩)⟩
theorem sm_free_on {σ : ka_S} {A : ma_X} {j : Nat} {Q : Int32 → ka_S → Prop} (ok : ko A) (hm : km σ A) (hj : j < mp_N (kx_M A)) (hf : mc_free (kx_n A) (kx_t A)) (h : ∀ σ1, ag xM σ σ1 → σ1.1 (25, 0, 0) 0 = 0 → km σ1 (kx_act A (mp_setD (kx_M A) j (mw_free (mp_D (kx_M A) j) (kx_n A) (kx_t A)))) → Q (nI (kx_n A)) σ1) : kw_X9_setFree σ (nI j) Q :=
  sm_word_ok ok hm hj ⟨fun q => absurd q (by decide), fun _ => sp_X9_isFree hm.1 ok.1 ok.2.1 (fun _ => ⟨fun q => absurd q (by decide), fun _ => sm_on ok hm (fun σ1 a1 e1 m1 => sm_note ok m1 (fun σ2 a2 m2 => ⟨5, sp_X9_setFree_39 (σ0 := σ2) ok.2.2.1 m2.2.1 hj m2.1 hf (fun σ3 a3 r3 => h σ3 (sm_MN a1 (ag_trans a2 (ag_mono a3 xr_N))) (sm_0 e1 (ag_trans a2 (ag_mono a3 xr_N))) (km_page (ko_note ok) m2 a3 r3)) 5 2 σ2 (Nat.le_refl _) (by decide) (by decide) ag_refl (fun j h1 h2 => by omega)⟩))⟩) (fun z => absurd hf z)⟩
theorem kl_15 {σ : ka_S} {xs : Nat → Int32} {i : Nat} {o : Int64} (hK : kK σ) : kl_c15 σ xs i o (fun σ1 _ => kK σ1) := by
  obtain ⟨A, ok, hc, hm⟩ := hK
  have hN := ok.2.2.1.1
  unfold kl_c15 kw_L_setFree
  generalize xs (i + 1) = v
  refine sc_word ok hc (fun j hj e => ?_) (fun hv => sm_free_off1 ok hm hv (fun σ2 a2 e2 m2 => kf1 (by decide) e2 ⟨A, ok, kc_M hc a2, m2⟩))
  subst e
  refine sp_X6_isFreeLine hc.1 ok.1 ok.2.1 (fun hf => ⟨fun q => absurd q (by decide), fun _ => sc_remember ok hc (fun σ1 a1 c1 => ?_)⟩) (fun hf => ⟨fun _ => sm_free_off2 ok hm hj hf (fun σ2 a2 e2 m2 => kf1 (by decide) e2 ⟨A, ok, kc_M hc a2, m2⟩), fun q => absurd rfl q⟩)
  rw [nI_clamp (by omega)]
  have v12 : vp_in (nI j) 12 := (kI_in (by omega)).mpr (by omega)
  have ok' := mp_setD_ok (i := j) ok.2.2.1 (mw_free_ok (ok.2.2.1.2.2.2.2.2.1 j hj) hf.1 hf.2)
  refine ⟨v12, sp_X7_takeFree (c1.2.1.2.2 j hj) c1.1 hf.1 (fun σ2 a2 r2 => ⟨v12, ?_⟩)⟩
  have r3 := rc_P_setD c1.2.1 a2 r2
  rw [show σ2.1 (5, 0, j) 5 = nI (kx_n A) from r2.1.2.1]
  exact sm_free_on ok (km_C ok hm (ag_trans a1 (ag_mono (ag_mono a2 xw_p) xp_C))) hj hf (fun σ3 a3 e3 m3 => kf0 e3 ⟨_, ko_act ok ok', kc_M (kc_page c1 (ag_mono a2 xw_p) r3) a3, m3⟩)
/-! setGloss -/
theorem sm_gloss_off1 {σ : ka_S} {A : ma_X} {v u : Int32} {Q : Int32 → ka_S → Prop} (ok : ko A) (hm : km σ A) (hv : ∀ j p, j < mp_N (kx_M A) → p < mw_S (mp_D (kx_M A) j) → ¬ (v = nI j ∧ u = nI p)) (h : ∀ σ1, ag xM σ σ1 → σ1.1 (25, 0, 0) 0 = 1 → km σ1 A → Q 0 σ1) : kw_X9_setGloss σ v u Q :=
  sm_part_no ok hm hv ⟨fun _ => sm_off (by decide) ok hm h, fun q => absurd rfl q⟩
theorem sm_gloss_off2 {σ : ka_S} {A : ma_X} {j p : Nat} {Q : Int32 → ka_S → Prop} (ok : ko A) (hm : km σ A) (hj : j < mp_N (kx_M A)) (hp : p < mw_S (mp_D (kx_M A) j)) (hf : ¬ mc_gloss (kx_n A) (kx_t A)) (h : ∀ σ1, ag xM σ σ1 → σ1.1 (25, 0, 0) 0 = 2 → km σ1 A → Q 0 σ1) : kw_X9_setGloss σ (nI j) (nI p) Q :=
  sm_part_ok ok hm hj hp ⟨fun q => absurd q (by decide), fun _ => sp_X9_isGloss hm.1 ok.1 ok.2.1 (fun z => absurd z hf) (fun _ => ⟨fun _ => sm_off (by decide) ok hm h, fun q => absurd rfl q⟩)⟩
theorem sm_gloss_on {σ : ka_S} {A : ma_X} {j p : Nat} {Q : Int32 → ka_S → Prop} (ok : ko A) (hm : km σ A) (hj : j < mp_N (kx_M A)) (hp : p < mw_S (mp_D (kx_M A) j)) (hf : mc_gloss (kx_n A) (kx_t A)) (h : ∀ σ1, ag xM σ σ1 → σ1.1 (25, 0, 0) 0 = 0 → km σ1 (kx_act A (mp_setG (kx_M A) j p (ma_tx (kx_t A) (kx_n A)))) → Q (nI (mt_gapsP (mp_setG (kx_M A) j p (ma_tx (kx_t A) (kx_n A))))) σ1) : kw_X9_setGloss σ (nI j) (nI p) Q :=
  sm_part_ok ok hm hj hp ⟨fun q => absurd q (by decide), fun _ => sp_X9_isGloss hm.1 ok.1 ok.2.1 (fun _ => ⟨fun q => absurd q (by decide), fun _ => sm_on ok hm (fun σ1 a1 e1 m1 => sm_note ok m1 (fun σ2 a2 m2 => ⟨9, sp_X9_setGloss_43 (σ := σ2) ok.2.2.1 m2.2.1 hj hp m2.1 hf (fun σ3 a3 r3 => h σ3 (sm_MN a1 (ag_trans a2 (ag_mono a3 xr_N))) (sm_0 e1 (ag_trans a2 (ag_mono a3 xr_N))) (km_page (ko_note ok) m2 a3 r3)) 9 0 (Nat.zero_le _) (by have h8 : kx_n A ≤ 8 := hf.1; have e : kx_n (kx_note A) = kx_n A := rfl; omega)⟩))⟩) (fun z => absurd hf z)⟩
theorem kl_16 {σ : ka_S} {xs : Nat → Int32} {i : Nat} {o : Int64} (hK : kK σ) : kl_c16 σ xs i o (fun σ1 _ => kK σ1) := by
  obtain ⟨A, ok, hc, hm⟩ := hK
  have hN := ok.2.2.1.1
  unfold kl_c16 kw_L_setGloss
  generalize xs (i + 1) = v
  generalize xs (i + 2) = u
  refine sc_part ok hc (fun j p hj hp e e2 => ?_) (fun hv => sm_gloss_off1 ok hm hv (fun σ2 a2 e2 m2 => kf1 (by decide) e2 ⟨A, ok, kc_M hc a2, m2⟩))
  subst e e2
  have hS := (ok.2.2.1.2.2.2.2.2.1 j hj).1
  refine sp_X6_isGloss hc.1 ok.1 ok.2.1 (fun hf => ⟨fun q => absurd q (by decide), fun _ => sc_remember ok hc (fun σ1 a1 c1 => ?_)⟩) (fun hf => ⟨fun _ => sm_gloss_off2 ok hm hj hp hf (fun σ2 a2 e2 m2 => kf1 (by decide) e2 ⟨A, ok, kc_M hc a2, m2⟩), fun q => absurd rfl q⟩)
  have g := ma_tx_g hf (Nat.le_refl (kx_n A))
  have ok' := mp_setG_ok (p := p) ok.2.2.1 hj g
  refine ⟨(kI_in (by omega)).mpr (by omega), sp_X6_letters c1.1 hf ⟨(kI_in (by omega)).mpr (by omega), ?_⟩⟩
  rw [nI_clamp (by omega), nI_clamp (by omega), forall_eq]
  have a2 : ag (xp 0) σ1 (ka_wL σ1 (7, 0, j) p (lN (ma_C (ma_tx (kx_t A) (kx_n A))))) := ag_L ag_refl (xp_k (by decide))
  have r2 := rc_P_setG (p := p) (g := ma_tx (kx_t A) (kx_n A)) c1.2.1 hj rfl
  exact sp_X4_countGaps r2 ok' (sm_gloss_on ok (km_C ok hm (ag_trans a1 (ag_mono a2 xp_C))) hj hp hf (fun σ3 a3 e3 m3 => kf0 e3 ⟨_, ko_act ok ok', kc_M (kc_page c1 a2 r2) a3, m3⟩))
/-! learn -/
theorem sm_learn_off1 {σ : ka_S} {A : ma_X} {v u : Int32} {Q : Int32 → ka_S → Prop} (ok : ko A) (hm : km σ A) (hv : ∀ j p, j < mp_N (kx_M A) → p < mw_S (mp_D (kx_M A) j) → ¬ (v = nI j ∧ u = nI p)) (h : ∀ σ1, ag xM σ σ1 → σ1.1 (25, 0, 0) 0 = 1 → km σ1 A → Q 0 σ1) : kw_X9_learn σ v u Q :=
  sm_part_no ok hm hv ⟨fun _ => sm_off (by decide) ok hm h, fun q => absurd rfl q⟩
theorem sm_learn_off2 {σ : ka_S} {A : ma_X} {j p : Nat} {Q : Int32 → ka_S → Prop} (ok : ko A) (hm : km σ A) (hj : j < mp_N (kx_M A)) (hp : p < mw_S (mp_D (kx_M A) j)) (hf : ¬ mc_learn (kx_M A) j p) (h : ∀ σ1, ag xM σ σ1 → σ1.1 (25, 0, 0) 0 = 2 → km σ1 A → Q 0 σ1) : kw_X9_learn σ (nI j) (nI p) Q :=
  sm_part_ok ok hm hj hp ⟨fun q => absurd q (by decide), fun _ => sp_X9_canLearn rfl ok.2.2.1 hm.2.1 hj hp (fun z => absurd z hf) (fun _ => ⟨fun _ => sm_off (by decide) ok hm h, fun q => absurd rfl q⟩)⟩
theorem sm_learn_on {σ : ka_S} {A : ma_X} {j p : Nat} {Q : Int32 → ka_S → Prop} (ok : ko A) (hm : km σ A) (hj : j < mp_N (kx_M A)) (hp : p < mw_S (mp_D (kx_M A) j)) (hf : mc_learn (kx_M A) j p) (h : ∀ σ1, ag xM σ σ1 → σ1.1 (25, 0, 0) 0 = 0 → km σ1 (kx_act A (mp_learn (kx_M A) (mw_P (mp_D (kx_M A) j) p) (mw_G (mp_D (kx_M A) j) p))) → Q (nI (mp_L (mp_learn (kx_M A) (mw_P (mp_D (kx_M A) j) p) (mw_G (mp_D (kx_M A) j) p)))) σ1) : kw_X9_learn σ (nI j) (nI p) Q := by
  refine sm_part_ok ok hm hj hp ⟨fun q => absurd q (by decide), fun _ => sp_X9_canLearn rfl ok.2.2.1 hm.2.1 hj hp (fun _ => ⟨fun q => absurd q (by decide), fun _ => sm_on ok hm (fun σ1 a1 e1 m1 => sm_note ok m1 (fun σ2 a2 m2 => sp_X9_learnOn rfl ok.2.2.1 m2.2.1 hj hp hf.2 (fun σ3 a3 r3 => ⟨(kI_in (k := 1) (by decide)).mpr (by decide), ?_⟩)))⟩) (fun z => absurd hf z)⟩
  rw [show (1 : Int32).toNatClampNeg = 1 from rfl, r3.1.2.1, lN_i]
  exact h σ3 (sm_MN a1 (ag_trans a2 (ag_mono a3 xr_N))) (sm_0 e1 (ag_trans a2 (ag_mono a3 xr_N))) (km_page (ko_note ok) m2 a3 r3)
theorem kl_18 {σ : ka_S} {xs : Nat → Int32} {i : Nat} {o : Int64} (hK : kK σ) : kl_c18 σ xs i o (fun σ1 _ => kK σ1) := by
  obtain ⟨A, ok, hc, hm⟩ := hK
  have hN := ok.2.2.1.1
  unfold kl_c18 kw_L_learn
  generalize xs (i + 1) = v
  generalize xs (i + 2) = u
  refine sc_part ok hc (fun j p hj hp e e2 => ?_) (fun hv => sm_learn_off1 ok hm hv (fun σ2 a2 e2 m2 => kf1 (by decide) e2 ⟨A, ok, kc_M hc a2, m2⟩))
  subst e e2
  have okw := ok.2.2.1.2.2.2.2.2.1 j hj
  have hS := okw.1
  have okp := okw.2.2.2.2.1 p hp
  refine sp_X4_canLearnV hc.2.1 ok.2.2.1 (fun j' p' hj' hp' ej ep hl => ⟨fun q => absurd q (by decide), fun _ => sc_remember ok hc (fun σ1 a1 c1 => ?_)⟩) (fun hn => ⟨fun _ => sm_learn_off2 ok hm hj hp (fun z => hn j p hj hp z ⟨rfl, rfl⟩) (fun σ2 a2 e2 m2 => kf1 (by decide) e2 ⟨A, ok, kc_M hc a2, m2⟩), fun q => absurd rfl q⟩)
  have hS' := (ok.2.2.1.2.2.2.2.2.1 j' hj').1
  rw [nI_eq (by omega) (by omega)] at ej ep
  subst ej ep
  refine sp_X4_learnPart c1.2.1 ok.2.2.1 hj hp hl (fun σ2 a2 r2 => ?_)
  rw [r2.2.1.1]
  exact sm_learn_on ok (km_C ok hm (ag_trans a1 (ag_mono a2 xp_C))) hj hp hl (fun σ3 a3 e3 m3 => kf0 e3 ⟨_, ko_act ok (mp_learn_ok ok.2.2.1 okp.1 okp.2.1 hl.1 hl.2), kc_M (kc_page c1 a2 r2) a3, m3⟩)
