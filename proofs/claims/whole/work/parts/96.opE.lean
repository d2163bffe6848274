/-! ===== rows ===== -/
theorem sc_isRow {σ : ka_S} {A : ma_X} {v : Int32} {Q : ka_S → Prop} {X : Nat → ka_S → Prop} (ok : ko A) (hc : kc σ A) (h1 : ∀ r σ1, r < mt_rows (kx_M A) → v = nI r → ag xS σ σ1 → rc_P σ1 0 (kx_M A) → rc_A σ1 (kx_M A) (mp_W (kx_M A)) (mp_Y (kx_M A)) → Q σ1) (h0 : (∀ r, r < mt_rows (kx_M A) → v ≠ nI r) → ∀ σ1, ag xS σ σ1 → X 2 σ1) : kw_X8_requireRow σ v Q X := by
  have hr := mt_rows_le ok.2.2.1
  unfold kw_X8_requireRow
  refine ⟨fun q => h0 (fun r hr e => ?_) σ ag_refl, fun q => sp_X8_arranged ok.2.2.1 hc.2.1 (fun σ1 a1 r1 => ?_)⟩
  · rw [e] at q
    exact absurd q (nI_pos (by omega))
  · obtain ⟨r, hr2, e⟩ := nI_of q
    have e4 : σ1.1 (12, 0, 0) 4 = nI (mt_rows (kx_M A)) := r1.1.1.2
    rw [e4, e, nI_ltI hr2 (by omega)]
    refine ⟨fun q2 => h1 r σ1 q2 e (ag_mono a1 xa_S) (rc_P_xa hc.2.1 a1) r1, fun q2 => h0 (fun r' hr' e' => ?_) σ1 (ag_mono a1 xa_S)⟩
    rw [e, nI_eq hr2 (by omega)] at e'
    omega
theorem rd_A_x0 {σ σ' : ka_S} {M : ma_P} {W y : Nat} (h : rd_A σ M W y) (a : ag x0 σ σ') : rd_A σ' M W y := by
  have n0 : ∀ κ m, κ ≠ 25 ∨ m ≠ 0 → ¬ x0 (κ, 0, 0) m := fun κ m hk q => by
    have q1 : κ = 25 := congrArg Prod.fst q.1
    have q2 : m = 0 := q.2
    omega
  refine ⟨rd_An_ag h.1 a (n0 25 11 (Or.inr (by decide))) (fun κ n h1 h2 => n0 κ n (Or.inl (by omega))), fun i hi => ?_, (a _ _ (n0 25 12 (Or.inr (by decide)))).1.trans h.2.2.1, (a _ _ (n0 25 13 (Or.inr (by decide)))).1.trans h.2.2.2⟩
  have g : ∀ r k o f, rd_row σ r k o f → rd_row σ' r k o f := fun r k o f z => ⟨(a _ _ (n0 32 r (Or.inl (by decide)))).1.trans z.1, (a _ _ (n0 33 r (Or.inl (by decide)))).1.trans z.2.1, (a _ _ (n0 34 r (Or.inl (by decide)))).1.trans z.2.2⟩
  obtain ⟨⟨j1, j2, j3⟩, j4⟩ := h.2.1 i hi
  exact ⟨⟨j1, g _ _ _ _ j2, g _ _ _ _ j3⟩, fun f hf => ⟨(j4 f hf).1, g _ _ _ _ (j4 f hf).2⟩⟩
theorem sm_isRow_ok {σ : ka_S} {A : ma_X} {r : Nat} {Q : Int32 → ka_S → Prop} (ok : ko A) (hm : km σ A) (hr : r < mt_rows (kx_M A)) (h : ∀ σ1, ag xN σ σ1 → km σ1 A → rd_A σ1 (kx_M A) (mp_W (kx_M A)) (mp_Y (kx_M A)) → Q 1 σ1) : kw_X9_isRow σ (nI r) Q := by
  have hl := mt_rows_le ok.2.2.1
  refine sp_X9_layNow ok.2.2.1 hm.2.1 (fun σ1 a1 r1 => ?_)
  rw [r1.2.2.1]
  exact sm_in_ok (n := mt_rows (kx_M A)) (by omega) (by rw [kI_l, show tr (mt_lay (kx_M A) (mp_W (kx_M A)) (mp_Y (kx_M A)) (mp_N (kx_M A))) = mt_rows (kx_M A) from rfl, kI_tm1 (by omega)]) hr ⟨Or.inr rfl, h σ1 (ag_mono a1 xy_N) (km_U ok hm (ag_mono a1 xy_U)) r1⟩
theorem sm_isRow_no {σ : ka_S} {A : ma_X} {v : Int32} {Q : Int32 → ka_S → Prop} (ok : ko A) (hm : km σ A) (hv : ∀ r, r < mt_rows (kx_M A) → v ≠ nI r) (h : ∀ σ1, ag xN σ σ1 → km σ1 A → Q 0 σ1) : kw_X9_isRow σ v Q := by
  have hl := mt_rows_le ok.2.2.1
  refine sp_X9_layNow ok.2.2.1 hm.2.1 (fun σ1 a1 r1 => ?_)
  rw [r1.2.2.1]
  exact sm_in_no (n := mt_rows (kx_M A)) (by rw [kI_l, show tr (mt_lay (kx_M A) (mp_W (kx_M A)) (mp_Y (kx_M A)) (mp_N (kx_M A))) = mt_rows (kx_M A) from rfl, kI_tm1 (by omega)]) hv ⟨Or.inl rfl, h σ1 (ag_mono a1 xy_N) (km_U ok hm (ag_mono a1 xy_U))⟩
def mt_row (M : ma_P) (r : Nat) : Nat → Nat
  | 0 => mr_kind M (mp_W M) (mp_Y M) r
  | 1 => mr_len M (mp_W M) (mp_Y M) r
  | _ => ml_sent M (mp_W M) (mp_Y M) (mr_word M (mp_W M) (mp_Y M) r)
theorem sm_row_off1 {σ : ka_S} {A : ma_X} {v u : Int32} {Q : Int32 → ka_S → Prop} (ok : ko A) (hm : km σ A) (hv : ∀ r, r < mt_rows (kx_M A) → v ≠ nI r) (h : ∀ σ1, ag xM σ σ1 → σ1.1 (25, 0, 0) 0 = 1 → km σ1 A → Q 0 σ1) : kw_X9_row σ v u Q :=
  sm_isRow_no ok hm hv (fun σ1 a1 m1 => ⟨fun _ => sm_off (by decide) ok m1 (fun σ2 a2 e2 m2 => h σ2 (ag_trans (ag_mono a1 xN_M) a2) e2 m2), fun q => absurd rfl q⟩)
theorem sm_row_off2 {σ : ka_S} {A : ma_X} {r : Nat} {u : Int32} {Q : Int32 → ka_S → Prop} (ok : ko A) (hm : km σ A) (hr : r < mt_rows (kx_M A)) (hu : ∀ k, k < 3 → u ≠ nI k) (h : ∀ σ1, ag xM σ σ1 → σ1.1 (25, 0, 0) 0 = 2 → km σ1 A → Q 0 σ1) : kw_X9_row σ (nI r) u Q :=
  sm_isRow_ok ok hm hr (fun σ1 a1 m1 _ => ⟨fun q => absurd q (by decide), fun _ => sm_in_no (n := 3) rfl hu ⟨fun _ => sm_off (by decide) ok m1 (fun σ2 a2 e2 m2 => h σ2 (ag_trans (ag_mono a1 xN_M) a2) e2 m2), fun q => absurd rfl q⟩⟩)
theorem sm_row_on {σ : ka_S} {A : ma_X} {r k : Nat} {Q : Int32 → ka_S → Prop} (ok : ko A) (hm : km σ A) (hr : r < mt_rows (kx_M A)) (hk : k < 3) (h : ∀ σ1, ag xM σ σ1 → σ1.1 (25, 0, 0) 0 = 0 → km σ1 A → Q (nI (mt_row (kx_M A) r k)) σ1) : kw_X9_row σ (nI r) (nI k) Q := by
  have hl := mt_rows_le ok.2.2.1
  refine sm_isRow_ok ok hm hr (fun σ1 a1 m1 r1 => ⟨fun q => absurd q (by decide), fun _ => sm_in_ok (n := 3) (by decide) rfl hk ⟨fun q => absurd q (by decide), fun _ => sm_on0 (fun σ2 a2 e2 => ?_)⟩⟩)
  have m2 := km_U ok m1 (ag_mono a2 x0_U)
  have r2 := rd_A_x0 r1 a2
  have z := h σ2 (ag_trans (ag_mono a1 xN_M) (ag_mono a2 x0_M)) e2 m2
  match k, hk, z with
  | 0, _, z =>
    refine ⟨fun _ => ⟨(kI_in (by omega)).mpr (by omega), ?_⟩, fun q => absurd rfl q⟩
    rw [nI_clamp (by omega), (rd_rowAt ok.2.2.1 ok.2.2.1.2.2.1 r2 hr).1]
    exact z
  | 1, _, z => exact ⟨fun q => absurd q (by decide), fun _ => ⟨fun _ => sp_X9_lengthOfRow ok.2.2.1 m2.2.1 r2 hr z, fun q => absurd rfl q⟩⟩
  | 2, _, z => exact ⟨fun q => absurd q (by decide), fun _ => ⟨fun q => absurd q (by decide), fun _ => sp_X9_sentenceOfRow ok.2.2.1 r2 hr z⟩⟩
  | k + 3, hk, _ => exact absurd hk (by omega)
theorem kl_9 {σ : ka_S} {xs : Nat → Int32} {i : Nat} {o : Int64} (hK : kK σ) : kl_c9 σ xs i o (fun σ1 _ => kK σ1) := by
  obtain ⟨A, ok, hc, hm⟩ := hK
  unfold kl_c9 kw_L_row
  generalize xs (i + 1) = v
  generalize xs (i + 2) = u
  refine sc_isRow ok hc (fun r σ1 hr e a1 p1 r1 => ?_) (fun hv σ1 a1 => sm_row_off1 ok (km_C ok hm (ag_mono a1 xS_C)) hv (fun σ2 a2 e2 m2 => kf1 (by decide) e2 ⟨A, ok, kc_M (kc_S hc a1) a2, m2⟩))
  subst e
  have W := ok.2.2.1.2.2.1
  have fin : ∀ k, k < 3 → kw_X9_row σ1 (nI r) (nI k) (fun r5 σ4 => kw_X9_thrown σ4 (fun r7 σ6 => (r7 = (0 : Int32) → ((0 : Int32) = (0 : Int32) → ((nI (mt_row (kx_M A) r k)).toInt64 = (r5).toInt64 → kK σ6) ∧ (¬ (nI (mt_row (kx_M A) r k)).toInt64 = (r5).toInt64 → False)) ∧ (¬ (0 : Int32) = (0 : Int32) → kK σ6)) ∧ (¬ r7 = (0 : Int32) → False))) :=
    fun k hk => sm_row_on ok (km_C ok hm (ag_mono a1 xS_C)) hr hk (fun σ2 a2 e2 m2 => kf0 e2 ⟨A, ok, kc_M (kc_S hc a1) a2, m2⟩)
  exact ⟨fun e0 => by subst e0; exact sp_X1_kindOfRow ok.2.2.1 W p1 r1 hr (fin 0 (by decide)), fun n0 => ⟨fun e1 => by subst e1; exact sp_X1_lengthOfRow ok.2.2.1 p1 r1 hr (fin 1 (by decide)), fun n1 => ⟨fun e2 => by subst e2; exact sp_X1_sentenceOfRow ok.2.2.1 W p1 r1 hr (fin 2 (by decide)),
    fun n2 => sm_row_off2 ok (km_C ok hm (ag_mono a1 xS_C)) hr (fun j hj => match j, hj with | 0, _ => n0 | 1, _ => n1 | 2, _ => n2 | j + 3, h => absurd h (by omega)) (fun σ2 a2 e2 m2 => kf1 (by decide) e2 ⟨A, ok, kc_M (kc_S hc a1) a2, m2⟩)⟩⟩⟩
theorem sm_at_off1 {σ : ka_S} {A : ma_X} {v u : Int32} {Q : Int32 → ka_S → Prop} (ok : ko A) (hm : km σ A) (hv : ∀ r, r < mt_rows (kx_M A) → v ≠ nI r) (h : ∀ σ1, ag xM σ σ1 → σ1.1 (25, 0, 0) 0 = 1 → km σ1 A → Q 0 σ1) : kw_X9_at σ v u Q :=
  sm_isRow_no ok hm hv (fun σ1 a1 m1 => ⟨fun _ => sm_off (by decide) ok m1 (fun σ2 a2 e2 m2 => h σ2 (ag_trans (ag_mono a1 xN_M) a2) e2 m2), fun q => absurd rfl q⟩)
theorem sm_at_off2 {σ : ka_S} {A : ma_X} {r : Nat} {u : Int32} {Q : Int32 → ka_S → Prop} (ok : ko A) (hm : km σ A) (hr : r < mt_rows (kx_M A)) (hu : ¬ 0 ≤ u) (h : ∀ σ1, ag xM σ σ1 → σ1.1 (25, 0, 0) 0 = 2 → km σ1 A → Q 0 σ1) : kw_X9_at σ (nI r) u Q :=
  sm_isRow_ok ok hm hr (fun σ1 a1 m1 _ => ⟨fun q => absurd q (by decide), fun _ => ⟨fun q => absurd q hu, fun _ => sm_off (by decide) ok m1 (fun σ2 a2 e2 m2 => h σ2 (ag_trans (ag_mono a1 xN_M) a2) e2 m2)⟩⟩)
theorem sm_at_on {σ : ka_S} {A : ma_X} {r c : Nat} {Q : Int32 → ka_S → Prop} (ok : ko A) (hm : km σ A) (hr : r < mt_rows (kx_M A)) (hc : c < 2 ^ 31) (h : ∀ σ1, ag xM σ σ1 → σ1.1 (25, 0, 0) 0 = 0 → km σ1 A → Q (mr_code (kx_M A) (mp_W (kx_M A)) (mp_Y (kx_M A)) r c) σ1) : kw_X9_at σ (nI r) (nI c) Q := by
  have hl := mt_rows_le ok.2.2.1
  have okM := ok.2.2.1
  have W := okM.2.2.1
  refine sm_isRow_ok ok hm hr (fun σ1 a1 m1 r1 => ⟨fun q => absurd q (by decide), fun _ => ⟨fun _ => sm_on0 (fun σ2 a2 e2 => ?_), fun q => absurd (nI_pos' hc) q⟩⟩)
  have m2 := km_U ok m1 (ag_mono a2 x0_U)
  have r2 := rd_A_x0 r1 a2
  have z := h σ2 (ag_trans (ag_mono a1 xN_M) (ag_mono a2 x0_M)) e2 m2
  obtain ⟨f1, f2, f3, f4⟩ := mr_facts (y := mp_Y (kx_M A)) okM W hr
  have rw0 := rd_rowAt okM W r2 hr
  have v72 : vp_in (nI r) 72 := (kI_in (by omega)).mpr (by omega)
  have ek : mr_kind (kx_M A) (mp_W (kx_M A)) (mp_Y (kx_M A)) r ≤ 2 := Nat.min_le_left _ _
  have hF := (okM.2.2.2.2.2.1 _ f1).2.2.1
  refine sp_X9_lengthOfRow okM m2.2.1 r2 hr ?_
  have hlen : mr_len (kx_M A) (mp_W (kx_M A)) (mp_Y (kx_M A)) r < 2 ^ 31 := by
    unfold mr_len
    by_cases q : mr_kind (kx_M A) (mp_W (kx_M A)) (mp_Y (kx_M A)) r = 2
    · rw [if_pos q]
      have := Nat.min_le_right (mw_F (mp_D (kx_M A) (mr_word (kx_M A) (mp_W (kx_M A)) (mp_Y (kx_M A)) r)) - mr_from (kx_M A) (mp_W (kx_M A)) (mp_Y (kx_M A)) r) (mp_W (kx_M A))
      omega
    · rw [if_neg q]
      have b1 := (ml_col_le (y := mp_Y (kx_M A)) okM W f1).1
      have b2 := (mt_width_le (okM.2.2.2.2.2.1 _ f1) (mp_Y (kx_M A))).2
      omega
  unfold mr_code at z
  rw [nI_ltI hc hlen]
  refine ⟨fun q => ⟨v72, ?_⟩, fun q => by rw [if_neg q] at z; exact z⟩
  rw [if_pos q] at z
  have rf := rw0.2.2
  rw [nI_clamp (by omega), rw0.1, rw0.2.1, rf, show nI (mr_kind (kx_M A) (mp_W (kx_M A)) (mp_Y (kx_M A)) r) = (2 : Int32) ↔ mr_kind (kx_M A) (mp_W (kx_M A)) (mp_Y (kx_M A)) r = 2 from nI_eq (b := 2) (by omega) (by decide)]
  refine ⟨fun k2 => ⟨v72, v72, ?_⟩, fun k2 => ⟨13, ?_⟩⟩
  · rw [if_pos k2] at z
    rw [if_pos k2, if_pos k2, nI_add]
    have e3 : mr_len (kx_M A) (mp_W (kx_M A)) (mp_Y (kx_M A)) r = min (mw_F (mp_D (kx_M A) (mr_word (kx_M A) (mp_W (kx_M A)) (mp_Y (kx_M A)) r)) - mr_from (kx_M A) (mp_W (kx_M A)) (mp_Y (kx_M A)) r) (mp_W (kx_M A)) := if_pos k2
    have e4 := Nat.min_le_left (mw_F (mp_D (kx_M A) (mr_word (kx_M A) (mp_W (kx_M A)) (mp_Y (kx_M A)) r)) - mr_from (kx_M A) (mp_W (kx_M A)) (mp_Y (kx_M A)) r) (mp_W (kx_M A))
    exact sp_X9_freeChar rfl okM m2.2.1 f1 (by omega) z
  · rw [if_neg k2] at z
    have e5 := mr_at_all (M := kx_M A) (W := mp_W (kx_M A)) (y := mp_Y (kx_M A)) (kind := mr_kind (kx_M A) (mp_W (kx_M A)) (mp_Y (kx_M A)) r) (c := c) f1 (mr_last okM W hr) (mp_N (kx_M A) - (mr_word (kx_M A) (mp_W (kx_M A)) (mp_Y (kx_M A)) r + 1)) (by omega)
    rw [show mr_word (kx_M A) (mp_W (kx_M A)) (mp_Y (kx_M A)) r + 1 + (mp_N (kx_M A) - (mr_word (kx_M A) (mp_W (kx_M A)) (mp_Y (kx_M A)) r + 1)) = mp_N (kx_M A) by omega] at e5
    rw [← mr_at_scan okM W okM.2.2.2.2.1 f1 (by omega) _ (Nat.le_refl _), ← e5] at z
    exact sp_X9_at_80 okM m2.2.1 r2 hr k2 hc z 13 0 (Nat.zero_le _) (by have := okM.1; omega)
theorem kl_10 {σ : ka_S} {xs : Nat → Int32} {i : Nat} {o : Int64} (hK : kK σ) : kl_c10 σ xs i o (fun σ1 _ => kK σ1) := by
  obtain ⟨A, ok, hc, hm⟩ := hK
  unfold kl_c10 kw_L_at
  generalize xs (i + 1) = v
  generalize xs (i + 2) = u
  refine sc_isRow ok hc (fun r σ1 hr e a1 p1 r1 => ⟨fun q => ?_, fun q => ?_⟩) (fun hv σ1 a1 => sm_at_off1 ok (km_C ok hm (ag_mono a1 xS_C)) hv (fun σ2 a2 e2 m2 => kf1 (by decide) e2 ⟨A, ok, kc_M (kc_S hc a1) a2, m2⟩))
  · obtain ⟨c, hc2, e2⟩ := kI_nn q
    subst e e2
    exact sp_X1_codeInRow ok.2.2.1 p1 r1 hr hc2 (sm_at_on ok (km_C ok hm (ag_mono a1 xS_C)) hr hc2 (fun σ2 a2 e2 m2 => kf0 e2 ⟨A, ok, kc_M (kc_S hc a1) a2, m2⟩))
  · subst e
    exact sm_at_off2 ok (km_C ok hm (ag_mono a1 xS_C)) hr q (fun σ2 a2 e2 m2 => kf1 (by decide) e2 ⟨A, ok, kc_M (kc_S hc a1) a2, m2⟩)
