/-! ===== settings, entries forgotten ===== -/
theorem sm_set_off {σ : ka_S} {A : ma_X} {v u : Int32} {Q : Int32 → ka_S → Prop} (ok : ko A) (hm : km σ A) (hv : ¬ mc_set v u) (h : ∀ σ1, ag xM σ σ1 → σ1.1 (25, 0, 0) 0 = 1 → km σ1 A → Q 0 σ1) : kw_X9_set σ v u Q :=
  sp_X9_isSetting (fun z => absurd z hv) (fun _ => ⟨fun _ => sm_off (by decide) ok hm h, fun q => absurd rfl q⟩)
theorem sm_set_on {σ : ka_S} {A : ma_X} {v : Int32} {c x y : Nat} {M : ma_P} {Q : Int32 → ka_S → Prop} (ok : ko A) (hm : km σ A) (hv : mc_set v (nI x)) (hx : x ≤ 60) (hi : ((2 : Int32) + v) - (9 : Int32) = nI c) (hc : c ≤ 4) (hr : ∀ σ, rd_P σ (37, 0, 0) (kx_M A) → σ.2 (37, 0, 0) c = lN y ∧ rd_P (ka_wL σ (37, 0, 0) c (lN x)) (37, 0, 0) M)
    (h : ∀ σ1, ag xM σ σ1 → σ1.1 (25, 0, 0) 0 = 0 → km σ1 (kx_act A M) → Q (nI y) σ1) : kw_X9_set σ v (nI x) Q := by
  refine sp_X9_isSetting (fun _ => ⟨fun q => absurd q (by decide), fun _ => sm_on ok hm (fun σ1 a1 e1 m1 => sm_note ok m1 (fun σ2 a2 m2 => ?_))⟩) (fun z => absurd hv z)
  obtain ⟨r1, r2⟩ := hr σ2 m2.2.1
  have v1 : vp_in (nI c) 253 := (kI_in (by omega)).mpr (by omega)
  rw [hi, nI_clamp (by omega), r1, lN_i, nI_l (by omega), forall_eq, forall_eq]
  have a3 : ag (xr (37, 0, 0)) σ2 (ka_wL σ2 (37, 0, 0) c (lN x)) := ag_L ag_refl rfl
  exact ⟨v1, v1, h _ (sm_MN a1 (ag_trans a2 (ag_mono a3 xr_N))) (sm_0 e1 (ag_trans a2 (ag_mono a3 xr_N))) (km_page (ko_note ok) m2 a3 r2)⟩
theorem kl_17 {σ : ka_S} {xs : Nat → Int32} {i : Nat} {o : Int64} (hK : kK σ) : kl_c17 σ xs i o (fun σ1 _ => kK σ1) := by
  obtain ⟨A, ok, hc, hm⟩ := hK
  unfold kl_c17 kw_L_set
  generalize xs (i + 1) = v
  generalize xs (i + 2) = u
  refine sp_X4_allows (fun w => ⟨fun q => absurd q (by decide), fun _ => sc_remember ok hc (fun σ1 a1 c1 => ?_)⟩) (fun w => ⟨fun _ => sm_set_off ok hm w (fun σ2 a2 e2 m2 => kf1 (by decide) e2 ⟨A, ok, kc_M hc a2, m2⟩), fun q => absurd rfl q⟩)
  have m1 := km_C ok hm a1
  rcases w with w | w | w
  · obtain ⟨e, w⟩ := w
    subst e
    obtain ⟨x, hx, e2⟩ := mc_9 (x := u) (Or.inl ⟨rfl, w⟩)
    subst e2
    exact sp_X4_change9 c1.2.1 (fun σ2 a2 r2 => sm_set_on (c := 2) (y := mp_W (kx_M A)) ok (km_C ok m1 (ag_mono a2 xp_C)) (Or.inl ⟨rfl, w⟩) hx.2 (by decide) (by decide) (fun σ r => ⟨r.1.2.2.1, rd_P_setW ok.2.2.1 r⟩) (fun σ3 a3 e3 m3 => kf0 e3 ⟨_, ko_act ok (mp_setW_ok ok.2.2.1 hx), kc_M (kc_page c1 a2 r2) a3, m3⟩))
  · obtain ⟨e, w⟩ := w
    subst e
    obtain ⟨x, hx, e2⟩ := mc_10 (x := u) (Or.inr (Or.inl ⟨rfl, w⟩))
    subst e2
    exact sp_X4_change10 c1.2.1 (fun σ2 a2 r2 => sm_set_on (c := 3) (y := mp_S (kx_M A)) ok (km_C ok m1 (ag_mono a2 xp_C)) (Or.inr (Or.inl ⟨rfl, w⟩)) (by omega) (by decide) (by decide) (fun σ r => ⟨r.1.2.2.2.1, rd_P_setS ok.2.2.1 r⟩) (fun σ3 a3 e3 m3 => kf0 e3 ⟨_, ko_act ok (mp_setS_ok ok.2.2.1 hx), kc_M (kc_page c1 a2 r2) a3, m3⟩))
  · obtain ⟨e, w⟩ := w
    subst e
    obtain ⟨x, hx, e2⟩ := mc_11 (x := u) (Or.inr (Or.inr ⟨rfl, w⟩))
    subst e2
    exact sp_X4_change11 c1.2.1 (fun σ2 a2 r2 => sm_set_on (c := 4) (y := mp_Y (kx_M A)) ok (km_C ok m1 (ag_mono a2 xp_C)) (Or.inr (Or.inr ⟨rfl, w⟩)) (by omega) (by decide) (by decide) (fun σ r => ⟨r.1.2.2.2.2, rd_P_setY ok.2.2.1 r⟩) (fun σ3 a3 e3 m3 => kf0 e3 ⟨_, ko_act ok (mp_setY_ok ok.2.2.1 hx), kc_M (kc_page c1 a2 r2) a3, m3⟩))
theorem sm_forget_off {σ : ka_S} {A : ma_X} {v : Int32} {Q : Int32 → ka_S → Prop} (ok : ko A) (hm : km σ A) (hv : ∀ j, j < mp_L (kx_M A) → v ≠ nI j) (h : ∀ σ1, ag xM σ σ1 → σ1.1 (25, 0, 0) 0 = 1 → km σ1 A → Q 0 σ1) : kw_X9_forget σ v Q :=
  sm_isEntry_no ok hm hv ⟨fun _ => sm_off (by decide) ok hm h, fun q => absurd rfl q⟩
theorem sm_forget_on {σ : ka_S} {A : ma_X} {j : Nat} {Q : Int32 → ka_S → Prop} (ok : ko A) (hm : km σ A) (hj : j < mp_L (kx_M A)) (h : ∀ σ1, ag xM σ σ1 → σ1.1 (25, 0, 0) 0 = 0 → km σ1 (kx_act A (mp_forget (kx_M A) j)) → Q (nI (mp_L (kx_M A) - 1)) σ1) : kw_X9_forget σ (nI j) Q := by
  have hL := ok.2.2.1.2.1
  refine sm_isEntry_ok ok hm hj ⟨fun q => absurd q (by decide), fun _ => sm_on ok hm (fun σ1 a1 e1 m1 => sm_note ok m1 (fun σ2 a2 m2 => ?_))⟩
  have v1 : vp_in (1 : Int32) 253 = True := eq_true ((kI_in (k := 1) (by decide)).mpr (by decide))
  have c1 : (1 : Int32).toNatClampNeg = 1 := rfl
  have e2 : (221 : Int32) + (2 : Int32) * nI j = nI (221 + 2 * j) := by rw [kI_lit, kI_lit, pk_mul, nI_add]
  have e3 : nI (221 + 2 * j) + (2 : Int32) = nI (223 + 2 * j) := by
    rw [kI_lit, nI_add]; congr 1; omega
  have e4 : (2 : Int32) * ((nI (mp_L (kx_M A)) - (1 : Int32)) - nI j) = nI (2 * (mp_L (kx_M A) - 1 - j)) := by rw [kI_lit, kI_lit, pk_sub (by omega), pk_sub (by omega), pk_mul]
  simp only [v1, true_and, c1]
  rw [show σ2.2 (37, 0, 0) 1 = lN (mp_L (kx_M A)) from m2.2.1.1.2.1, lN_i, e2, e3, e4]
  refine sp_X9_forgetOn (Q := fun σ10 => Q ((σ10.2 (37, 0, 0) 1).toInt32) σ10) rfl ok.2.2.1 m2.2.1 hj (fun σ3 a3 r3 => ?_)
  rw [r3.1.2.1, lN_i]
  exact h σ3 (sm_MN a1 (ag_trans a2 (ag_mono a3 xr_N))) (sm_0 e1 (ag_trans a2 (ag_mono a3 xr_N))) (km_page (ko_note ok) m2 a3 r3)
theorem kl_19 {σ : ka_S} {xs : Nat → Int32} {i : Nat} {o : Int64} (hK : kK σ) : kl_c19 σ xs i o (fun σ1 _ => kK σ1) := by
  obtain ⟨A, ok, hc, hm⟩ := hK
  unfold kl_c19 kw_L_forget
  generalize xs (i + 1) = v
  refine sc_isEntry ok hc (fun j hj e => sc_remember ok hc (fun σ1 a1 c1 => ?_)) (fun hv => sm_forget_off ok hm hv (fun σ2 a2 e2 m2 => kf1 (by decide) e2 ⟨A, ok, kc_M hc a2, m2⟩))
  subst e
  refine sp_X3_drop c1.2.1 ok.2.2.1 hj (fun σ2 a2 r2 => ?_)
  rw [r2.2.1.1]
  exact sm_forget_on ok (km_C ok hm (ag_trans a1 (ag_mono a2 xp_C))) hj (fun σ3 a3 e3 m3 => kf0 e3 ⟨_, ko_act ok (mp_forget_ok ok.2.2.1 hj), kc_M (kc_page c1 a2 r2) a3, m3⟩)
/-! ===== insert ===== -/
def kx_ins (A : ma_X) (j : Nat) : ma_X := kx_act A (mp_insert (kx_M A) j (kx_R A) (kx_W A))
theorem sm_insert_off1 {σ : ka_S} {A : ma_X} {v : Int32} {Q : Int32 → ka_S → Prop} (ok : ko A) (hm : km σ A) (hv : ∀ j, j < mp_N (kx_M A) + 1 → v ≠ nI j) (h : ∀ σ1, ag xM σ σ1 → σ1.1 (25, 0, 0) 0 = 1 → km σ1 A → Q 0 σ1) : kw_X9_insert σ v Q := by
  have hN := ok.2.2.1.1
  refine ⟨(kI_in (k := 0) (by decide)).mpr (by decide), ?_⟩
  rw [show (0 : Int32).toNatClampNeg = 0 from rfl, hm.2.1.1.1]
  exact sm_in_no (n := mp_N (kx_M A) + 1) (by rw [pk_lT (by omega)]; omega) hv ⟨fun _ => sm_off (by decide) ok hm h, fun q => absurd rfl q⟩
theorem sm_insert_off2 {σ : ka_S} {A : ma_X} {j : Nat} {Q : Int32 → ka_S → Prop} (ok : ko A) (hm : km σ A) (hj : j < mp_N (kx_M A) + 1) (hv : ¬ (kx_e A = -9 ∧ mp_N (kx_M A) + kx_R A ≤ 12)) (h : ∀ σ1, ag xM σ σ1 → σ1.1 (25, 0, 0) 0 = 2 → km σ1 A → Q 0 σ1) : kw_X9_insert σ (nI j) Q := by
  have hN := ok.2.2.1.1
  have hR := kx_R_le ok
  have v0 : vp_in (0 : Int32) 253 := (kI_in (k := 0) (by decide)).mpr (by decide)
  refine ⟨v0, ?_⟩
  rw [show (0 : Int32).toNatClampNeg = 0 from rfl, hm.2.1.1.1]
  refine sm_in_ok (n := mp_N (kx_M A) + 1) (by omega) (by rw [pk_lT (by omega)]; omega) hj ⟨fun q => absurd q (by decide), fun _ => sp_X9_readText hm.1 ok.1 ok.2.1 (fun σ1 a1 r1 => ?_)⟩
  have m1 := km_U ok hm (ag_mono a1 xrm_U)
  have off : kw_X9_insert_53 Q σ1 (nI j) 2 := sm_off (by decide) ok m1 (fun σ2 a2 e2 m2 => h σ2 (ag_trans (ag_mono (ag_mono a1 xrm_N) xN_M) a2) e2 m2)
  have eR : σ1.1 (25, 0, 0) 3 = nI (kx_R A) := r1.1
  refine ⟨fun e => ⟨v0, ?_⟩, fun _ => off⟩
  rw [m1.2.1.1.1, eR, nI_l (by omega), lN_add, show (12 : Int64) = lN 12 from rfl, pk_lLE (by omega) (by decide)]
  exact ⟨fun q => absurd ⟨e, q⟩ hv, fun _ => off⟩
theorem sm_insert_on {σ : ka_S} {A : ma_X} {j : Nat} {Q : Int32 → ka_S → Prop} (ok : ko A) (hm : km σ A) (hj : j < mp_N (kx_M A) + 1) (e : kx_e A = -9) (h12 : mp_N (kx_M A) + kx_R A ≤ 12) (h : ∀ σ1, ag xM σ σ1 → σ1.1 (25, 0, 0) 0 = 0 → km σ1 (kx_ins A j) → Q (nI (mp_N (kx_M A) + kx_R A)) σ1) : kw_X9_insert σ (nI j) Q := by
  have hN := ok.2.2.1.1
  have hR := kx_R_le ok
  have hW := kx_W_ok ok e
  have v0 : vp_in (0 : Int32) 253 := (kI_in (k := 0) (by decide)).mpr (by decide)
  refine ⟨v0, ?_⟩
  rw [show (0 : Int32).toNatClampNeg = 0 from rfl, hm.2.1.1.1]
  refine sm_in_ok (n := mp_N (kx_M A) + 1) (by omega) (by rw [pk_lT (by omega)]; omega) hj ⟨fun q => absurd q (by decide), fun _ => sp_X9_readText hm.1 ok.1 ok.2.1 (fun σ1 a1 r1 => ?_)⟩
  have m1 := km_U ok hm (ag_mono a1 xrm_U)
  have eR : σ1.1 (25, 0, 0) 3 = nI (kx_R A) := r1.1
  refine ⟨fun _ => ⟨v0, ?_⟩, fun q => absurd e q⟩
  rw [m1.2.1.1.1, eR, nI_l (by omega), lN_add, show (12 : Int64) = lN 12 from rfl, pk_lLE (by omega) (by decide)]
  refine ⟨fun _ => sm_on0 (fun σ2 a2 e2 => ?_), fun q => absurd h12 q⟩
  have m2 := km_U ok m1 (ag_mono a2 x0_U)
  refine sp_X9_note ok.2.2.1 m2.2.1 ok.2.2.2.1 m2.2.2.1 (fun σ3 a3 r3 => ?_)
  have m3 : km σ3 (kx_note A) := km_hist ok m2 a3 r3
  have n36 : ∀ m, ¬ xd (36, 0, 0) m := fun m q => by
    rcases q with q | q
    · exact absurd q (by decide)
    · exact absurd q.1 (by decide)
  have n3 : ¬ xd (25, 0, 0) 3 := fun q => by
    rcases q with q | q
    · exact absurd q (by decide)
    · exact absurd q.2 (by decide)
  refine sp_X9_insertOn (R := kx_R A) (Wd := kx_W A) rfl (by decide) ok.2.2.1 m3.2.1 ⟨(a3 _ _ n3).1.trans ((a2 _ _ (fun q => absurd q.2 (by decide))).1.trans eR), fun i hi => ⟨hW i hi, rd_Wf_congr (hW i hi) (r1.2.1 i hi) (fun c hc => (a3 _ _ (n36 _)).2.trans (a2 _ _ (fun q => absurd q.1 (by decide))).2)⟩⟩ (by show j ≤ mp_N (kx_M A); omega) h12 hR.1 (fun σ4 a4 r4 => sp_X9_many rfl r4 ?_)
  exact h σ4 (ag_trans (ag_mono (ag_mono a1 xrm_N) xN_M) (ag_trans (ag_mono a2 x0_M) (ag_mono (ag_trans (ag_mono a3 xd_N) (ag_mono a4 xr_N)) xN_M))) (sm_0 e2 (ag_trans (ag_mono a3 xd_N) (ag_mono a4 xr_N))) (km_page (ko_note ok) m3 a4 r4)
theorem sc_insert {σ : ka_S} {A : ma_X} {v : Int32} {Q : Int32 → ka_S → Prop} {X : Nat → ka_S → Prop} (ok : ko A) (hc : kc σ A) (h : ∀ j σ1, j < mp_N (kx_M A) + 1 → v = nI j → kx_e A = -9 → mp_N (kx_M A) + kx_R A ≤ 12 → ag xC σ σ1 → kc σ1 (kx_ins A j) → Q (nI (mp_N (kx_M A) + kx_R A)) σ1)
    (h0 : (∀ j, j < mp_N (kx_M A) + 1 → v ≠ nI j) → X 2 σ) (h1 : ∀ j σ1, j < mp_N (kx_M A) + 1 → v = nI j → ¬ (kx_e A = -9 ∧ mp_N (kx_M A) + kx_R A ≤ 12) → ag xC σ σ1 → kc σ1 A → X 1 σ1) : kw_X8_insert σ v Q X := by
  have hN := ok.2.2.1.1
  have hR := kx_R_le ok
  unfold kw_X8_insert
  rw [hc.2.1.1.1]
  refine ⟨fun q => h0 (fun j hj e => absurd q (by rw [e]; exact nI_pos (by omega))), fun q => ⟨fun q2 => sp_X5_read hc.1 ok.1 ok.2.1 (fun σ1 a1 r1 => ?_), fun q2 => h0 (fun j hj e => q2 (by rw [e, nI_leI (by omega) (by omega)]; omega))⟩⟩
  obtain ⟨j, hj, e⟩ := nI_of q
  rw [e, nI_leI hj (by omega)] at q2
  have hj' : j < mp_N (kx_M A) + 1 := by omega
  have c1 := kc_S hc (ag_mono a1 xrd_S)
  have b1 := ag_mono (ag_mono a1 xrd_S) xS_C
  have eR : σ1.1 (18, 0, 0) 1 = nI (kx_R A) := r1.1.1
  refine ⟨fun e9 => ?_, fun e9 => h1 j σ1 hj' e (fun z => e9 z.1) b1 c1⟩
  have hW := kx_W_ok ok e9
  rw [c1.2.1.1.1, eR, nI_add, show (12 : Int32) = nI 12 from rfl, nI_leI (by omega) (by decide)]
  refine ⟨fun h12 => ?_, fun h12 => h1 j σ1 hj' e (fun z => h12 z.2) b1 c1⟩
  obtain ⟨od, o1, o2⟩ := c1.2.2.1
  refine sp_X0_remember (by decide) c1.2.1 ok.2.2.1 o2 ok.2.2.2.1 o1 (fun σ2 od2 ho2 a2 r2 => ?_)
  have c2 : kc σ2 (kx_note A) := kc_hist c1 a2 ho2 r2
  have nh : ∀ κ o i m, κ ≠ 20 → 18 ≤ o ∨ 10 ≤ κ → ¬ xh (κ, o, i) m := fun κ o i m hk hk2 q => by
    rcases q with q | q
    · exact hk q
    · have q1 : o < 18 := q.2.1
      have q2 : κ ≤ 9 := q.2.2
      omega
  rw [e]
  refine sp_X4_addWords (R := kx_R A) (Wd := kx_W A) (by decide) ok.2.2.1 c2.2.1 ((a2 _ _ (nh 18 0 0 1 (by decide) (Or.inr (by decide)))).1.trans eR) (by show j ≤ mp_N (kx_M A); omega) h12 hR.1 (fun i hi => ⟨hW i hi, rc_W_ag (r1.2 i hi) a2 (fun κ n h5 h9 => nh κ 18 i n (by omega) (Or.inl (by decide)))⟩) (fun σ3 a3 r3 => ?_)
  rw [r3.1.1]
  exact h j σ3 hj' e e9 h12 (ag_trans b1 (ag_trans (ag_mono a2 xh_C) (ag_mono a3 xp_C))) (kc_page c2 a3 r3)
theorem kl_11 {σ : ka_S} {xs : Nat → Int32} {i : Nat} {o : Int64} (hK : kK σ) : kl_c11 σ xs i o (fun σ1 _ => kK σ1) := by
  obtain ⟨A, ok, hc, hm⟩ := hK
  unfold kl_c11 kw_L_insert
  generalize xs (i + 1) = v
  refine sc_insert ok hc (fun j σ1 hj e e9 h12 a1 c1 => ?_) (fun hv => sm_insert_off1 ok hm hv (fun σ2 a2 e2 m2 => kf1 (by decide) e2 ⟨A, ok, kc_M hc a2, m2⟩)) (fun j σ1 hj e hn a1 c1 => ?_)
  · subst e
    exact sm_insert_on ok (km_C ok hm a1) hj e9 h12 (fun σ2 a2 e2 m2 => kf0 e2 ⟨_, ko_act ok (mp_insert_ok ok.2.2.1 (by omega) h12 (kx_W_ok ok e9)), kc_M c1 a2, m2⟩)
  · subst e
    exact sm_insert_off2 ok (km_C ok hm a1) hj hn (fun σ2 a2 e2 m2 => kf1 (by decide) e2 ⟨A, ok, kc_M c1 a2, m2⟩)
