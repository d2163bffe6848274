/-! ===== calls: the text; what never throws ===== -/
theorem kf0 {σ : ka_S} {r : Int32} (e : σ.1 (25, 0, 0) 0 = 0) (h : kK σ) : kw_X9_thrown σ (fun r7 σ6 => (r7 = (0 : Int32) → ((0 : Int32) = (0 : Int32) → (r.toInt64 = (r).toInt64 → kK σ6) ∧ (¬ r.toInt64 = (r).toInt64 → False)) ∧ (¬ (0 : Int32) = (0 : Int32) → kK σ6)) ∧ (¬ r7 = (0 : Int32) → False)) := by
  unfold kw_X9_thrown
  exact ⟨fun _ => ⟨fun _ => ⟨fun _ => h, fun q => absurd rfl q⟩, fun q => absurd rfl q⟩, fun q => absurd e q⟩
theorem kf1 {σ : ka_S} {k r : Int32} {o : Int64} (hk : ¬ k ≤ 0) (e : σ.1 (25, 0, 0) 0 = k) (h : kK σ) : kw_X9_thrown σ (fun r7 σ6 => (r7 = k → (k = (0 : Int32) → (o = (r).toInt64 → kK σ6) ∧ (¬ o = (r).toInt64 → False)) ∧ (¬ k = (0 : Int32) → kK σ6)) ∧ (¬ r7 = k → False)) := by
  unfold kw_X9_thrown
  exact ⟨fun _ => ⟨fun q => absurd (by rw [q]; decide) hk, fun _ => h⟩, fun q => absurd e q⟩
def xtx (k : ka_K) (n : Nat) : Prop := k = (26, 0, 0) ∨ (k = (25, 0, 0) ∧ n = 2)
theorem xtx_N (k : ka_K) (n : Nat) (h : xtx k n) : xN k n := by
  rcases h with h | h
  · exact ⟨by rw [h]; decide, fun q => by rw [q.1] at h; exact absurd h (by decide)⟩
  · exact ⟨by rw [h.1]; decide, fun q => by omega⟩
theorem xt_C (k : ka_K) (n : Nat) (h : xt k n) : xC k n := by
  rcases h with h | h
  · show k.1 ≤ 24; omega
  · show k.1 ≤ 24; omega
theorem kc_text {σ σ' : ka_S} {A : ma_X} {n : Nat} {t : Nat → Nat} (hc : kc σ A) (a : ag xt σ σ') (ht : rc_T σ' n t) : kc σ' (kx_setT A n t) := by
  obtain ⟨h1, h2, ⟨od, h3, h4⟩, h5⟩ := hc
  have n0 : ∀ κ o i m, κ ≠ 10 → κ ≠ 11 → ¬ xt (κ, o, i) m := fun κ o i m h h' q => by
    rcases q with q | q
    · exact h q
    · exact h' q
  exact ⟨ht, rc_P_ag h2 a (fun κ i n hk => n0 κ 0 i n (by omega) (by omega)), ⟨od, h3, rc_H_ag h4 a (fun j => n0 20 0 0 j (by decide) (by decide)) (fun κ o i m hk _ _ => n0 κ o i m (by omega) (by omega))⟩,
    fun s hs => ⟨(a _ _ (n0 24 0 0 s (by decide) (by decide))).1.trans (h5 s hs).1, fun hb => rc_P_ag ((h5 s hs).2 hb) a (fun κ i n hk => n0 κ (s + 2) i n (by omega) (by omega))⟩⟩
theorem km_text {σ σ' : ka_S} {A : ma_X} {n : Nat} {t : Nat → Nat} (ok : ko A) (hm : km σ A) (a : ag xtx σ σ') (ht : rd_T σ' n t) : km σ' (kx_setT A n t) := by
  obtain ⟨h1, h2, h3, h4⟩ := hm
  have n0 : ∀ κ m, κ ≠ 26 → κ ≠ 25 ∨ m ≠ 2 → ¬ xtx (κ, 0, 0) m := fun κ m hk hk2 q => by
    rcases q with q | q
    · exact hk (congrArg Prod.fst q)
    · have q1 : κ = 25 := congrArg Prod.fst q.1
      have q2 : m = 2 := q.2
      omega
  exact ⟨ht, rd_P_ag ok.2.2.1 h2 a (fun n _ => n0 37 n (by decide) (Or.inl (by decide))), ⟨(a _ _ (n0 25 8 (by decide) (Or.inr (by decide)))).1.trans h3.1, fun j hj => ⟨(h3.2 j hj).1, rd_at_ag (h3.2 j hj).1 (h3.2 j hj).2 (fun i hi => (a _ _ (n0 39 _ (by decide) (Or.inl (by decide)))).2)⟩⟩,
    fun s hs => ⟨(a _ _ (n0 35 s (by decide) (Or.inl (by decide)))).1.trans (h4 s hs).1, fun hb => rd_at_ag ((ok.2.2.2.2.2 s hs).2 hb) ((h4 s hs).2 hb) (fun i hi => (a _ _ (n0 40 _ (by decide) (Or.inl (by decide)))).2)⟩⟩
theorem ko_text {A : ma_X} {n : Nat} {t : Nat → Nat} (ok : ko A) (hn : n ≤ 60) (ht : ∀ k, k < n → t k < 256) : ko (kx_setT A n t) := ⟨hn, ht, ok.2.2⟩
theorem sm_append_no {σ : ka_S} {A : ma_X} {v : Int32} {Q : Int32 → ka_S → Prop} (ok : ko A) (hm : km σ A) (hv : ¬ (0 ≤ v.toInt ∧ v.toInt ≤ 255)) (h : ∀ σ1, ag xM σ σ1 → σ1.1 (25, 0, 0) 0 = 1 → km σ1 A → Q 0 σ1) : kw_X9_append σ v Q :=
  sp_X9_in (fun g => absurd (by rw [kI_l] at g; exact g) hv) (fun _ => ⟨fun _ => sm_off (by decide) ok hm h, fun q => absurd rfl q⟩)
theorem sm_append_full {σ : ka_S} {A : ma_X} {v : Int32} {Q : Int32 → ka_S → Prop} (ok : ko A) (hm : km σ A) (hv : 0 ≤ v.toInt ∧ v.toInt ≤ 255) (hn : kx_n A = 60) (h : ∀ σ1, ag xM σ σ1 → σ1.1 (25, 0, 0) 0 = 2 → km σ1 A → Q 0 σ1) : kw_X9_append σ v Q := by
  refine sp_X9_in (fun _ => ⟨fun q => absurd q (by decide), fun _ => ?_⟩) (fun g => absurd hv (by rw [kI_l] at g; exact g))
  rw [hm.1.1, hn]
  exact ⟨fun _ => sm_off (by decide) ok hm h, fun q => absurd rfl q⟩
theorem sm_append_ok {σ : ka_S} {A : ma_X} {c : Nat} {Q : Int32 → ka_S → Prop} (ok : ko A) (hm : km σ A) (hc : c < 256) (hn : kx_n A < 60) (h : ∀ σ1, ag xM σ σ1 → σ1.1 (25, 0, 0) 0 = 0 → km σ1 (kx_setT A (kx_n A + 1) (mt_put (kx_t A) (kx_n A) c)) → Q (nI (kx_n A + 1)) σ1) : kw_X9_append σ (nI c) Q := by
  have tv : (nI c).toInt64.toInt = (c : Int) := by rw [kI_l, nI_toInt (by omega)]
  refine sp_X9_in (fun _ => ⟨fun q => absurd q (by decide), fun _ => ?_⟩) (fun g => absurd (by rw [tv]; exact ⟨by show (0 : Int) ≤ c; omega, by show (c : Int) ≤ 255; omega⟩) g)
  rw [hm.1.1, show (60 : Int32) = nI 60 from rfl, nI_eq (by omega) (by decide)]
  refine ⟨fun q => absurd q (by omega), fun _ => sm_on ok hm (fun σ1 a1 e1 m1 => ?_)⟩
  have e2 : (ka_wI σ1 (26, 0, 0) (kx_n A) (nI c)).1 (25, 0, 0) 2 = nI (kx_n A) := by
    simp only [st_I, st_L, st_I2, st_L1, Prod.mk.injEq, Nat.reduceEqDiff, false_and, and_false, true_and, and_true, and_self, if_false, if_true, reduceIte]
    exact m1.1.1
  rw [m1.1.1, nI_clamp (by omega)]
  refine ⟨(kI_in (by omega)).mpr (by omega), ?_⟩
  rw [forall_eq, e2, show (nI (kx_n A) + 1 : Int32) = nI (kx_n A + 1) from nI_1 _, forall_eq]
  have e3 : (ka_wI (ka_wI σ1 (26, 0, 0) (kx_n A) (nI c)) (25, 0, 0) 2 (nI (kx_n A + 1))).1 (25, 0, 0) 2 = nI (kx_n A + 1) := by
    simp only [st_I, st_L, st_I2, st_L1, Prod.mk.injEq, Nat.reduceEqDiff, false_and, and_false, true_and, and_true, and_self, if_false, if_true, reduceIte]
  rw [e3]
  have a2 : ag xtx σ1 (ka_wI (ka_wI σ1 (26, 0, 0) (kx_n A) (nI c)) (25, 0, 0) 2 (nI (kx_n A + 1))) := ag_I (ag_I ag_refl (Or.inl rfl)) (Or.inr ⟨rfl, rfl⟩)
  have a3 := ag_mono a2 xtx_N
  refine h _ (sm_MN a1 a3) (sm_0 e1 a3) (km_text ok m1 a2 ⟨e3, fun k hk => ?_⟩)
  simp only [st_I, st_L, st_I2, st_L1, Prod.mk.injEq, Nat.reduceEqDiff, false_and, and_false, true_and, and_true, and_self, if_false, if_true, reduceIte]
  show _ = nI (if k = kx_n A then c else kx_t A k)
  by_cases q : k = kx_n A
  · rw [if_pos q, if_pos q]
  · rw [if_neg q, if_neg q]
    exact m1.1.2 k (by omega)
theorem kl_0 {σ : ka_S} {xs : Nat → Int32} {i : Nat} {o : Int64} (hK : kK σ) : kl_c0 σ xs i o (fun σ1 _ => kK σ1) := by
  obtain ⟨A, ok, hc, hm⟩ := hK
  unfold kl_c0 kw_L_append
  generalize xs (i + 1) = v
  have no : ¬ (0 ≤ v.toInt ∧ v.toInt ≤ 255) → kw_X9_append σ v (fun r5 σ4 => kw_X9_thrown σ4 (fun r7 σ6 => (r7 = (1 : Int32) → ((1 : Int32) = (0 : Int32) → (o = (r5).toInt64 → kK σ6) ∧ (¬ o = (r5).toInt64 → False)) ∧ (¬ (1 : Int32) = (0 : Int32) → kK σ6)) ∧ (¬ r7 = (1 : Int32) → False))) :=
    fun hv => sm_append_no ok hm hv (fun σ1 a1 e1 m1 => kf1 (by decide) e1 ⟨A, ok, kc_M hc a1, m1⟩)
  unfold kw_X8_append
  rw [hc.1.1]
  refine ⟨fun q => no ?_, fun q => ⟨fun q2 => ⟨fun q3 => ?_, fun q3 => ?_⟩, fun q2 => no ?_⟩⟩
  · have : v.toInt < 0 := Int32.lt_iff_toInt_lt.mp q
    omega
  · obtain ⟨c, hc2, rfl⟩ := nI_of q
    rw [show (255 : Int32) = nI 255 from rfl, nI_leI hc2 (by decide)] at q2
    rw [show (60 : Int32) = nI 60 from rfl, nI_ltI (by have := ok.1; omega) (by decide)] at q3
    refine sp_X6_add hc.1 q3 (fun σ1 a1 r1 => ?_)
    rw [r1.1]
    refine sm_append_ok ok (km_C ok hm (ag_mono a1 xt_C)) (by omega) q3 (fun σ2 a2 e2 m2 => kf0 e2 ⟨_, ko_text ok (by omega) (fun k hk => ?_), kc_M (kc_text hc a1 r1) a2, m2⟩)
    show (if k = kx_n A then c else kx_t A k) < 256
    by_cases z : k = kx_n A
    · rw [if_pos z]; omega
    · rw [if_neg z]; exact ok.2.1 k (by omega)
  · rw [show (60 : Int32) = nI 60 from rfl, nI_ltI (by have := ok.1; omega) (by decide)] at q3
    have hv : 0 ≤ v.toInt ∧ v.toInt ≤ 255 := by
      have g1 : ¬ v.toInt < 0 := fun z => q (Int32.lt_iff_toInt_lt.mpr z)
      have g2 : v.toInt ≤ 255 := Int32.le_iff_toInt_le.mp q2
      omega
    exact sm_append_full ok hm hv (by have := ok.1; omega) (fun σ1 a1 e1 m1 => kf1 (by decide) e1 ⟨A, ok, kc_M hc a1, m1⟩)
  · have : ¬ v.toInt ≤ 255 := fun z => q2 (Int32.le_iff_toInt_le.mpr z)
    omega
theorem sm_set0 {σ : ka_S} {A : ma_X} (ok : ko A) (hm : km σ A) : km (ka_wI σ (25, 0, 0) 0 0) A ∧ ag xM σ (ka_wI σ (25, 0, 0) 0 0) :=
  ⟨km_U ok hm (ag_I ag_refl (Or.inr (Or.inr (Or.inr ⟨rfl, Or.inl rfl⟩)))), ag_I ag_refl (by show 25 ≤ 25; decide)⟩
theorem rc_T_0 {σ : ka_S} {t : Nat → Nat} (h : σ.1 (10, 0, 0) 1 = 0) : rc_T σ 0 t := ⟨h, fun k hk => absurd hk (Nat.not_lt_zero k)⟩
theorem rd_T_0 {σ : ka_S} {t : Nat → Nat} (h : σ.1 (25, 0, 0) 2 = 0) : rd_T σ 0 t := ⟨h, fun k hk => absurd hk (Nat.not_lt_zero k)⟩
theorem sm_clearText {σ : ka_S} {A : ma_X} {Q : Int32 → ka_S → Prop} (ok : ko A) (hm : km σ A) (h : ∀ σ1, ag xM σ σ1 → km σ1 (kx_setT A 0 (kx_t A)) → Q (nI (kx_n A)) σ1) : kw_X9_clearText σ Q := by
  obtain ⟨m2, a2⟩ := sm_set0 ok hm
  unfold kw_X9_clearText
  rw [forall_eq, m2.1.1, forall_eq, forall_eq]
  have a3 : ag xtx (ka_wI σ (25, 0, 0) 0 0) (ka_wI (ka_wI σ (25, 0, 0) 0 0) (25, 0, 0) 2 0) := ag_I ag_refl (Or.inr ⟨rfl, rfl⟩)
  refine h _ (sm_MN a2 (ag_mono a3 xtx_N)) (km_text ok m2 a3 (rd_T_0 ?_))
  simp only [st_I, st_L, st_I2, st_L1, Prod.mk.injEq, Nat.reduceEqDiff, false_and, and_false, true_and, and_true, and_self, if_false, if_true, reduceIte]
theorem kl_1 {σ : ka_S} {xs : Nat → Int32} {i : Nat} {o : Int64} (hK : kK σ) : kl_c1 σ xs i o (fun σ1 _ => kK σ1) := by
  obtain ⟨A, ok, hc, hm⟩ := hK
  unfold kl_c1 kw_X8_clearText
  rw [forall_eq, forall_eq, hc.1.1]
  have a1 : ag xt σ (ka_wI σ (10, 0, 0) 1 0) := ag_I ag_refl (Or.inl rfl)
  have c1 := kc_text (n := 0) (t := kx_t A) hc a1 (rc_T_0 (by simp only [st_I, st_L, st_I2, st_L1, Prod.mk.injEq, Nat.reduceEqDiff, false_and, and_false, true_and, and_true, and_self, if_false, if_true, reduceIte]))
  exact sm_clearText ok (km_C ok hm (ag_mono a1 xt_C)) (fun σ2 a2 m2 => ⟨fun _ => ⟨_, ko_text ok (Nat.zero_le _) (fun k hk => absurd hk (Nat.not_lt_zero k)), kc_M c1 a2, m2⟩, fun q => absurd rfl q⟩)
theorem sm_errorPosition {σ : ka_S} {A : ma_X} {Q : Int32 → ka_S → Prop} (ok : ko A) (hm : km σ A) (h : ∀ σ1, ag xM σ σ1 → km σ1 A → Q (mv_read (kx_n A) (kx_t A)).1 σ1) : kw_X9_errorPosition σ Q := by
  obtain ⟨m2, a2⟩ := sm_set0 ok hm
  unfold kw_X9_errorPosition
  rw [forall_eq]
  exact sp_X9_readText m2.1 ok.1 ok.2.1 (fun σ3 a3 r3 => h σ3 (sm_MN a2 (ag_mono a3 xrm_N)) (km_U ok m2 (ag_mono a3 xrm_U)))
theorem kl_2 {σ : ka_S} {xs : Nat → Int32} {i : Nat} {o : Int64} (hK : kK σ) : kl_c2 σ xs i o (fun σ1 _ => kK σ1) := by
  obtain ⟨A, ok, hc, hm⟩ := hK
  unfold kl_c2 kw_X8_errorPosition
  exact sp_X5_read hc.1 ok.1 ok.2.1 (fun σ1 a1 r1 => sm_errorPosition ok (km_C ok hm (ag_mono (ag_mono a1 xrd_S) xS_C)) (fun σ2 a2 m2 => ⟨fun _ => ⟨A, ok, kc_M (kc_S hc (ag_mono a1 xrd_S)) a2, m2⟩, fun q => absurd rfl q⟩))
theorem sm_fillGaps {σ : ka_S} {A : ma_X} {Q : Int32 → ka_S → Prop} (ok : ko A) (hm : km σ A) (h : ∀ σ1, ag xM σ σ1 → km σ1 (kx_setM (kx_note A) (mt_fill (kx_M A)).1) → Q (nI (mt_fill (kx_M A)).2) σ1) : kw_X9_fillGaps σ Q := by
  obtain ⟨m2, a2⟩ := sm_set0 ok hm
  unfold kw_X9_fillGaps
  rw [forall_eq]
  exact sm_note ok m2 (fun σ4 a4 m4 => sp_X9_fillOn rfl ok.2.2.1 m4.2.1 (fun σ5 a5 r5 _ => h σ5 (sm_MN a2 (ag_trans a4 (ag_mono a5 xr_N))) (km_page (ko_note ok) m4 a5 r5)))
theorem kl_20 {σ : ka_S} {xs : Nat → Int32} {i : Nat} {o : Int64} (hK : kK σ) : kl_c20 σ xs i o (fun σ1 _ => kK σ1) := by
  obtain ⟨A, ok, hc, hm⟩ := hK
  unfold kl_c20 kw_X8_fillGaps
  exact sc_remember ok hc (fun σ1 a1 c1 => sp_X4_fill c1.2.1 ok.2.2.1 (fun σ2 a2 r2 ok2 => sm_fillGaps ok (km_C ok (km_C ok hm a1) (ag_mono a2 xp_C)) (fun σ3 a3 m3 => ⟨fun _ => ⟨_, ko_setM (ko_note ok) ok2, kc_M (kc_page c1 a2 r2) a3, m3⟩, fun q => absurd rfl q⟩)))
theorem sm_mostUsed {σ : ka_S} {A : ma_X} {Q : Int32 → ka_S → Prop} (ok : ko A) (hm : km σ A) (h : ∀ σ1, ag xM σ σ1 → km σ1 A → Q (mi_most (kx_M A)) σ1) : kw_X9_mostUsed σ Q := by
  obtain ⟨m2, a2⟩ := sm_set0 ok hm
  have hN := ok.2.2.1.1
  unfold kw_X9_mostUsed
  rw [forall_eq]
  exact ⟨13, sp_X9_mostUsed_15 ok.2.2.1 m2.2.1 13 0 _ (-9, 0, []) (Nat.zero_add _) (by omega) ⟨Nat.zero_le _, Or.inr rfl⟩ (h _ a2 m2)⟩
theorem kl_23 {σ : ka_S} {xs : Nat → Int32} {i : Nat} {o : Int64} (hK : kK σ) : kl_c23 σ xs i o (fun σ1 _ => kK σ1) := by
  obtain ⟨A, ok, hc, hm⟩ := hK
  unfold kl_c23 kw_X8_mostUsed
  exact sp_X4_placeOfMostUsed hc.2.1 ok.2.2.1 (sm_mostUsed ok hm (fun σ1 a1 m1 => ⟨fun _ => ⟨A, ok, kc_M hc a1, m1⟩, fun q => absurd rfl q⟩))
theorem sm_empty {σ : ka_S} {A : ma_X} {Q : Int32 → ka_S → Prop} (ok : ko A) (hm : km σ A) (h : ∀ σ1, ag xM σ σ1 → km σ1 A → Q (nI (ma_sum (mf_emp (kx_M A) (mp_W (kx_M A)) (mp_Y (kx_M A))) (mp_N (kx_M A)))) σ1) : kw_X9_empty σ Q := by
  obtain ⟨m2, a2⟩ := sm_set0 ok hm
  have hN := ok.2.2.1.1
  have b := mt_lay_le (y := mp_Y (kx_M A)) ok.2.2.1 ok.2.2.1.2.2.1 (mp_N (kx_M A)) (Nat.le_refl _)
  unfold kw_X9_empty
  rw [forall_eq]
  refine sp_X9_layNow ok.2.2.1 m2.2.1 (fun σ3 a3 r3 => ?_)
  have m3 := km_U ok m2 (ag_mono a3 xy_U)
  exact ⟨13, sp_X9_empty_13 ok.2.2.1 m3.2.1 r3 (h σ3 (sm_MN a2 (ag_mono a3 xy_N)) m3) 13 0 (Nat.zero_le _) (by omega)⟩
theorem kl_25 {σ : ka_S} {xs : Nat → Int32} {i : Nat} {o : Int64} (hK : kK σ) : kl_c25 σ xs i o (fun σ1 _ => kK σ1) := by
  obtain ⟨A, ok, hc, hm⟩ := hK
  unfold kl_c25 kw_X8_empty
  refine sp_X8_arranged ok.2.2.1 hc.2.1 (fun σ1 a1 r1 => ?_)
  have p1 := rc_P_xa hc.2.1 a1
  rw [p1.1.2.1]
  exact sp_X1_countEmpty ok.2.2.1 ok.2.2.1.2.2.1 p1 r1 (sm_empty ok (km_C ok hm (ag_mono (ag_mono a1 xa_S) xS_C)) (fun σ2 a2 m2 => ⟨fun _ => ⟨A, ok, kc_M (kc_S hc (ag_mono a1 xa_S)) a2, m2⟩, fun q => absurd rfl q⟩))
