/-! ===== load ===== -/
def x0 (k : ka_K) (n : Nat) : Prop := k = (25, 0, 0) ∧ n = 0
theorem x0_M (k : ka_K) (n : Nat) (h : x0 k n) : xM k n := by
  show 25 ≤ k.1
  rw [h.1]; decide
theorem x0_U (k : ka_K) (n : Nat) (h : x0 k n) : xU k n := Or.inr (Or.inr (Or.inr ⟨h.1, Or.inl h.2⟩))
theorem sm_on0 {σ : ka_S} {B : ka_S → Prop} {Q : Int32 → ka_S → Prop} (h : ∀ σ1, ag x0 σ σ1 → σ1.1 (25, 0, 0) 0 = 0 → B σ1) : kw_X9_refused σ 0 (fun r s => (r = (0 : Int32) → B s) ∧ (¬ r = (0 : Int32) → Q 0 s)) := by
  unfold kw_X9_refused
  rw [forall_eq]
  refine ⟨fun _ => ⟨fun _ => h _ (ag_I ag_refl ⟨rfl, rfl⟩) ?_, fun q => absurd rfl q⟩, fun q => absurd (show (0 : Int32) ≤ 0 by decide) q⟩
  simp only [st_I, st_L, st_I2, st_L1, Prod.mk.injEq, Nat.reduceEqDiff, false_and, and_false, true_and, and_true, and_self, if_false, if_true, reduceIte]
theorem kc_slots {σ σ' : ka_S} {A : ma_X} {b : Nat → Nat} {B : Nat → ma_P} (hc : kc σ A) (a : ag (fun k _ => k.1 = 24) σ σ') (hs : ∀ s, s < 2 → σ'.1 (24, 0, 0) s = nI (b s) ∧ (b s = 1 → rc_P σ' (s + 2) (B s))) : kc σ' (kx_setB A b B) := by
  obtain ⟨h1, h2, ⟨od, h3, h4⟩, h5⟩ := hc
  have n0 : ∀ κ o i m, κ ≠ 24 → ¬ (fun (k : ka_K) (_ : Nat) => k.1 = 24) (κ, o, i) m := fun κ o i m h q => h q
  exact ⟨⟨(a _ _ (n0 10 0 0 1 (by decide))).1.trans h1.1, fun k hk => (a _ _ (n0 11 0 0 k (by decide))).1.trans (h1.2 k hk)⟩, rc_P_ag h2 a (fun κ i n hk => n0 κ 0 i n (by omega)),
    ⟨od, h3, rc_H_ag h4 a (fun j => n0 20 0 0 j (by decide)) (fun κ o i m hk _ _ => n0 κ o i m (by omega))⟩, hs⟩
theorem km_slots {σ σ' : ka_S} {A : ma_X} {b : Nat → Nat} {B : Nat → ma_P} (ok : ko A) (hm : km σ A) (a : ag (fun k _ => k = (35, 0, 0) ∨ k = (40, 0, 0)) σ σ') (hs : ∀ s, s < 2 → σ'.1 (35, 0, 0) s = nI (b s) ∧ (b s = 1 → rd_at σ' (40, 0, 0) (253 * s) (B s))) : km σ' (kx_setB A b B) := by
  obtain ⟨h1, h2, h3, h4⟩ := hm
  have n0 : ∀ κ m, κ ≠ 35 → κ ≠ 40 → ¬ (fun (k : ka_K) (_ : Nat) => k = (35, 0, 0) ∨ k = (40, 0, 0)) (κ, 0, 0) m := fun κ m h h' q => by
    rcases q with q | q
    · exact h (congrArg Prod.fst q)
    · exact h' (congrArg Prod.fst q)
  exact ⟨⟨(a _ _ (n0 25 2 (by decide) (by decide))).1.trans h1.1, fun k hk => (a _ _ (n0 26 k (by decide) (by decide))).1.trans (h1.2 k hk)⟩, rd_P_ag ok.2.2.1 h2 a (fun n _ => n0 37 n (by decide) (by decide)), ⟨(a _ _ (n0 25 8 (by decide) (by decide))).1.trans h3.1, fun j hj => ⟨(h3.2 j hj).1, rd_at_ag (h3.2 j hj).1 (h3.2 j hj).2 (fun i hi => (a _ _ (n0 39 (253 * j + i) (by decide) (by decide))).2)⟩⟩, hs⟩
def kx_R (A : ma_X) : Nat := mv_R (mv_read (kx_n A) (kx_t A)).2
def kx_W (A : ma_X) : Nat → ma_W := mv_D (mv_read (kx_n A) (kx_t A)).2
def kx_e (A : ma_X) : Int32 := (mv_read (kx_n A) (kx_t A)).1
def kx_load (A : ma_X) : ma_X := kx_setB (kx_setH (kx_setM A (mp_insert mp_new 0 (kx_R A) (kx_W A))) 0 (kx_H A)) (fun _ => 0) (kx_B A)
theorem kx_R_le {A : ma_X} (ok : ko A) : 1 ≤ kx_R A ∧ kx_R A ≤ 12 := (mv_read_ok ok.1).1
theorem kx_W_ok {A : ma_X} (ok : ko A) (e : kx_e A = -9) : ∀ j, j < kx_R A → mw_ok (kx_W A j) := (mv_read_ok ok.1).2 e
theorem ko_load {A : ma_X} (ok : ko A) (e : kx_e A = -9) : ko (kx_load A) := by
  have hR := kx_R_le ok
  refine ⟨ok.1, ok.2.1, mp_insert_ok mp_new_ok (Nat.zero_le _) (by show 0 + kx_R A ≤ 12; omega) (kx_W_ok ok e), Nat.zero_le _, fun j hj => absurd hj (Nat.not_lt_zero j), fun s hs => ⟨Nat.zero_le _, fun h => absurd (show (0 : Nat) = 1 from h) (by decide)⟩⟩
theorem sc_load {σ : ka_S} {A : ma_X} {Q : Int32 → ka_S → Prop} {X : Nat → ka_S → Prop} (ok : ko A) (hc : kc σ A) (h : kx_e A = -9 → ∀ σ1, ag xC σ σ1 → kc σ1 (kx_load A) → Q (nI (kx_R A)) σ1) (h0 : ¬ kx_e A = -9 → ∀ σ1, ag xC σ σ1 → kc σ1 A → X 1 σ1) : kw_X8_load σ Q X := by
  have hR := kx_R_le ok
  unfold kw_X8_load
  refine sp_X5_read hc.1 ok.1 ok.2.1 (fun σ1 a1 r1 => ⟨fun e => ?_, fun e => h0 e σ1 (ag_mono (ag_mono a1 xrd_S) xS_C) (kc_S hc (ag_mono a1 xrd_S))⟩)
  have c1 := kc_S hc (ag_mono a1 xrd_S)
  have hW := kx_W_ok ok e
  refine sp_X4_reset (fun σ2 a2 r2 => ?_)
  have n18 : ∀ m, ¬ xp 0 (18, 0, 0) m := fun m q => absurd (show 18 ≤ 9 from q.2) (by decide)
  refine sp_X4_addWords (i := 0) (R := kx_R A) (Wd := kx_W A) (by decide) mp_new_ok r2 ((a2 _ _ (n18 1)).1.trans r1.1.1) (Nat.zero_le _) (by show 0 + kx_R A ≤ 12; omega) hR.1 (fun j hj => ⟨hW j hj, rc_W_ag (r1.2 j hj) a2 (fun κ n _ _ q => absurd (show 18 = 0 from q.1) (by decide))⟩) (fun σ3 a3 r3 => ?_)
  have c3 := kc_page c1 (ag_trans a2 a3) r3
  refine sp_X0_clear (H := kx_H A) (fun σ4 a4 r4 => ⟨3, ?_⟩)
  have c4 := kc_hist c3 (ag_mono a4 (fun k m q => Or.inl q)) (by decide) r4
  have v0 : vp_in (0 : Int32) 2 := (kI_in (k := 0) (by decide)).mpr (by decide)
  have v1 : vp_in (1 : Int32) 2 := (kI_in (k := 1) (by decide)).mpr (by decide)
  have a5 : ag (fun (k : ka_K) (_ : Nat) => k.1 = 24) σ4 (ka_wI (ka_wI σ4 (24, 0, 0) 0 0) (24, 0, 0) 1 0) := ag_I (ag_I ag_refl rfl) rfl
  have c5 := kc_slots (b := fun _ => 0) (B := kx_B A) c4 a5 (fun s hs => ⟨by
    have : s = 0 ∨ s = 1 := by omega
    rcases this with q | q
    · subst q
      simp only [st_I, st_L, st_I2, st_L1, Prod.mk.injEq, Nat.reduceEqDiff, false_and, and_false, true_and, and_true, and_self, if_false, if_true, reduceIte]
      rfl
    · subst q
      simp only [st_I, st_L, st_I2, st_L1, Prod.mk.injEq, Nat.reduceEqDiff, false_and, and_false, true_and, and_true, and_self, if_false, if_true, reduceIte]
      rfl, fun q => absurd (show (0 : Nat) = 1 from q) (by decide)⟩)
  rw [kw_X8_load_54]
  refine ⟨fun q => absurd q (by decide), fun _ => ⟨v0, ?_⟩⟩
  rw [forall_eq, forall_eq, kw_X8_load_54]
  refine ⟨fun q => absurd q (by decide), fun _ => ⟨v1, ?_⟩⟩
  rw [forall_eq, forall_eq, kw_X8_load_54]
  refine ⟨fun _ => ?_, fun q => absurd (by decide) q⟩
  show Q ((ka_wI (ka_wI σ4 (24, 0, 0) 0 0) (24, 0, 0) 1 0).1 (0, 0, 0) 2) (ka_wI (ka_wI σ4 (24, 0, 0) 0 0) (24, 0, 0) 1 0)
  rw [c5.2.1.1.1, show mp_N (kx_M (kx_setB (kx_setH (kx_setM A (mp_insert mp_new 0 (kx_R A) (kx_W A))) 0 (kx_H A)) (fun _ => 0) (kx_B A))) = kx_R A from Nat.zero_add _]
  exact h e _ (ag_trans (ag_mono (ag_mono a1 xrd_S) xS_C) (ag_trans (ag_mono (ag_trans a2 a3) xp_C) (ag_trans (ag_mono a4 (fun k m q => by show k.1 ≤ 24; omega)) (ag_mono a5 (fun k m q => by show k.1 ≤ 24; omega))))) c5
theorem sm_load_no {σ : ka_S} {A : ma_X} {Q : Int32 → ka_S → Prop} (ok : ko A) (hm : km σ A) (e : ¬ kx_e A = -9) (h : ∀ σ1, ag xM σ σ1 → σ1.1 (25, 0, 0) 0 = 1 → km σ1 A → Q 0 σ1) : kw_X9_load σ Q := by
  unfold kw_X9_load
  refine sp_X9_readText hm.1 ok.1 ok.2.1 (fun σ1 a1 r1 => ⟨fun q => absurd q e, fun _ => sm_off (by decide) ok (km_U ok hm (ag_mono a1 xrm_U)) (fun σ2 a2 e2 m2 => h σ2 (ag_trans (ag_mono (ag_mono a1 xrm_N) xN_M) a2) e2 m2)⟩)
theorem sm_load_ok {σ : ka_S} {A : ma_X} {Q : Int32 → ka_S → Prop} (ok : ko A) (hm : km σ A) (e : kx_e A = -9) (h : ∀ σ1, ag xM σ σ1 → σ1.1 (25, 0, 0) 0 = 0 → km σ1 (kx_load A) → Q (nI (kx_R A)) σ1) : kw_X9_load σ Q := by
  have hR := kx_R_le ok
  have hW := kx_W_ok ok e
  unfold kw_X9_load
  refine sp_X9_readText hm.1 ok.1 ok.2.1 (fun σ1 a1 r1 => ⟨fun _ => ?_, fun q => absurd e q⟩)
  have m1 := km_U ok hm (ag_mono a1 xrm_U)
  refine sm_on0 (fun σ2 a2 e2 => ?_)
  have m2 := km_U ok m1 (ag_mono a2 x0_U)
  refine sp_X9_clean rfl (fun σ3 a3 r3 => ?_)
  have n36 : ∀ m, ¬ xr (37, 0, 0) (36, 0, 0) m := fun m q => absurd (show (36, 0, 0) = (37, 0, 0) from q) (by decide)
  have n25 : ∀ m, ¬ xr (37, 0, 0) (25, 0, 0) m := fun m q => absurd (show (25, 0, 0) = (37, 0, 0) from q) (by decide)
  refine sp_X9_insertOn (i := 0) (R := kx_R A) (Wd := kx_W A) rfl (by decide) mp_new_ok r3 ⟨(a3 _ _ (n25 3)).1.trans ((a2 _ _ (fun q => absurd q.2 (by decide))).1.trans r1.1), fun j hj => ⟨hW j hj, rd_Wf_congr (hW j hj) (r1.2.1 j hj) (fun c hc => (a3 _ _ (n36 _)).2.trans (a2 _ _ (fun q => absurd q.1 (by decide))).2)⟩⟩ (Nat.zero_le _) (by show 0 + kx_R A ≤ 12; omega) hR.1 (fun σ4 a4 r4 => ?_)
  have m4 := km_page ok m2 (ag_trans a3 a4) r4
  have okM : ko (kx_setM A (mp_insert mp_new 0 (kx_R A) (kx_W A))) := ko_setM ok (mp_insert_ok mp_new_ok (Nat.zero_le _) (by show 0 + kx_R A ≤ 12; omega) hW)
  rw [forall_eq]
  have a5 : ag xd σ4 (ka_wI σ4 (25, 0, 0) 8 0) := ag_I ag_refl (Or.inr ⟨rfl, rfl⟩)
  have m5 := km_hist (h := 0) (H := kx_H A) okM m4 a5 ⟨by
    simp only [st_I, st_L, st_I2, st_L1, Prod.mk.injEq, Nat.reduceEqDiff, false_and, and_false, true_and, and_true, and_self, if_false, if_true, reduceIte]
    rfl, fun j hj => absurd hj (Nat.not_lt_zero j)⟩
  generalize ka_wI σ4 (25, 0, 0) 8 0 = σ5 at a5 m5 ⊢
  refine ⟨(kI_in (k := 0) (by decide)).mpr (by decide), ?_⟩
  rw [forall_eq]
  refine ⟨(kI_in (k := 1) (by decide)).mpr (by decide), ?_⟩
  rw [forall_eq]
  have a6 : ag (fun (k : ka_K) (_ : Nat) => k = (35, 0, 0) ∨ k = (40, 0, 0)) σ5 (ka_wI (ka_wI σ5 (35, 0, 0) 0 0) (35, 0, 0) 1 0) := ag_I (ag_I ag_refl (Or.inl rfl)) (Or.inl rfl)
  have okH : ko (kx_setH (kx_setM A (mp_insert mp_new 0 (kx_R A) (kx_W A))) 0 (kx_H A)) := ⟨okM.1, okM.2.1, okM.2.2.1, Nat.zero_le _, fun j hj => absurd hj (Nat.not_lt_zero j), okM.2.2.2.2.2⟩
  have m6 := km_slots (b := fun _ => 0) (B := kx_B A) okH m5 a6 (fun s hs => ⟨by
    have : s = 0 ∨ s = 1 := by omega
    rcases this with q | q
    · subst q
      simp only [st_I, st_L, st_I2, st_L1, Prod.mk.injEq, Nat.reduceEqDiff, false_and, and_false, true_and, and_true, and_self, if_false, if_true, reduceIte]
      rfl
    · subst q
      simp only [st_I, st_L, st_I2, st_L1, Prod.mk.injEq, Nat.reduceEqDiff, false_and, and_false, true_and, and_true, and_self, if_false, if_true, reduceIte]
      rfl, fun q => absurd (show (0 : Nat) = 1 from q) (by decide)⟩)
  refine sp_X9_many rfl m6.2.1 ?_
  rw [show mp_N (kx_M (kx_setB (kx_setH (kx_setM A (mp_insert mp_new 0 (kx_R A) (kx_W A))) 0 (kx_H A)) (fun _ => 0) (kx_B A))) = kx_R A from Nat.zero_add _]
  have a7 : ag xN σ2 (ka_wI (ka_wI σ5 (35, 0, 0) 0 0) (35, 0, 0) 1 0) := ag_trans (ag_mono (ag_trans a3 a4) xr_N) (ag_trans (ag_mono a5 xd_N) (ag_mono a6 (fun k m q => by
    rcases q with q | q
    · exact ⟨by rw [q]; decide, fun z => by rw [z.1] at q; exact absurd q (by decide)⟩
    · exact ⟨by rw [q]; decide, fun z => by rw [z.1] at q; exact absurd q (by decide)⟩)))
  exact h _ (ag_trans (ag_mono (ag_mono a1 xrm_N) xN_M) (ag_trans (ag_mono a2 x0_M) (ag_mono a7 xN_M))) (sm_0 e2 a7) m6
theorem kl_3 {σ : ka_S} {xs : Nat → Int32} {i : Nat} {o : Int64} (hK : kK σ) : kl_c3 σ xs i o (fun σ1 _ => kK σ1) := by
  obtain ⟨A, ok, hc, hm⟩ := hK
  unfold kl_c3 kw_L_load
  exact sc_load ok hc (fun e σ1 a1 c1 => sm_load_ok ok (km_C ok hm a1) e (fun σ2 a2 e2 m2 => kf0 e2 ⟨_, ko_load ok e, kc_M c1 a2, m2⟩)) (fun e σ1 a1 c1 => sm_load_no ok (km_C ok hm a1) e (fun σ2 a2 e2 m2 => kf1 (by decide) e2 ⟨A, ok, kc_M c1 a2, m2⟩))
