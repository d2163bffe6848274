/-! ===== widths, scripts, simulations ===== -/
theorem sm_width_off {σ : ka_S} {A : ma_X} {v : Int32} {Q : Int32 → ka_S → Prop} (ok : ko A) (hm : km σ A) (hv : ∀ j, j < 100 → v ≠ nI j) (h : ∀ σ1, ag xM σ σ1 → σ1.1 (25, 0, 0) 0 = 1 → km σ1 A → Q 0 σ1) : kw_X9_widthFor σ v Q :=
  sm_in_no (n := 100) rfl hv ⟨fun _ => sm_off (by decide) ok hm h, fun q => absurd rfl q⟩
theorem sm_width_on {σ : ka_S} {A : ma_X} {r : Nat} {Q : Int32 → ka_S → Prop} (ok : ko A) (hm : km σ A) (hr : r < 100) (h : ∀ σ1, ag xM σ σ1 → σ1.1 (25, 0, 0) 0 = 0 → km σ1 A → Q (mt_wf (kx_M A) r 51 10) σ1) : kw_X9_widthFor σ (nI r) Q :=
  sm_in_ok (n := 100) (by decide) rfl hr ⟨fun q => absurd q (by decide), fun _ => sm_on ok hm (fun σ1 a1 e1 m1 => ⟨52, sp_X9_widthFor_29 (σ0 := σ1) ok.2.2.1 m1.2.1 (by omega) 52 10 51 σ1 rfl (by decide) (by decide) ag_refl (fun σ2 a2 => h σ2 (sm_MN a1 (ag_mono a2 xy_N)) (sm_0 e1 (ag_mono a2 xy_N)) (km_U ok m1 (ag_mono a2 xy_U)))⟩)⟩
theorem kl_24 {σ : ka_S} {xs : Nat → Int32} {i : Nat} {o : Int64} (hK : kK σ) : kl_c24 σ xs i o (fun σ1 _ => kK σ1) := by
  obtain ⟨A, ok, hc, hm⟩ := hK
  unfold kl_c24 kw_L_widthFor
  generalize xs (i + 1) = v
  refine ⟨fun q => ?_, fun q => ⟨fun q2 => ?_, fun q2 => ?_⟩⟩
  · exact sm_width_off ok hm (fun j hj e => absurd q (by rw [e]; exact nI_pos (by omega))) (fun σ2 a2 e2 m2 => kf1 (by decide) e2 ⟨A, ok, kc_M hc a2, m2⟩)
  · obtain ⟨r, hr, e⟩ := nI_of q
    subst e
    rw [show (99 : Int32) = nI 99 from rfl, nI_leI hr (by decide)] at q2
    rw [hc.2.1.1.2.2.2]
    refine sp_X1_measure ok.2.2.1 hc.2.1 ok.2.2.1.2.2.2.2.1 (fun σ1 a1 b1 => ⟨52, ?_⟩)
    refine sp_X8_widthFor_42 (σ0 := σ) ok.2.2.1 hc.2.1 hr 52 10 51 σ1 rfl (by decide) (by decide) a1 b1 (fun σ2 a2 => ?_)
    exact sm_width_on ok (km_C ok hm (ag_mono (ag_mono a2 xa_S) xS_C)) (by omega) (fun σ3 a3 e3 m3 => kf0 e3 ⟨A, ok, kc_M (kc_S hc (ag_mono a2 xa_S)) a3, m3⟩)
  · refine sm_width_off ok hm (fun j hj e => q2 ?_) (fun σ2 a2 e2 m2 => kf1 (by decide) e2 ⟨A, ok, kc_M hc a2, m2⟩)
    rw [e, show (99 : Int32) = nI 99 from rfl, nI_leI (by omega) (by decide)]
    omega
theorem mc_9 {x : Int32} (h : mc_set 9 x) : ∃ w, (10 ≤ w ∧ w ≤ 60) ∧ x = nI w := by
  rcases h with h | h | h
  · obtain ⟨w, hw, e⟩ := kI_ex (v := x) (n := 61) (by omega) (by omega)
    refine ⟨w, ?_, e⟩
    rw [e, nI_toInt (by omega)] at h
    omega
  · exact absurd h.1 (by decide)
  · exact absurd h.1 (by decide)
theorem mc_10 {x : Int32} (h : mc_set 10 x) : ∃ w, (1 ≤ w ∧ w ≤ 3) ∧ x = nI w := by
  rcases h with h | h | h
  · exact absurd h.1 (by decide)
  · obtain ⟨w, hw, e⟩ := kI_ex (v := x) (n := 4) (by omega) (by omega)
    refine ⟨w, ?_, e⟩
    rw [e, nI_toInt (by omega)] at h
    omega
  · exact absurd h.1 (by decide)
theorem mc_11 {x : Int32} (h : mc_set 11 x) : ∃ w, w ≤ 1 ∧ x = nI w := by
  rcases h with h | h | h
  · exact absurd h.1 (by decide)
  · exact absurd h.1 (by decide)
  · obtain ⟨w, hw, e⟩ := kI_ex (v := x) (n := 2) (by omega) (by omega)
    exact ⟨w, by omega, e⟩
theorem sm_rows_off {σ : ka_S} {A : ma_X} {v u : Int32} {Q : Int32 → ka_S → Prop} (ok : ko A) (hm : km σ A) (hv : ¬ (mc_set 9 v ∧ mc_set 11 u)) (h : ∀ σ1, ag xM σ σ1 → σ1.1 (25, 0, 0) 0 = 1 → km σ1 A → Q 0 σ1) : kw_X9_rowsWith σ v u Q :=
  sp_X9_isSetting (fun w => ⟨fun q => absurd q (by decide), fun _ => sp_X9_isSetting (fun w2 => absurd ⟨w, w2⟩ hv) (fun _ => ⟨fun _ => sm_off (by decide) ok hm h, fun q => absurd rfl q⟩)⟩) (fun _ => ⟨fun _ => sm_off (by decide) ok hm h, fun q => absurd rfl q⟩)
theorem sm_rows_on {σ : ka_S} {A : ma_X} {w y : Nat} {Q : Int32 → ka_S → Prop} (ok : ko A) (hm : km σ A) (hw : 10 ≤ w ∧ w ≤ 60) (hy : y ≤ 1) (h : ∀ σ1, ag xM σ σ1 → σ1.1 (25, 0, 0) 0 = 0 → km σ1 A → Q (nI (tr (mt_lay (kx_M A) w y (mp_N (kx_M A))))) σ1) : kw_X9_rowsWith σ (nI w) (nI y) Q := by
  have t1 : (nI w).toInt = (w : Int) := nI_toInt (by omega)
  have t2 : (nI y).toInt = (y : Int) := nI_toInt (by omega)
  have s9 : mc_set 9 (nI w) := Or.inl ⟨rfl, by omega, by omega⟩
  have s11 : mc_set 11 (nI y) := Or.inr (Or.inr ⟨rfl, by omega, by omega⟩)
  refine sp_X9_isSetting (fun _ => ⟨fun q => absurd q (by decide), fun _ => sp_X9_isSetting (fun _ => ⟨fun q => absurd q (by decide), fun _ => sm_on ok hm (fun σ1 a1 e1 m1 => sp_X9_layOut rfl (by decide) ok.2.2.1 m1.2.1 hw hy (fun σ2 a2 r2 => ?_))⟩) (fun q => absurd s11 q)⟩) (fun q => absurd s9 q)
  rw [r2.2.2.1]
  exact h σ2 (sm_MN a1 (ag_mono a2 xy_N)) (sm_0 e1 (ag_mono a2 xy_N)) (km_U ok m1 (ag_mono a2 xy_U))
theorem kl_26 {σ : ka_S} {xs : Nat → Int32} {i : Nat} {o : Int64} (hK : kK σ) : kl_c26 σ xs i o (fun σ1 _ => kK σ1) := by
  obtain ⟨A, ok, hc, hm⟩ := hK
  unfold kl_c26 kw_L_rowsWith
  generalize xs (i + 1) = v
  generalize xs (i + 2) = u
  refine sp_X4_allows (fun w => ⟨fun q => absurd q (by decide), fun _ => sp_X4_allows (fun w2 => ⟨fun q => absurd q (by decide), fun _ => ?_⟩) (fun w2 => ⟨fun _ => sm_rows_off ok hm (fun z => w2 z.2) (fun σ2 a2 e2 m2 => kf1 (by decide) e2 ⟨A, ok, kc_M hc a2, m2⟩), fun q => absurd rfl q⟩)⟩) (fun w => ⟨fun _ => sm_rows_off ok hm (fun z => w z.1) (fun σ2 a2 e2 m2 => kf1 (by decide) e2 ⟨A, ok, kc_M hc a2, m2⟩), fun q => absurd rfl q⟩)
  obtain ⟨a, ha, e⟩ := mc_9 w
  obtain ⟨b, hb, e2⟩ := mc_11 w2
  subst e e2
  refine sp_X1_measure ok.2.2.1 hc.2.1 hb (fun σ1 a1 b1 => sp_X1_wrap (y := b) ok.2.2.1 (rc_P_xa hc.2.1 a1) ha b1 (fun σ2 a2 r2 => ?_))
  rw [r2.1.1.2]
  exact sm_rows_on ok (km_C ok hm (ag_mono (ag_mono (ag_trans a1 a2) xa_S) xS_C)) ha hb (fun σ3 a3 e3 m3 => kf0 e3 ⟨A, ok, kc_M (kc_S hc (ag_mono (ag_trans a1 a2) xa_S)) a3, m3⟩)
/-- scripts that are run -/
def mc_scr (v : Int32) (x : Int64) (n s : Nat) : Prop := (1 ≤ n ∧ n ≤ 4) ∧ s < 10000 ^ n ∧ v = nI n ∧ x = lN s
theorem mc_scr_lt {n s : Nat} (hn : n ≤ 4) (hs : s < 10000 ^ n) : s < 2 ^ 63 := by
  have h1 : (10000 : Nat) ^ n ≤ 10000 ^ 4 := Nat.pow_le_pow_right (by decide) hn
  have h2 : (10000 : Nat) ^ 4 < 2 ^ 63 := by decide
  omega
theorem sc_script {σ : ka_S} {A : ma_X} {v : Int32} {x : Int64} {Q : Int32 → ka_S → Prop} {X : Nat → ka_S → Prop} (ok : ko A) (hc : kc σ A) (h : ∀ n s σ1, mc_scr v x n s → ag xS σ σ1 → Q (mi_script s n n 0 (kx_M A)) σ1) (h0 : (∀ n s, ¬ mc_scr v x n s) → X 0 σ) : kw_X8_runScript σ v x Q X := by
  unfold kw_X8_runScript
  refine ⟨fun q => h0 (fun n s z => ?_), fun q => ⟨fun q2 => ⟨fun q3 => h0 (fun n s z => ?_), fun q3 => ?_⟩, fun q2 => h0 (fun n s z => ?_)⟩⟩
  · rw [z.2.2.1, show (1 : Int32) = nI 1 from rfl, nI_ltI (by have := z.1; omega) (by decide)] at q
    have := z.1; omega
  · rw [z.2.2.2, show (0 : Int64) = lN 0 from rfl, pk_lLT (mc_scr_lt z.1.2 z.2.1) (by decide)] at q3
    omega
  · have hv : ¬ v < 0 := fun z => by
      have g1 := Int32.lt_iff_toInt_lt.mp z
      have g0 : (0 : Int32).toInt = 0 := by decide
      rw [g0] at g1
      refine q (Int32.lt_iff_toInt_lt.mpr ?_)
      rw [show (1 : Int32).toInt = 1 from by decide]
      omega
    obtain ⟨n, hn, e⟩ := nI_of hv
    obtain ⟨s, hs, e2⟩ := pk_lOf q3
    subst e e2
    rw [show (1 : Int32) = nI 1 from rfl, nI_ltI hn (by decide)] at q
    rw [show (4 : Int32) = nI 4 from rfl, nI_leI hn (by decide)] at q2
    have hd : s / 10000 ^ n ≤ s := Nat.div_le_self _ _
    have key : s / 10000 ^ n = 0 ↔ s < 10000 ^ n := by
      rw [Nat.div_eq_zero_iff]
      have : 0 < 10000 ^ n := Nat.pow_pos (by decide)
      omega
    refine sp_X8_withoutLowest hs q2 ?_
    rw [show (0 : Int64) = lN 0 from rfl, pk_lEQ (by omega) (by decide), key]
    refine ⟨fun q4 => sp_X4_copyFrom (by decide) hc.2.1 ok.2.2.1 (fun σ1 a1 r1 => ⟨5, ?_⟩), fun q4 => h0 (fun n' s' z => ?_)⟩
    · exact sp_X8_runScript_62 (σ0 := σ) hs q2 5 0 n (kx_M A) σ1 (Nat.zero_add _) (by omega) (ag_mono a1 xp_tr) ok.2.2.1 r1 (fun σ2 a2 => h n s σ2 ⟨⟨by omega, q2⟩, q4, rfl, rfl⟩ (ag_mono a2 xtr_S))
    · have z1 := z.2.2.1
      have z2 := z.2.2.2
      rw [nI_eq hn (by have := z.1; omega)] at z1
      rw [pk_lEQ hs (mc_scr_lt z.1.2 z.2.1)] at z2
      subst z1 z2
      exact q4 z.2.1
  · rw [z.2.2.1, show (4 : Int32) = nI 4 from rfl, nI_leI (by have := z.1; omega) (by decide)] at q2
    have := z.1; omega
theorem sm_script_in {σ : ka_S} {v : Int32} {Q : Int32 → ka_S → Prop} (h1 : ∀ n, 1 ≤ n → n ≤ 4 → v = nI n → Q 1 σ) (h0 : (∀ n, 1 ≤ n → n ≤ 4 → v ≠ nI n) → Q 0 σ) : kw_X9_in σ v.toInt64 1 4 Q := by
  refine sp_X9_in (fun g => ?_) (fun g => h0 (fun n hn1 hn2 e => g ?_))
  · rw [kI_l] at g
    have g1 : (1 : Int) ≤ v.toInt := g.1
    have g2 : v.toInt ≤ 4 := g.2
    obtain ⟨n, hn, e⟩ := kI_ex (v := v) (n := 5) (by omega) (by omega)
    rw [e, nI_toInt (by omega)] at g1
    exact h1 n (by omega) (by omega) e
  · rw [kI_l, e, nI_toInt (by omega)]
    exact ⟨by show (1 : Int) ≤ n; omega, by show (n : Int) ≤ 4; omega⟩
theorem sm_script_off {σ : ka_S} {A : ma_X} {v : Int32} {x : Int64} {Q : Int32 → ka_S → Prop} (ok : ko A) (hm : km σ A) (hv : ∀ n s, ¬ mc_scr v x n s) (h : ∀ σ1, ag xM σ σ1 → σ1.1 (25, 0, 0) 0 = 1 → km σ1 A → Q 0 σ1) : kw_X9_runScript σ v x Q := by
  refine sm_script_in (fun n hn1 hn2 e => ⟨fun q => absurd q (by decide), fun _ => ?_⟩) (fun _ => ⟨fun _ => sm_off (by decide) ok hm h, fun q => absurd rfl q⟩)
  subst e
  have hp : 0 < 10000 ^ n := Nat.pow_pos (by decide)
  have hp2 : (10000 : Nat) ^ n ≤ 10000 ^ 4 := Nat.pow_le_pow_right (by decide) hn2
  have hp3 : (10000 : Nat) ^ 4 < 2 ^ 62 := by decide
  refine sp_X9_tenTo hn2 (sp_X9_in (fun g => ?_) (fun g => ⟨fun _ => sm_off (by decide) ok hm h, fun q => absurd rfl q⟩))
  rw [lN_m1 (by omega), pk_lT (by omega)] at g
  have g1 : (0 : Int) ≤ x.toInt := g.1
  obtain ⟨s, hs, e⟩ := pk_lOf (x := x) (fun q => by
    have := Int64.lt_iff_toInt_lt.mp q
    rw [show (0 : Int64).toInt = 0 from by decide] at this
    omega)
  subst e
  have g2 := g.2
  rw [pk_lT hs] at g2
  exact absurd ⟨⟨hn1, hn2⟩, by omega, rfl, rfl⟩ (hv n s)
theorem sm_script_on {σ : ka_S} {A : ma_X} {n s : Nat} {Q : Int32 → ka_S → Prop} (ok : ko A) (hm : km σ A) (hn : 1 ≤ n ∧ n ≤ 4) (hs : s < 10000 ^ n) (h : ∀ σ1, ag xM σ σ1 → σ1.1 (25, 0, 0) 0 = 0 → km σ1 A → Q (mi_script s n n 0 (kx_M A)) σ1) : kw_X9_runScript σ (nI n) (lN s) Q := by
  have hp : 0 < 10000 ^ n := Nat.pow_pos (by decide)
  have hp2 : (10000 : Nat) ^ n ≤ 10000 ^ 4 := Nat.pow_le_pow_right (by decide) hn.2
  have hp3 : (10000 : Nat) ^ 4 < 2 ^ 62 := by decide
  have hs2 := mc_scr_lt hn.2 hs
  refine sm_script_in (fun n' hn1 hn2 e => ⟨fun q => absurd q (by decide), fun _ => ?_⟩) (fun z => absurd rfl (z n hn.1 hn.2))
  refine sp_X9_tenTo hn.2 (sp_X9_in (fun g => ⟨fun q => absurd q (by decide), fun _ => sm_on ok hm (fun σ1 a1 e1 m1 => sp_X9_tryOut ok.2.2.1 m1.2.1 (fun σ2 a2 r2 => ⟨5, ?_⟩))⟩) (fun g => absurd ?_ g))
  · exact sp_X9_runScript_49 (σ0 := σ1) hs2 hn.2 5 0 n (kx_M A) σ2 (Nat.zero_add _) (by omega) a2 ok.2.2.1 r2 (fun σ3 a3 => h σ3 (sm_MN a1 (ag_mono a3 xtm_N)) (sm_0 e1 (ag_mono a3 xtm_N)) (km_U ok m1 (ag_mono a3 xtm_U)))
  · rw [lN_m1 (by omega), pk_lT hs2, pk_lT (by omega)]
    exact ⟨by show (0 : Int) ≤ s; omega, by omega⟩
theorem kl_27 {σ : ka_S} {xs : Nat → Int32} {i : Nat} {o : Int64} (hK : kK σ) : kl_c27 σ xs i o (fun σ1 _ => kK σ1) := by
  obtain ⟨A, ok, hc, hm⟩ := hK
  unfold kl_c27 kw_L_runScript
  generalize xs (i + 1) = v
  generalize (((xs (i + 2)).toInt64 <<< ((32 : Int32).toInt64 &&& 63)) ||| ((xs (i + 3)).toInt64 &&& (4294967295 : Int64))) = x
  refine sc_script ok hc (fun n s σ1 z a1 => ?_) (fun z => sm_script_off ok hm z (fun σ2 a2 e2 m2 => kf1 (by decide) e2 ⟨A, ok, kc_M hc a2, m2⟩))
  obtain ⟨z1, z2, z3, z4⟩ := z
  subst z3 z4
  exact sm_script_on ok (km_C ok hm (ag_mono a1 xS_C)) z1 z2 (fun σ2 a2 e2 m2 => kf0 e2 ⟨A, ok, kc_M (kc_S hc a1) a2, m2⟩)
theorem sm_sim_in {σ : ka_S} {v : Int32} {Q : Int32 → ka_S → Prop} (h1 : ∀ n, 1 ≤ n → n ≤ 99 → v = nI n → Q 1 σ) (h0 : (∀ n, 1 ≤ n → n ≤ 99 → v ≠ nI n) → Q 0 σ) : kw_X9_in σ v.toInt64 1 99 Q := by
  refine sp_X9_in (fun g => ?_) (fun g => h0 (fun n hn1 hn2 e => g ?_))
  · rw [kI_l] at g
    have g1 : (1 : Int) ≤ v.toInt := g.1
    have g2 : v.toInt ≤ 99 := g.2
    obtain ⟨n, hn, e⟩ := kI_ex (v := v) (n := 100) (by omega) (by omega)
    rw [e, nI_toInt (by omega)] at g1
    exact h1 n (by omega) (by omega) e
  · rw [kI_l, e, nI_toInt (by omega)]
    exact ⟨by show (1 : Int) ≤ n; omega, by show (n : Int) ≤ 99; omega⟩
theorem sm_sim_off {σ : ka_S} {A : ma_X} {v : Int32} {x : Int64} {Q : Int32 → ka_S → Prop} (ok : ko A) (hm : km σ A) (hv : ∀ n, 1 ≤ n → n ≤ 99 → v ≠ nI n) (h : ∀ σ1, ag xM σ σ1 → σ1.1 (25, 0, 0) 0 = 1 → km σ1 A → Q 0 σ1) : kw_X9_simulate σ x v Q :=
  sm_sim_in (fun n h1 h2 e => absurd e (hv n h1 h2)) (fun _ => ⟨fun _ => sm_off (by decide) ok hm h, fun q => absurd rfl q⟩)
theorem sm_sim_on {σ : ka_S} {A : ma_X} {n : Nat} {x : Int64} {Q : Int32 → ka_S → Prop} (ok : ko A) (hm : km σ A) (hn : 1 ≤ n ∧ n ≤ 99) (h : ∀ σ1, ag xM σ σ1 → σ1.1 (25, 0, 0) 0 = 0 → km σ1 A → Q (mi_sim n x (kx_M A) 0) σ1) : kw_X9_simulate σ x (nI n) Q :=
  sm_sim_in (fun n' h1 h2 e => ⟨fun q => absurd q (by decide), fun _ => sm_on ok hm (fun σ1 a1 e1 m1 => sp_X9_tryOut ok.2.2.1 m1.2.1 (fun σ2 a2 r2 => ⟨100, sp_X9_simulate_39 (σ0 := σ1) hn.2 100 0 n x 0 (kx_M A) σ2 (Nat.zero_add _) (by omega) a2 ok.2.2.1 r2 (fun σ3 a3 => h σ3 (sm_MN a1 (ag_mono a3 xtm_N)) (sm_0 e1 (ag_mono a3 xtm_N)) (km_U ok m1 (ag_mono a3 xtm_U)))⟩))⟩) (fun z => absurd rfl (z n hn.1 hn.2))
theorem kl_28 {σ : ka_S} {xs : Nat → Int32} {i : Nat} {o : Int64} (hK : kK σ) : kl_c28 σ xs i o (fun σ1 _ => kK σ1) := by
  obtain ⟨A, ok, hc, hm⟩ := hK
  unfold kl_c28 kw_L_simulate
  generalize xs (i + 3) = v
  generalize (((xs (i + 1)).toInt64 <<< ((32 : Int32).toInt64 &&& 63)) ||| ((xs (i + 2)).toInt64 &&& (4294967295 : Int64))) = x
  refine ⟨fun q => ?_, fun q => ⟨fun q2 => ?_, fun q2 => ?_⟩⟩
  · refine sm_sim_off ok hm (fun j h1 h2 e => ?_) (fun σ2 a2 e2 m2 => kf1 (by decide) e2 ⟨A, ok, kc_M hc a2, m2⟩)
    rw [e, show (1 : Int32) = nI 1 from rfl, nI_ltI (by omega) (by decide)] at q
    omega
  · have hv : ¬ v < 0 := fun z => by
      have g1 := Int32.lt_iff_toInt_lt.mp z
      rw [show (0 : Int32).toInt = 0 from by decide] at g1
      refine q (Int32.lt_iff_toInt_lt.mpr ?_)
      rw [show (1 : Int32).toInt = 1 from by decide]
      omega
    obtain ⟨n, hn, e⟩ := nI_of hv
    subst e
    rw [show (1 : Int32) = nI 1 from rfl, nI_ltI hn (by decide)] at q
    rw [show (99 : Int32) = nI 99 from rfl, nI_leI hn (by decide)] at q2
    refine sp_X4_copyFrom (by decide) hc.2.1 ok.2.2.1 (fun σ1 a1 r1 => ⟨100, ?_⟩)
    refine sp_X8_simulate_42 (σ0 := σ) q2 100 0 n x 0 (kx_M A) σ1 (Nat.zero_add _) (by omega) (ag_mono a1 xp_tr) ok.2.2.1 r1 (fun σ2 a2 => ?_)
    exact sm_sim_on ok (km_C ok hm (ag_mono (ag_mono a2 xtr_S) xS_C)) ⟨by omega, q2⟩ (fun σ3 a3 e3 m3 => kf0 e3 ⟨A, ok, kc_M (kc_S hc (ag_mono a2 xtr_S)) a3, m3⟩)
  · refine sm_sim_off ok hm (fun j h1 h2 e => q2 ?_) (fun σ2 a2 e2 m2 => kf1 (by decide) e2 ⟨A, ok, kc_M hc a2, m2⟩)
    rw [e, show (99 : Int32) = nI 99 from rfl, nI_leI (by omega) (by decide)]
    omega
