/-! ===== one object: what holds of it between two calls; each call of it ===== -/
def kv (σ : ka_S) (A : ma_X) : Prop := ko A ∧ kc σ A
theorem kv_S {σ σ' : ka_S} {A : ma_X} (hv : kv σ A) (a : ag xS σ σ') : kv σ' A := ⟨hv.1, kc_S hv.2 a⟩
theorem s_append {σ : ka_S} {A : ma_X} {v : Int32} {Q : Int32 → ka_S → Prop} {X : Nat → ka_S → Prop} (hv : kv σ A) (h : ∀ c, c < 256 → v = nI c → kx_n A < 60 → ∀ σ1, kv σ1 (kx_setT A (kx_n A + 1) (mt_put (kx_t A) (kx_n A) c)) → Q (nI (kx_n A + 1)) σ1)
    (h0 : ¬ (0 ≤ v.toInt ∧ v.toInt ≤ 255) → X 0 σ) (h1 : 0 ≤ v.toInt ∧ v.toInt ≤ 255 → kx_n A = 60 → X 1 σ) : kw_X8_append σ v Q X := by
  obtain ⟨ok, hc⟩ := hv
  unfold kw_X8_append
  rw [hc.1.1]
  refine ⟨fun q => h0 ?_, fun q => ⟨fun q2 => ⟨fun q3 => ?_, fun q3 => ?_⟩, fun q2 => h0 ?_⟩⟩
  · have : v.toInt < 0 := Int32.lt_iff_toInt_lt.mp q
    omega
  · obtain ⟨c, hc2, rfl⟩ := nI_of q
    rw [show (255 : Int32) = nI 255 from rfl, nI_leI hc2 (by decide)] at q2
    rw [show (60 : Int32) = nI 60 from rfl, nI_ltI (by have := ok.1; omega) (by decide)] at q3
    refine sp_X6_add hc.1 q3 (fun σ1 a1 r1 => ?_)
    rw [r1.1]
    refine h c (by omega) rfl q3 σ1 ⟨ko_text ok (by omega) (fun k hk => ?_), kc_text hc a1 r1⟩
    show (if k = kx_n A then c else kx_t A k) < 256
    by_cases z : k = kx_n A
    · rw [if_pos z]; omega
    · rw [if_neg z]; exact ok.2.1 k (by omega)
  · rw [show (60 : Int32) = nI 60 from rfl, nI_ltI (by have := ok.1; omega) (by decide)] at q3
    have hv : 0 ≤ v.toInt ∧ v.toInt ≤ 255 := by
      have g1 : ¬ v.toInt < 0 := fun z => q (Int32.lt_iff_toInt_lt.mpr z)
      have g2 : v.toInt ≤ 255 := Int32.le_iff_toInt_le.mp q2
      omega
    exact h1 hv (by have := ok.1; omega)
  · have : ¬ v.toInt ≤ 255 := fun z => q2 (Int32.le_iff_toInt_le.mpr z)
    omega
theorem s_clearText {σ : ka_S} {A : ma_X} {Q : Int32 → ka_S → Prop} (hv : kv σ A) (h : ∀ σ1, kv σ1 (kx_setT A 0 (kx_t A)) → Q (nI (kx_n A)) σ1) : kw_X8_clearText σ Q := by
  obtain ⟨ok, hc⟩ := hv
  unfold kw_X8_clearText
  rw [forall_eq, forall_eq, hc.1.1]
  have a1 : ag xt σ (ka_wI σ (10, 0, 0) 1 0) := ag_I ag_refl (Or.inl rfl)
  have c1 := kc_text (n := 0) (t := kx_t A) hc a1 (rc_T_0 (by simp only [st_I, st_L, st_I2, st_L1, Prod.mk.injEq, Nat.reduceEqDiff, false_and, and_false, true_and, and_true, and_self, if_false, if_true, reduceIte]))
  exact h _ ⟨ko_text ok (Nat.zero_le _) (fun k hk => absurd hk (Nat.not_lt_zero k)), c1⟩
theorem s_errorPosition {σ : ka_S} {A : ma_X} {Q : Int32 → ka_S → Prop} (hv : kv σ A) (h : ∀ σ1, kv σ1 A → Q (kx_e A) σ1) : kw_X8_errorPosition σ Q := by
  obtain ⟨ok, hc⟩ := hv
  unfold kw_X8_errorPosition
  exact sp_X5_read hc.1 ok.1 ok.2.1 (fun σ1 a1 r1 => h σ1 ⟨ok, kc_S hc (ag_mono a1 xrd_S)⟩)
theorem s_fillGaps {σ : ka_S} {A : ma_X} {Q : Int32 → ka_S → Prop} (hv : kv σ A) (h : ∀ σ1, kv σ1 (kx_act A (mt_fill (kx_M A)).1) → Q (nI (mt_fill (kx_M A)).2) σ1) : kw_X8_fillGaps σ Q := by
  obtain ⟨ok, hc⟩ := hv
  unfold kw_X8_fillGaps
  exact sc_remember ok hc (fun σ1 a1 c1 => sp_X4_fill c1.2.1 ok.2.2.1 (fun σ2 a2 r2 ok2 => h σ2 ⟨ko_act ok ok2, kc_page c1 a2 r2⟩))
theorem s_mostUsed {σ : ka_S} {A : ma_X} {Q : Int32 → ka_S → Prop} (hv : kv σ A) (h : ∀ σ1, kv σ1 A → Q (mi_most (kx_M A)) σ1) : kw_X8_mostUsed σ Q := by
  unfold kw_X8_mostUsed
  exact sp_X4_placeOfMostUsed hv.2.2.1 hv.1.2.2.1 (h σ hv)
theorem s_empty {σ : ka_S} {A : ma_X} {Q : Int32 → ka_S → Prop} (hv : kv σ A) (h : ∀ σ1, kv σ1 A → Q (nI (ma_sum (mf_emp (kx_M A) (mp_W (kx_M A)) (mp_Y (kx_M A))) (mp_N (kx_M A)))) σ1) : kw_X8_empty σ Q := by
  obtain ⟨ok, hc⟩ := hv
  unfold kw_X8_empty
  refine sp_X8_arranged ok.2.2.1 hc.2.1 (fun σ1 a1 r1 => ?_)
  have p1 := rc_P_xa hc.2.1 a1
  rw [p1.1.2.1]
  exact sp_X1_countEmpty ok.2.2.1 ok.2.2.1.2.2.1 p1 r1 (h σ1 ⟨ok, kc_S hc (ag_mono a1 xa_S)⟩)
theorem s_load {σ : ka_S} {A : ma_X} {Q : Int32 → ka_S → Prop} {X : Nat → ka_S → Prop} (hv : kv σ A) (h : kx_e A = -9 → ∀ σ1, kv σ1 (kx_load A) → Q (nI (kx_R A)) σ1) (h0 : ¬ kx_e A = -9 → ∀ σ1, kv σ1 A → X 1 σ1) : kw_X8_load σ Q X :=
  sc_load hv.1 hv.2 (fun e σ1 _ c1 => h e σ1 ⟨ko_load hv.1 e, c1⟩) (fun e σ1 _ c1 => h0 e σ1 ⟨hv.1, c1⟩)
theorem s_about {σ : ka_S} {A : ma_X} {v : Int32} {Q : Int32 → ka_S → Prop} {X : Nat → ka_S → Prop} (hv : kv σ A) (h : ∀ k, k < 12 → v = nI k → ∀ σ1, kv σ1 A → Q (nI (mt_about (kx_M A) k)) σ1) (h0 : (∀ k, k < 12 → v ≠ nI k) → X 0 σ) : kw_X8_about σ v Q X := by
  obtain ⟨ok, hc⟩ := hv
  have p := hc.2.1
  have W := ok.2.2.1.2.2.1
  have fin : ∀ k, k < 12 → v = nI k → ∀ σ1, ag xS σ σ1 → Q (nI (mt_about (kx_M A) k)) σ1 := fun k hk e σ1 a1 => h k hk e σ1 ⟨ok, kc_S hc a1⟩
  have ar : ∀ {Q : ka_S → Prop}, (∀ σ1, ag xS σ σ1 → rc_P σ1 0 (kx_M A) → rc_A σ1 (kx_M A) (mp_W (kx_M A)) (mp_Y (kx_M A)) → Q σ1) → kw_X8_arranged σ 0 Q :=
    fun hQ => sp_X8_arranged ok.2.2.1 p (fun σ1 a1 r1 => hQ σ1 (ag_mono a1 xa_S) (rc_P_xa p a1) r1)
  unfold kw_X8_about
  exact ⟨fun e0 => by rw [p.1.1]; exact fin 0 (by decide) e0 σ ag_refl, fun n0 => ⟨fun e1 => sp_X4_countParts p ok.2.2.1 (fin 1 (by decide) e1 σ ag_refl), fun n1 => ⟨fun e2 => sp_X4_countGaps p ok.2.2.1 (fin 2 (by decide) e2 σ ag_refl), fun n2 => ⟨fun e3 => sp_X4_countSentences p ok.2.2.1 (fin 3 (by decide) e3 σ ag_refl), fun n3 => ⟨fun e4 => ar (fun σ1 a1 p1 r1 => by rw [r1.1.1.1]; exact fin 4 (by decide) e4 σ1 a1), fun n4 => ⟨fun e5 => ar (fun σ1 a1 p1 r1 => by rw [r1.1.1.2]; exact fin 5 (by decide) e5 σ1 a1), fun n5 => ⟨fun e6 => ar (fun σ1 a1 p1 r1 => by rw [p1.1.2.1]; exact sp_X1_countWider (y := mp_Y (kx_M A)) ok.2.2.1 W p1 r1.2 (fin 6 (by decide) e6 σ1 a1)), fun n6 => ⟨fun e7 => by rw [p.2.1.1]; exact fin 7 (by decide) e7 σ ag_refl, fun n7 => ⟨fun e8 => sp_X4_countDiffering p ok.2.2.1 (fin 8 (by decide) e8 σ ag_refl), fun n8 => ⟨fun e9 => by rw [p.1.2.1]; exact fin 9 (by decide) e9 σ ag_refl, fun n9 => ⟨fun e10 => by rw [p.1.2.2.1]; exact fin 10 (by decide) e10 σ ag_refl, fun n10 => ⟨fun e11 => by rw [p.1.2.2.2]; exact fin 11 (by decide) e11 σ ag_refl, fun n11 => h0 (fun j hj => match j, hj with | 0, _ => n0 | 1, _ => n1 | 2, _ => n2 | 3, _ => n3 | 4, _ => n4 | 5, _ => n5 | 6, _ => n6 | 7, _ => n7 | 8, _ => n8 | 9, _ => n9 | 10, _ => n10 | 11, _ => n11 | j + 12, h => absurd h (by omega))⟩⟩⟩⟩⟩⟩⟩⟩⟩⟩⟩⟩
theorem s_word {σ : ka_S} {A : ma_X} {v u : Int32} {Q : Int32 → ka_S → Prop} {X : Nat → ka_S → Prop} (hv : kv σ A) (h : ∀ j k, j < mp_N (kx_M A) → k < 8 → v = nI j → u = nI k → ∀ σ1, kv σ1 A → Q (nI (mt_word (kx_M A) j k)) σ1) (h0 : (∀ j, j < mp_N (kx_M A) → v ≠ nI j) → X 2 σ) (h1 : ∀ j, j < mp_N (kx_M A) → v = nI j → (∀ k, k < 8 → u ≠ nI k) → X 0 σ) : kw_X8_word σ v u Q X := by
  obtain ⟨ok, hc⟩ := hv
  have p := hc.2.1
  have W := ok.2.2.1.2.2.1
  have hN := ok.2.2.1.1
  unfold kw_X8_word
  refine sc_word ok hc (fun j hj e => ?_) h0
  have g1 := h1 j hj e
  have okw := ok.2.2.1.2.2.2.2.2.1 j hj
  have hw := p.2.2 j hj
  have v12 : vp_in (nI j) 12 := (kI_in (by omega)).mpr (by omega)
  have fin : ∀ k, k < 8 → u = nI k → ∀ σ1, ag xS σ σ1 → Q (nI (mt_word (kx_M A) j k)) σ1 := fun k hk e2 σ1 a1 => h j k hj hk e e2 σ1 ⟨ok, kc_S hc a1⟩
  subst e
  have ar : ∀ {Q : ka_S → Prop}, (∀ σ1, ag xS σ σ1 → rc_A σ1 (kx_M A) (mp_W (kx_M A)) (mp_Y (kx_M A)) → Q σ1) → kw_X8_arranged σ 0 Q :=
    fun hQ => sp_X8_arranged ok.2.2.1 p (fun σ1 a1 r1 => hQ σ1 (ag_mono a1 xa_S) r1)
  rw [nI_clamp (by omega)]
  have hE := okw.2.1
  have f5 := fun e5 : u = nI 5 => fin 5 (by decide) e5 σ ag_refl
  have ew : mt_word (kx_M A) j 5 = mw_E (mp_D (kx_M A) j) := rfl
  rw [ew] at f5
  have c5 : σ.1 (5, 0, j) 6 = (0 : Int32) ↔ mw_E (mp_D (kx_M A) j) = 0 := by rw [hw.1.2.2, show (0 : Int32) = nI 0 from rfl, nI_eq (by omega) (by decide)]
  rw [c5]
  exact ⟨fun e0 => by refine ⟨v12, ?_⟩; rw [hw.1.1]; exact fin 0 (by decide) e0 σ ag_refl, fun n0 => ⟨fun e1 => by refine ⟨v12, ?_⟩; rw [p.1.2.2.2]; exact sp_X7_width hw okw ok.2.2.1.2.2.2.2.1 (fin 1 (by decide) e1 σ ag_refl), fun n1 => ⟨fun e2 => ar (fun σ1 a1 r1 => ⟨v12, by rw [(r1.1.2 j hj).1]; exact fin 2 (by decide) e2 σ1 a1⟩), fun n2 => ⟨fun e3 => ar (fun σ1 a1 r1 => ⟨v12, by rw [(r1.1.2 j hj).2.1]; exact fin 3 (by decide) e3 σ1 a1⟩), fun n3 => ⟨fun e4 => ar (fun σ1 a1 r1 => ⟨v12, by rw [(r1.1.2 j hj).2.2.1]; exact fin 4 (by decide) e4 σ1 a1⟩), fun n4 => ⟨fun e5 => ⟨v12, fun z => by have g := f5 e5; rw [z] at g; exact g, fun z => by have g := f5 e5; rw [show mw_E (mp_D (kx_M A) j) = 1 by omega] at g; exact g⟩, fun n5 => ⟨fun e6 => ⟨v12, sp_X7_countGaps hw okw (fin 6 (by decide) e6 σ ag_refl)⟩, fun n6 => ⟨fun e7 => by refine ⟨v12, ?_⟩; rw [hw.1.2.1]; exact fin 7 (by decide) e7 σ ag_refl, fun n7 => g1 (fun j hj => match j, hj with | 0, _ => n0 | 1, _ => n1 | 2, _ => n2 | 3, _ => n3 | 4, _ => n4 | 5, _ => n5 | 6, _ => n6 | 7, _ => n7 | j + 8, h => absurd h (by omega))⟩⟩⟩⟩⟩⟩⟩⟩
theorem s_part {σ : ka_S} {A : ma_X} {v u x : Int32} {Q : Int32 → ka_S → Prop} {X : Nat → ka_S → Prop} (hv : kv σ A) (h : ∀ j p k, j < mp_N (kx_M A) → p < mw_S (mp_D (kx_M A) j) → k < 4 → v = nI j → u = nI p → x = nI k → ∀ σ1, kv σ1 A → Q (mi_part (kx_M A) j p k) σ1)
    (h0 : (∀ j p, j < mp_N (kx_M A) → p < mw_S (mp_D (kx_M A) j) → ¬ (v = nI j ∧ u = nI p)) → X 2 σ) (h1 : ∀ j p, j < mp_N (kx_M A) → p < mw_S (mp_D (kx_M A) j) → v = nI j → u = nI p → (∀ k, k < 4 → x ≠ nI k) → X 0 σ) : kw_X8_part σ v u x Q X := by
  obtain ⟨ok, hc⟩ := hv
  have p0 := hc.2.1
  have hN := ok.2.2.1.1
  unfold kw_X8_part
  refine sc_part ok hc (fun j p hj hp e e2 => ?_) h0
  have g1 := h1 j p hj hp e e2
  have fin : ∀ k, k < 4 → x = nI k → Q (mi_part (kx_M A) j p k) σ := fun k hk e3 => h j p k hj hp hk e e2 e3 σ ⟨ok, hc⟩
  subst e e2
  have okw := ok.2.2.1.2.2.2.2.2.1 j hj
  have hS := okw.1
  have okp := okw.2.2.2.2.1 p hp
  have hw := (p0.2.2 j hj).2.1 p hp
  have v12 : vp_in (nI j) 12 := (kI_in (by omega)).mpr (by omega)
  have v4 : vp_in (nI p) 4 := (kI_in (by omega)).mpr (by omega)
  rw [nI_clamp (by omega), nI_clamp (by omega)]
  exact ⟨fun e0 => by refine ⟨v12, v4, ?_⟩; rw [hw.1]; exact sp_X2_length okp.1.g (fin 0 (by decide) e0), fun n0 => ⟨fun e1 => by refine ⟨v12, v4, ?_⟩; rw [hw.2.1]; exact sp_X2_length okp.2.1 (fin 1 (by decide) e1), fun n1 => ⟨fun e2 => by refine ⟨v12, v4, ?_⟩; rw [hw.2.2]; exact fin 2 (by decide) e2, fun n2 => ⟨fun e3 => by refine ⟨v12, v4, ?_⟩; rw [hw.1]; exact sp_X3_find p0 ok.2.2.1 okp.1.g (fin 3 (by decide) e3), fun n3 => g1 (fun j hj => match j, hj with | 0, _ => n0 | 1, _ => n1 | 2, _ => n2 | 3, _ => n3 | j + 4, h => absurd h (by omega))⟩⟩⟩⟩
theorem s_letter {σ : ka_S} {A : ma_X} {v u x : Int32} {b : Nat} {Q : Int32 → ka_S → Prop} {X : Nat → ka_S → Prop} (hb : b ≤ 1) (hv : kv σ A) (h : ∀ j p d, j < mp_N (kx_M A) → p < mw_S (mp_D (kx_M A) j) → d < 2 ^ 31 → v = nI j → u = nI p → x = nI d → Q (mi_let (mw_PG (mp_D (kx_M A) j) b p) d) σ)
    (h0 : (∀ j p, j < mp_N (kx_M A) → p < mw_S (mp_D (kx_M A) j) → ¬ (v = nI j ∧ u = nI p)) → X 2 σ) (h1 : ∀ j p, j < mp_N (kx_M A) → p < mw_S (mp_D (kx_M A) j) → v = nI j → u = nI p → ¬ 0 ≤ x → X 0 σ) : kw_X8_letter σ v u (nI b) x Q X := sc_letter hb hv.1 hv.2 h h0 h1
theorem s_entry {σ : ka_S} {A : ma_X} {v x : Int32} {b : Nat} {Q : Int32 → ka_S → Prop} {X : Nat → ka_S → Prop} (hb : b ≤ 1) (hv : kv σ A) (h : ∀ j d, j < mp_L (kx_M A) → d < 2 ^ 31 → v = nI j → x = nI d → Q (mi_let (mp_AB (kx_M A) b j) d) σ)
    (h0 : (∀ j, j < mp_L (kx_M A) → v ≠ nI j) → X 2 σ) (h1 : ∀ j, j < mp_L (kx_M A) → v = nI j → ¬ 0 ≤ x → X 0 σ) : kw_X8_entry σ v (nI b) x Q X := sc_entry hb hv.1 hv.2 h h0 h1
theorem s_gap {σ : ka_S} {A : ma_X} {v : Int32} {Q : Int32 → ka_S → Prop} {X : Nat → ka_S → Prop} (hv : kv σ A) (h : ∀ g, g < 2 ^ 31 → v = nI g → Q (mt_gapP (kx_M A) (mp_N (kx_M A)) 0 g) σ) (h0 : ¬ 0 ≤ v → X 0 σ) : kw_X8_gap σ v Q X := by
  obtain ⟨ok, hc⟩ := hv
  refine ⟨fun q => ?_, fun q => h0 q⟩
  obtain ⟨g, hg, e⟩ := kI_nn q
  have z := h g hg e
  subst e
  exact sp_X4_placeOfGap hc.2.1 ok.2.2.1 hg z
theorem s_row {σ : ka_S} {A : ma_X} {v u : Int32} {Q : Int32 → ka_S → Prop} {X : Nat → ka_S → Prop} (hv : kv σ A) (h : ∀ r k, r < mt_rows (kx_M A) → k < 3 → v = nI r → u = nI k → ∀ σ1, kv σ1 A → Q (nI (mt_row (kx_M A) r k)) σ1) (h0 : (∀ r, r < mt_rows (kx_M A) → v ≠ nI r) → ∀ σ1, kv σ1 A → X 2 σ1) (h1 : ∀ r, r < mt_rows (kx_M A) → v = nI r → (∀ k, k < 3 → u ≠ nI k) → ∀ σ1, kv σ1 A → X 0 σ1) : kw_X8_row σ v u Q X := by
  obtain ⟨ok, hc⟩ := hv
  unfold kw_X8_row
  refine sc_isRow ok hc (fun r σ1 hr e a1 p1 r1 => ?_) (fun hv σ1 a1 => h0 hv σ1 ⟨ok, kc_S hc a1⟩)
  have W := ok.2.2.1.2.2.1
  have g1 := fun z => h1 r hr e z σ1 ⟨ok, kc_S hc a1⟩
  have fin : ∀ k, k < 3 → u = nI k → Q (nI (mt_row (kx_M A) r k)) σ1 := fun k hk e2 => h r k hr hk e e2 σ1 ⟨ok, kc_S hc a1⟩
  subst e
  exact ⟨fun e0 => sp_X1_kindOfRow ok.2.2.1 W p1 r1 hr (fin 0 (by decide) e0), fun n0 => ⟨fun e1 => sp_X1_lengthOfRow ok.2.2.1 p1 r1 hr (fin 1 (by decide) e1), fun n1 => ⟨fun e2 => sp_X1_sentenceOfRow ok.2.2.1 W p1 r1 hr (fin 2 (by decide) e2),
    fun n2 => g1 (fun j hj => match j, hj with | 0, _ => n0 | 1, _ => n1 | 2, _ => n2 | j + 3, h => absurd h (by omega))⟩⟩⟩
theorem s_at {σ : ka_S} {A : ma_X} {v u : Int32} {Q : Int32 → ka_S → Prop} {X : Nat → ka_S → Prop} (hv : kv σ A) (h : ∀ r c, r < mt_rows (kx_M A) → c < 2 ^ 31 → v = nI r → u = nI c → ∀ σ1, kv σ1 A → Q (mr_code (kx_M A) (mp_W (kx_M A)) (mp_Y (kx_M A)) r c) σ1) (h0 : (∀ r, r < mt_rows (kx_M A) → v ≠ nI r) → ∀ σ1, kv σ1 A → X 2 σ1) (h1 : ∀ r, r < mt_rows (kx_M A) → v = nI r → ¬ 0 ≤ u → ∀ σ1, kv σ1 A → X 0 σ1) : kw_X8_at σ v u Q X := by
  obtain ⟨ok, hc⟩ := hv
  unfold kw_X8_at
  refine sc_isRow ok hc (fun r σ1 hr e a1 p1 r1 => ⟨fun q => ?_, fun q => h1 r hr e q σ1 ⟨ok, kc_S hc a1⟩⟩) (fun hv σ1 a1 => h0 hv σ1 ⟨ok, kc_S hc a1⟩)
  obtain ⟨c, hc2, e2⟩ := kI_nn q
  have z := h r c hr hc2 e e2 σ1 ⟨ok, kc_S hc a1⟩
  subst e e2
  exact sp_X1_codeInRow ok.2.2.1 p1 r1 hr hc2 z
theorem s_insert {σ : ka_S} {A : ma_X} {v : Int32} {Q : Int32 → ka_S → Prop} {X : Nat → ka_S → Prop} (hv : kv σ A) (h : ∀ j, j < mp_N (kx_M A) + 1 → v = nI j → kx_e A = -9 → mp_N (kx_M A) + kx_R A ≤ 12 → ∀ σ1, kv σ1 (kx_ins A j) → Q (nI (mp_N (kx_M A) + kx_R A)) σ1)
    (h0 : (∀ j, j < mp_N (kx_M A) + 1 → v ≠ nI j) → X 2 σ) (h1 : ∀ j, j < mp_N (kx_M A) + 1 → v = nI j → ¬ (kx_e A = -9 ∧ mp_N (kx_M A) + kx_R A ≤ 12) → ∀ σ1, kv σ1 A → X 1 σ1) : kw_X8_insert σ v Q X :=
  sc_insert hv.1 hv.2 (fun j σ1 hj e e9 h12 a1 c1 => h j hj e e9 h12 σ1 ⟨ko_act hv.1 (mp_insert_ok hv.1.2.2.1 (by omega) h12 (kx_W_ok hv.1 e9)), c1⟩) h0 (fun j σ1 hj e hn a1 c1 => h1 j hj e hn σ1 ⟨hv.1, c1⟩)
theorem s_remove {σ : ka_S} {A : ma_X} {v : Int32} {Q : Int32 → ka_S → Prop} {X : Nat → ka_S → Prop} (hv : kv σ A) (h : ∀ j, j < mp_N (kx_M A) → v = nI j → ∀ σ1, kv σ1 (kx_act A (mp_remove (kx_M A) j)) → Q (nI (mp_N (kx_M A) - 1)) σ1) (h0 : (∀ j, j < mp_N (kx_M A) → v ≠ nI j) → X 2 σ) : kw_X8_remove σ v Q X := by
  obtain ⟨ok, hc⟩ := hv
  unfold kw_X8_remove
  refine sc_word ok hc (fun j hj e => sc_remember ok hc (fun σ1 a1 c1 => ?_)) h0
  have z := h j hj e
  subst e
  refine sp_X4_dropWord c1.2.1 ok.2.2.1 hj (fun σ2 a2 r2 => ?_)
  rw [r2.1.1]
  exact z σ2 ⟨ko_act ok (mp_remove_ok ok.2.2.1 hj), kc_page c1 a2 r2⟩
theorem s_end {σ : ka_S} {A : ma_X} {v : Int32} {Q : Int32 → ka_S → Prop} {X : Nat → ka_S → Prop} (hv : kv σ A) (h : ∀ j, j < mp_N (kx_M A) → v = nI j → ∀ σ1, kv σ1 (kx_act A (mp_setD (kx_M A) j (mw_end (mp_D (kx_M A) j)))) → Q (nI (mt_sent (mp_setD (kx_M A) j (mw_end (mp_D (kx_M A) j))))) σ1) (h0 : (∀ j, j < mp_N (kx_M A) → v ≠ nI j) → X 2 σ) : kw_X8_end σ v Q X := by
  obtain ⟨ok, hc⟩ := hv
  have hN := ok.2.2.1.1
  unfold kw_X8_end
  refine sc_word ok hc (fun j hj e => sc_remember ok hc (fun σ1 a1 c1 => ?_)) h0
  have z := h j hj e
  subst e
  rw [nI_clamp (by omega), forall_eq]
  have ok' := mp_setD_ok (i := j) ok.2.2.1 (mw_end_ok (ok.2.2.1.2.2.2.2.2.1 j hj))
  have a2 : ag (xw 0 j) σ1 (ka_wI σ1 (5, 0, j) 6 1) := ag_I ag_refl (xw_k (by decide) (by decide))
  have r2 := rc_P_setD c1.2.1 a2 (rc_W_end (c1.2.1.2.2 j hj))
  exact ⟨(kI_in (by omega)).mpr (by omega), sp_X4_countSentences r2 ok' (z _ ⟨ko_act ok ok', kc_page c1 (ag_mono a2 xw_p) r2⟩)⟩
theorem s_join {σ : ka_S} {A : ma_X} {v : Int32} {Q : Int32 → ka_S → Prop} {X : Nat → ka_S → Prop} (hv : kv σ A) (h : ∀ j, j < mp_N (kx_M A) → v = nI j → ∀ σ1, kv σ1 (kx_act A (mp_setD (kx_M A) j (mw_join (mp_D (kx_M A) j)))) → Q (nI (mt_sent (mp_setD (kx_M A) j (mw_join (mp_D (kx_M A) j))))) σ1) (h0 : (∀ j, j < mp_N (kx_M A) → v ≠ nI j) → X 2 σ) : kw_X8_join σ v Q X := by
  obtain ⟨ok, hc⟩ := hv
  have hN := ok.2.2.1.1
  unfold kw_X8_join
  refine sc_word ok hc (fun j hj e => sc_remember ok hc (fun σ1 a1 c1 => ?_)) h0
  have z := h j hj e
  subst e
  rw [nI_clamp (by omega)]
  have ok' := mp_setD_ok (i := j) ok.2.2.1 (mw_join_ok (ok.2.2.1.2.2.2.2.2.1 j hj))
  refine ⟨(kI_in (by omega)).mpr (by omega), sp_X7_dropEnd (c1.2.1.2.2 j hj) (fun σ2 a2 r2 => ?_)⟩
  have r3 := rc_P_setD c1.2.1 a2 r2
  exact sp_X4_countSentences r3 ok' (z _ ⟨ko_act ok ok', kc_page c1 (ag_mono a2 xw_p) r3⟩)
theorem s_setFree {σ : ka_S} {A : ma_X} {v : Int32} {Q : Int32 → ka_S → Prop} {X : Nat → ka_S → Prop} (hv : kv σ A) (h : ∀ j, j < mp_N (kx_M A) → v = nI j → mc_free (kx_n A) (kx_t A) → ∀ σ1, kv σ1 (kx_act A (mp_setD (kx_M A) j (mw_free (mp_D (kx_M A) j) (kx_n A) (kx_t A)))) → Q (nI (kx_n A)) σ1) (h0 : (∀ j, j < mp_N (kx_M A) → v ≠ nI j) → X 2 σ) (h1 : ∀ j, j < mp_N (kx_M A) → v = nI j → ¬ mc_free (kx_n A) (kx_t A) → X 1 σ) : kw_X8_setFree σ v Q X := by
  obtain ⟨ok, hc⟩ := hv
  have hN := ok.2.2.1.1
  unfold kw_X8_setFree
  refine sc_word ok hc (fun j hj e => ?_) h0
  have z := h j hj e
  have z1 := h1 j hj e
  subst e
  refine sp_X6_isFreeLine hc.1 ok.1 ok.2.1 (fun hf => ⟨fun q => absurd q (by decide), fun _ => sc_remember ok hc (fun σ1 a1 c1 => ?_)⟩) (fun hf => ⟨fun _ => z1 hf, fun q => absurd rfl q⟩)
  rw [nI_clamp (by omega)]
  have v12 : vp_in (nI j) 12 := (kI_in (by omega)).mpr (by omega)
  have ok' := mp_setD_ok (i := j) ok.2.2.1 (mw_free_ok (ok.2.2.1.2.2.2.2.2.1 j hj) hf.1 hf.2)
  refine ⟨v12, sp_X7_takeFree (c1.2.1.2.2 j hj) c1.1 hf.1 (fun σ2 a2 r2 => ⟨v12, ?_⟩)⟩
  have r3 := rc_P_setD c1.2.1 a2 r2
  rw [show σ2.1 (5, 0, j) 5 = nI (kx_n A) from r2.1.2.1]
  exact z hf σ2 ⟨ko_act ok ok', kc_page c1 (ag_mono a2 xw_p) r3⟩
theorem s_setGloss {σ : ka_S} {A : ma_X} {v u : Int32} {Q : Int32 → ka_S → Prop} {X : Nat → ka_S → Prop} (hv : kv σ A) (h : ∀ j p, j < mp_N (kx_M A) → p < mw_S (mp_D (kx_M A) j) → v = nI j → u = nI p → mc_gloss (kx_n A) (kx_t A) → ∀ σ1, kv σ1 (kx_act A (mp_setG (kx_M A) j p (ma_tx (kx_t A) (kx_n A)))) → Q (nI (mt_gapsP (mp_setG (kx_M A) j p (ma_tx (kx_t A) (kx_n A))))) σ1)
    (h0 : (∀ j p, j < mp_N (kx_M A) → p < mw_S (mp_D (kx_M A) j) → ¬ (v = nI j ∧ u = nI p)) → X 2 σ) (h1 : ∀ j p, j < mp_N (kx_M A) → p < mw_S (mp_D (kx_M A) j) → v = nI j → u = nI p → ¬ mc_gloss (kx_n A) (kx_t A) → X 1 σ) : kw_X8_setGloss σ v u Q X := by
  obtain ⟨ok, hc⟩ := hv
  have hN := ok.2.2.1.1
  unfold kw_X8_setGloss
  refine sc_part ok hc (fun j p hj hp e e2 => ?_) h0
  have z := h j p hj hp e e2
  have z1 := h1 j p hj hp e e2
  subst e e2
  have hS := (ok.2.2.1.2.2.2.2.2.1 j hj).1
  refine sp_X6_isGloss hc.1 ok.1 ok.2.1 (fun hf => ⟨fun q => absurd q (by decide), fun _ => sc_remember ok hc (fun σ1 a1 c1 => ?_)⟩) (fun hf => ⟨fun _ => z1 hf, fun q => absurd rfl q⟩)
  have g := ma_tx_g hf (Nat.le_refl (kx_n A))
  have ok' := mp_setG_ok (p := p) ok.2.2.1 hj g
  refine ⟨(kI_in (by omega)).mpr (by omega), sp_X6_letters c1.1 hf ⟨(kI_in (by omega)).mpr (by omega), ?_⟩⟩
  rw [nI_clamp (by omega), nI_clamp (by omega), forall_eq]
  have a2 : ag (xp 0) σ1 (ka_wL σ1 (7, 0, j) p (lN (ma_C (ma_tx (kx_t A) (kx_n A))))) := ag_L ag_refl (xp_k (by decide))
  have r2 := rc_P_setG (p := p) (g := ma_tx (kx_t A) (kx_n A)) c1.2.1 hj rfl
  exact sp_X4_countGaps r2 ok' (z hf _ ⟨ko_act ok ok', kc_page c1 a2 r2⟩)
def mp_set (M : ma_P) (k x : Nat) : ma_P := if k = 9 then mp_setW M x else if k = 10 then mp_setS M x else mp_setY M x
def mc_sx (k x : Nat) : Prop := (k = 9 ∧ 10 ≤ x ∧ x ≤ 60) ∨ (k = 10 ∧ 1 ≤ x ∧ x ≤ 3) ∨ (k = 11 ∧ x ≤ 1)
theorem mp_set_ok {M : ma_P} {k x : Nat} (ok : mp_ok M) (h : mc_sx k x) : mp_ok (mp_set M k x) := by
  rcases h with ⟨rfl, h⟩ | ⟨rfl, h⟩ | ⟨rfl, h⟩
  · exact mp_setW_ok ok h
  · exact mp_setS_ok ok h
  · exact mp_setY_ok ok h
theorem s_set {σ : ka_S} {A : ma_X} {v u : Int32} {Q : Int32 → ka_S → Prop} {X : Nat → ka_S → Prop} (hv : kv σ A) (h : ∀ k x, mc_sx k x → v = nI k → u = nI x → ∀ σ1, kv σ1 (kx_act A (mp_set (kx_M A) k x)) → Q (nI (mt_about (kx_M A) k)) σ1) (h0 : ¬ mc_set v u → X 0 σ) : kw_X8_set σ v u Q X := by
  obtain ⟨ok, hc⟩ := hv
  unfold kw_X8_set
  refine sp_X4_allows (fun w => ⟨fun q => absurd q (by decide), fun _ => sc_remember ok hc (fun σ1 a1 c1 => ?_)⟩) (fun w => ⟨fun _ => h0 w, fun q => absurd rfl q⟩)
  rcases w with w | w | w
  · obtain ⟨e, w⟩ := w
    obtain ⟨x, hx, e2⟩ := mc_9 (x := u) (Or.inl ⟨rfl, w⟩)
    have z := h 9 x (Or.inl ⟨rfl, hx⟩) e e2
    subst e e2
    exact sp_X4_change9 c1.2.1 (fun σ2 a2 r2 => z σ2 ⟨ko_act ok (mp_setW_ok ok.2.2.1 hx), kc_page c1 a2 r2⟩)
  · obtain ⟨e, w⟩ := w
    obtain ⟨x, hx, e2⟩ := mc_10 (x := u) (Or.inr (Or.inl ⟨rfl, w⟩))
    have z := h 10 x (Or.inr (Or.inl ⟨rfl, hx⟩)) e e2
    subst e e2
    exact sp_X4_change10 c1.2.1 (fun σ2 a2 r2 => z σ2 ⟨ko_act ok (mp_setS_ok ok.2.2.1 hx), kc_page c1 a2 r2⟩)
  · obtain ⟨e, w⟩ := w
    obtain ⟨x, hx, e2⟩ := mc_11 (x := u) (Or.inr (Or.inr ⟨rfl, w⟩))
    have z := h 11 x (Or.inr (Or.inr ⟨rfl, hx⟩)) e e2
    subst e e2
    exact sp_X4_change11 c1.2.1 (fun σ2 a2 r2 => z σ2 ⟨ko_act ok (mp_setY_ok ok.2.2.1 hx), kc_page c1 a2 r2⟩)
theorem s_learn {σ : ka_S} {A : ma_X} {v u : Int32} {Q : Int32 → ka_S → Prop} {X : Nat → ka_S → Prop} (hv : kv σ A) (h : ∀ j p, j < mp_N (kx_M A) → p < mw_S (mp_D (kx_M A) j) → v = nI j → u = nI p → mc_learn (kx_M A) j p → ∀ σ1, kv σ1 (kx_act A (mp_learn (kx_M A) (mw_P (mp_D (kx_M A) j) p) (mw_G (mp_D (kx_M A) j) p))) → Q (nI (mp_L (mp_learn (kx_M A) (mw_P (mp_D (kx_M A) j) p) (mw_G (mp_D (kx_M A) j) p)))) σ1)
    (h0 : (∀ j p, j < mp_N (kx_M A) → p < mw_S (mp_D (kx_M A) j) → ¬ (v = nI j ∧ u = nI p)) → X 2 σ) (h1 : ∀ j p, j < mp_N (kx_M A) → p < mw_S (mp_D (kx_M A) j) → v = nI j → u = nI p → ¬ mc_learn (kx_M A) j p → X 1 σ) : kw_X8_learn σ v u Q X := by
  obtain ⟨ok, hc⟩ := hv
  have hN := ok.2.2.1.1
  unfold kw_X8_learn
  refine sc_part ok hc (fun j p hj hp e e2 => ?_) h0
  have z := h j p hj hp e e2
  have z1 := h1 j p hj hp e e2
  subst e e2
  have okw := ok.2.2.1.2.2.2.2.2.1 j hj
  have hS := okw.1
  have okp := okw.2.2.2.2.1 p hp
  refine sp_X4_canLearnV hc.2.1 ok.2.2.1 (fun j' p' hj' hp' ej ep hl => ⟨fun q => absurd q (by decide), fun _ => sc_remember ok hc (fun σ1 a1 c1 => ?_)⟩) (fun hn => ⟨fun _ => z1 (fun q => hn j p hj hp q ⟨rfl, rfl⟩), fun q => absurd rfl q⟩)
  have hS' := (ok.2.2.1.2.2.2.2.2.1 j' hj').1
  rw [nI_eq (by omega) (by omega)] at ej ep
  subst ej ep
  refine sp_X4_learnPart c1.2.1 ok.2.2.1 hj hp hl (fun σ2 a2 r2 => ?_)
  rw [r2.2.1.1]
  exact z hl σ2 ⟨ko_act ok (mp_learn_ok ok.2.2.1 okp.1 okp.2.1 hl.1 hl.2), kc_page c1 a2 r2⟩
theorem s_forget {σ : ka_S} {A : ma_X} {v : Int32} {Q : Int32 → ka_S → Prop} {X : Nat → ka_S → Prop} (hv : kv σ A) (h : ∀ j, j < mp_L (kx_M A) → v = nI j → ∀ σ1, kv σ1 (kx_act A (mp_forget (kx_M A) j)) → Q (nI (mp_L (mp_forget (kx_M A) j))) σ1) (h0 : (∀ j, j < mp_L (kx_M A) → v ≠ nI j) → X 2 σ) : kw_X8_forget σ v Q X := by
  obtain ⟨ok, hc⟩ := hv
  unfold kw_X8_forget
  refine sc_isEntry ok hc (fun j hj e => sc_remember ok hc (fun σ1 a1 c1 => ?_)) h0
  have z := h j hj e
  subst e
  refine sp_X3_drop c1.2.1 ok.2.2.1 hj (fun σ2 a2 r2 => ?_)
  rw [r2.2.1.1]
  exact z σ2 ⟨ko_act ok (mp_forget_ok ok.2.2.1 hj), kc_page c1 a2 r2⟩
theorem s_undo {σ : ka_S} {A : ma_X} {Q : Int32 → ka_S → Prop} {X : Nat → ka_S → Prop} (hv : kv σ A) (h : kx_h A ≠ 0 → ∀ σ1, kv σ1 (kx_undo A) → Q (nI (kx_h A - 1)) σ1) (h0 : kx_h A = 0 → X 1 σ) : kw_X8_undo σ Q X := by
  obtain ⟨ok, hc⟩ := hv
  have h14 := ok.2.2.2.1
  unfold kw_X8_undo
  obtain ⟨od, o1, o2⟩ := id hc.2.2.1
  rw [o2.1.1]
  by_cases hz : kx_h A = 0
  · exact ⟨fun _ => h0 hz, fun q => absurd (by rw [hz]; rfl) q⟩
  · refine ⟨fun q => absurd q (nI_ne0 (by omega) (by omega)), fun _ => ?_⟩
    obtain ⟨n, hn⟩ : ∃ n, kx_h A = n + 1 := ⟨kx_h A - 1, by omega⟩
    have o3 := o2
    rw [hn] at o3
    refine sp_X0_takeBack (by decide) o3 (ok.2.2.2.2.1 n (by omega)) (by omega) o1 (fun σ1 a1 r1 r2 => ?_)
    have c1 : kc σ1 (kx_undo A) := by
      obtain ⟨h1, h2, h3, h5⟩ := hc
      have n0 : ∀ κ o i m, κ ≠ 20 → o ≠ 0 ∨ 10 ≤ κ → ¬ (fun (k : ka_K) (m : Nat) => k.1 = 20 ∨ xp 0 k m) (κ, o, i) m := fun κ o i m hk hk2 q => by
        rcases q with q | q
        · exact hk q
        · have q1 : o = 0 := q.1
          have q2 : κ ≤ 9 := q.2
          omega
      refine ⟨⟨(a1 _ _ (n0 10 0 0 1 (by decide) (Or.inr (by decide)))).1.trans h1.1, fun k hk => (a1 _ _ (n0 11 0 0 k (by decide) (Or.inr (by decide)))).1.trans (h1.2 k hk)⟩, ?_, ⟨od, o1, ?_⟩, fun s hs => ⟨(a1 _ _ (n0 24 0 0 s (by decide) (Or.inr (by decide)))).1.trans (h5 s hs).1, fun hb => rc_P_ag ((h5 s hs).2 hb) a1 (fun κ i n hk => n0 κ (s + 2) i n (by omega) (Or.inl (by omega)))⟩⟩
      · show rc_P σ1 0 (kx_H A (kx_h A - 1))
        rw [hn]
        exact r2
      · show rc_H σ1 (kx_h A - 1) od (kx_H A)
        rw [hn]
        exact r1
    rw [r1.1.1, show n = kx_h A - 1 by omega]
    exact h hz σ1 ⟨ko_undo ok hz, c1⟩
theorem s_widthFor {σ : ka_S} {A : ma_X} {v : Int32} {Q : Int32 → ka_S → Prop} {X : Nat → ka_S → Prop} (hv : kv σ A) (h : ∀ r, r < 100 → v = nI r → ∀ σ1, kv σ1 A → Q (mt_wf (kx_M A) r 51 10) σ1) (h0 : (∀ r, r < 100 → v ≠ nI r) → X 0 σ) : kw_X8_widthFor σ v Q X := by
  obtain ⟨ok, hc⟩ := hv
  unfold kw_X8_widthFor
  refine ⟨fun q => ?_, fun q => ⟨fun q2 => ?_, fun q2 => ?_⟩⟩
  · exact h0 (fun j hj e => absurd q (by rw [e]; exact nI_pos (by omega)))
  · obtain ⟨r, hr, e⟩ := nI_of q
    have z := fun hr => h r hr e
    subst e
    rw [show (99 : Int32) = nI 99 from rfl, nI_leI hr (by decide)] at q2
    rw [hc.2.1.1.2.2.2]
    refine sp_X1_measure ok.2.2.1 hc.2.1 ok.2.2.1.2.2.2.2.1 (fun σ1 a1 b1 => ⟨52, ?_⟩)
    refine sp_X8_widthFor_42 (σ0 := σ) ok.2.2.1 hc.2.1 hr 52 10 51 σ1 rfl (by decide) (by decide) a1 b1 (fun σ2 a2 => ?_)
    exact z (by omega) σ2 ⟨ok, kc_S hc (ag_mono a2 xa_S)⟩
  · refine h0 (fun j hj e => q2 ?_)
    rw [e, show (99 : Int32) = nI 99 from rfl, nI_leI (by omega) (by decide)]
    omega
theorem s_rowsWith {σ : ka_S} {A : ma_X} {v u : Int32} {Q : Int32 → ka_S → Prop} {X : Nat → ka_S → Prop} (hv : kv σ A) (h : ∀ w y, 10 ≤ w ∧ w ≤ 60 → y ≤ 1 → v = nI w → u = nI y → ∀ σ1, kv σ1 A → Q (nI (tr (mt_lay (kx_M A) w y (mp_N (kx_M A))))) σ1) (h0 : ¬ (mc_set 9 v ∧ mc_set 11 u) → X 0 σ) : kw_X8_rowsWith σ v u Q X := by
  obtain ⟨ok, hc⟩ := hv
  unfold kw_X8_rowsWith
  refine sp_X4_allows (fun w => ⟨fun q => absurd q (by decide), fun _ => sp_X4_allows (fun w2 => ⟨fun q => absurd q (by decide), fun _ => ?_⟩) (fun w2 => ⟨fun _ => h0 (fun z => w2 z.2), fun q => absurd rfl q⟩)⟩) (fun w => ⟨fun _ => h0 (fun z => w z.1), fun q => absurd rfl q⟩)
  obtain ⟨a, ha, e⟩ := mc_9 w
  obtain ⟨b, hb, e2⟩ := mc_11 w2
  have z := h a b ha hb e e2
  subst e e2
  refine sp_X1_measure ok.2.2.1 hc.2.1 hb (fun σ1 a1 b1 => sp_X1_wrap (y := b) ok.2.2.1 (rc_P_xa hc.2.1 a1) ha b1 (fun σ2 a2 r2 => ?_))
  rw [r2.1.1.2]
  exact z σ2 ⟨ok, kc_S hc (ag_mono (ag_trans a1 a2) xa_S)⟩
theorem s_script {σ : ka_S} {A : ma_X} {v : Int32} {x : Int64} {Q : Int32 → ka_S → Prop} {X : Nat → ka_S → Prop} (hv : kv σ A) (h : ∀ n s, mc_scr v x n s → ∀ σ1, kv σ1 A → Q (mi_script s n n 0 (kx_M A)) σ1) (h0 : (∀ n s, ¬ mc_scr v x n s) → X 0 σ) : kw_X8_runScript σ v x Q X :=
  sc_script hv.1 hv.2 (fun n s σ1 z a1 => h n s z σ1 (kv_S hv a1)) h0
theorem s_simulate {σ : ka_S} {A : ma_X} {v : Int32} {x : Int64} {Q : Int32 → ka_S → Prop} {X : Nat → ka_S → Prop} (hv : kv σ A) (h : ∀ n, 1 ≤ n ∧ n ≤ 99 → v = nI n → ∀ σ1, kv σ1 A → Q (mi_sim n x (kx_M A) 0) σ1) (h0 : (∀ n, 1 ≤ n → n ≤ 99 → v ≠ nI n) → X 0 σ) : kw_X8_simulate σ x v Q X := by
  obtain ⟨ok, hc⟩ := hv
  unfold kw_X8_simulate
  refine ⟨fun q => ?_, fun q => ⟨fun q2 => ?_, fun q2 => ?_⟩⟩
  · refine h0 (fun j h1 h2 e => ?_)
    rw [e, show (1 : Int32) = nI 1 from rfl, nI_ltI (by omega) (by decide)] at q
    omega
  · have hv : ¬ v < 0 := fun z => by
      have g1 := Int32.lt_iff_toInt_lt.mp z
      rw [show (0 : Int32).toInt = 0 from by decide] at g1
      refine q (Int32.lt_iff_toInt_lt.mpr ?_)
      rw [show (1 : Int32).toInt = 1 from by decide]
      omega
    obtain ⟨n, hn, e⟩ := nI_of hv
    have z := fun hh => h n hh e
    subst e
    rw [show (1 : Int32) = nI 1 from rfl, nI_ltI hn (by decide)] at q
    rw [show (99 : Int32) = nI 99 from rfl, nI_leI hn (by decide)] at q2
    refine sp_X4_copyFrom (by decide) hc.2.1 ok.2.2.1 (fun σ1 a1 r1 => ⟨100, ?_⟩)
    refine sp_X8_simulate_42 (σ0 := σ) q2 100 0 n x 0 (kx_M A) σ1 (Nat.zero_add _) (by omega) (ag_mono a1 xp_tr) ok.2.2.1 r1 (fun σ2 a2 => ?_)
    exact z ⟨by omega, q2⟩ σ2 ⟨ok, kc_S hc (ag_mono a2 xtr_S)⟩
  · refine h0 (fun j h1 h2 e => q2 ?_)
    rw [e, show (99 : Int32) = nI 99 from rfl, nI_leI (by omega) (by decide)]
    omega
theorem s_save {σ : ka_S} {A : ma_X} {v : Int32} {Q : Int32 → ka_S → Prop} {X : Nat → ka_S → Prop} (hv : kv σ A) (h : ∀ s, s < 2 → v = nI s → ∀ σ1, kv σ1 (kx_save A s) → Q (nI (mp_N (kx_M A))) σ1) (h0 : (∀ s, s < 2 → v ≠ nI s) → X 2 σ) : kw_X8_save σ v Q X := by
  obtain ⟨ok, hc⟩ := hv
  unfold kw_X8_save
  refine sc_slot (fun s hs e => ?_) h0
  have z := h s hs e
  subst e
  have v2 : vp_in (nI s) 2 := (kI_in (by omega)).mpr hs
  rw [nI_clamp (by omega)]
  refine ⟨v2, sp_X4_copyFrom (by omega) hc.2.1 ok.2.2.1 (fun σ1 a1 r1 => ⟨v2, ?_⟩)⟩
  rw [forall_eq]
  have c2 : kc (ka_wI σ1 (24, 0, 0) s 1) (kx_save A s) := by
    obtain ⟨h1, h2, ⟨od, h3, h4⟩, h5⟩ := hc
    have a2 : ag (fun (k : ka_K) (m : Nat) => xp (s + 2) k m ∨ (k = (24, 0, 0) ∧ m = s)) σ (ka_wI σ1 (24, 0, 0) s 1) := ag_I (ag_mono a1 (fun k m q => Or.inl q)) (Or.inr ⟨rfl, rfl⟩)
    have n0 : ∀ κ o i m, κ ≠ 24 → o ≠ s + 2 ∨ 10 ≤ κ → ¬ (fun (k : ka_K) (m : Nat) => xp (s + 2) k m ∨ (k = (24, 0, 0) ∧ m = s)) (κ, o, i) m := fun κ o i m hk hk2 q => by
      rcases q with q | q
      · have q1 : o = s + 2 := q.1
        have q2 : κ ≤ 9 := q.2
        omega
      · exact hk (congrArg Prod.fst q.1)
    refine ⟨⟨(a2 _ _ (n0 10 0 0 1 (by decide) (Or.inr (by decide)))).1.trans h1.1, fun k hk => (a2 _ _ (n0 11 0 0 k (by decide) (Or.inr (by decide)))).1.trans (h1.2 k hk)⟩, rc_P_ag h2 a2 (fun κ i n hk => n0 κ 0 i n (by omega) (Or.inl (by omega))),
      ⟨od, h3, rc_H_ag h4 a2 (fun j => n0 20 0 0 j (by decide) (Or.inr (by decide))) (fun κ o i m hk _ _ => n0 κ o i m (by omega) (Or.inl (by omega)))⟩, fun j hj => ⟨?_, fun hb => ?_⟩⟩
    · show _ = nI (if j = s then 1 else kx_b A j)
      by_cases q : j = s
      · rw [if_pos q, q]
        simp only [st_I, st_L, st_I2, st_L1, Prod.mk.injEq, Nat.reduceEqDiff, false_and, and_false, true_and, and_true, and_self, if_false, if_true, reduceIte]
        rfl
      · rw [if_neg q]
        refine (a2 (24, 0, 0) j (fun z => ?_)).1.trans (h5 j hj).1
        rcases z with z | z
        · exact absurd (show 24 ≤ 9 from z.2) (by decide)
        · exact q z.2
    · have hb' : (if j = s then 1 else kx_b A j) = 1 := hb
      show rc_P _ (j + 2) (if j = s then kx_M A else kx_B A j)
      by_cases q : j = s
      · rw [if_pos q, q]
        exact rc_P_ag (X := fun k _ => k.1 = 24) r1 (ag_I ag_refl rfl) (fun κ i n hk z => by
          have : κ = 24 := z
          omega)
      · rw [if_neg q] at hb' ⊢
        exact rc_P_ag ((h5 j hj).2 hb') a2 (fun κ i n hk => n0 κ (j + 2) i n (by omega) (Or.inl (by omega)))
  rw [c2.2.1.1.1]
  exact z _ ⟨ko_save ok, c2⟩
theorem s_restore {σ : ka_S} {A : ma_X} {v : Int32} {Q : Int32 → ka_S → Prop} {X : Nat → ka_S → Prop} (hv : kv σ A) (h : ∀ s, s < 2 → v = nI s → kx_b A s = 1 → ∀ σ1, kv σ1 (kx_rest A s) → Q (nI (mp_N (kx_B A s))) σ1) (h0 : (∀ s, s < 2 → v ≠ nI s) → X 2 σ) (h1 : ∀ s, s < 2 → v = nI s → kx_b A s = 0 → X 1 σ) : kw_X8_restore σ v Q X := by
  obtain ⟨ok, hc⟩ := hv
  unfold kw_X8_restore
  refine sc_slot (fun s hs e => ?_) h0
  have z := h s hs e
  have z1 := h1 s hs e
  subst e
  have v2 : vp_in (nI s) 2 := (kI_in (by omega)).mpr hs
  have hb1 := (ok.2.2.2.2.2 s hs).1
  have hb2 := (hc.2.2.2 s hs).1
  rw [nI_clamp (by omega), hb2, show (0 : Int32) = nI 0 from rfl, nI_eq (by omega) (by decide)]
  refine ⟨v2, fun q => z1 q, fun q => ⟨v2, ?_⟩⟩
  have hb : kx_b A s = 1 := by omega
  have okB := (ok.2.2.2.2.2 s hs).2 hb
  refine sp_X4_copyFrom (by omega) ((hc.2.2.2 s hs).2 hb) okB (fun σ1 a1 r1 => sp_X0_clear (H := kx_H A) (fun σ2 a2 r2 => ?_))
  have c1 := kc_page hc a1 r1
  have c2 : kc σ2 (kx_rest A s) := kc_hist c1 (ag_mono a2 (fun k m q => Or.inl q)) (by decide) r2
  rw [c2.2.1.1.1]
  exact z hb σ2 ⟨ko_rest ok hs hb, c2⟩
