/-! ===== calls that tell: about, word, part ===== -/
theorem sc_word {σ : ka_S} {A : ma_X} {v : Int32} {Q : ka_S → Prop} {X : Nat → ka_S → Prop} (ok : ko A) (hc : kc σ A) (h1 : ∀ j, j < mp_N (kx_M A) → v = nI j → Q σ) (h0 : (∀ j, j < mp_N (kx_M A) → v ≠ nI j) → X 2 σ) : kw_X8_requireWord σ v Q X :=
  sp_X4_hasWordV hc.2.1 ok.2.2.1 (fun i hi e => ⟨fun q => absurd q (by decide), fun _ => h1 i hi e⟩) (fun hv => ⟨fun _ => h0 hv, fun q => absurd rfl q⟩)
theorem sc_part {σ : ka_S} {A : ma_X} {v u : Int32} {Q : ka_S → Prop} {X : Nat → ka_S → Prop} (ok : ko A) (hc : kc σ A) (h1 : ∀ j p, j < mp_N (kx_M A) → p < mw_S (mp_D (kx_M A) j) → v = nI j → u = nI p → Q σ) (h0 : (∀ j p, j < mp_N (kx_M A) → p < mw_S (mp_D (kx_M A) j) → ¬ (v = nI j ∧ u = nI p)) → X 2 σ) : kw_X8_requirePart σ v u Q X :=
  sp_X4_hasPartV hc.2.1 ok.2.2.1 (fun i p hi hp e e2 => ⟨fun q => absurd q (by decide), fun _ => h1 i p hi hp e e2⟩) (fun hv => ⟨fun _ => h0 hv, fun q => absurd rfl q⟩)
theorem sm_word_ok {σ : ka_S} {A : ma_X} {j : Nat} {Q : Int32 → ka_S → Prop} (ok : ko A) (hm : km σ A) (hj : j < mp_N (kx_M A)) (h : Q 1 σ) : kw_X9_isWord σ (nI j) Q :=
  sp_X9_isWordOf rfl ok.2.2.1 hm.2.1 (fun i hi e => ⟨Or.inr rfl, h⟩) (fun hv => absurd rfl (hv j hj))
theorem sm_word_no {σ : ka_S} {A : ma_X} {v : Int32} {Q : Int32 → ka_S → Prop} (ok : ko A) (hm : km σ A) (hv : ∀ j, j < mp_N (kx_M A) → v ≠ nI j) (h : Q 0 σ) : kw_X9_isWord σ v Q :=
  sp_X9_isWordOf rfl ok.2.2.1 hm.2.1 (fun i hi e => absurd e (hv i hi)) (fun _ => ⟨Or.inl rfl, h⟩)
theorem sm_part_ok {σ : ka_S} {A : ma_X} {j p : Nat} {Q : Int32 → ka_S → Prop} (ok : ko A) (hm : km σ A) (hj : j < mp_N (kx_M A)) (hp : p < mw_S (mp_D (kx_M A) j)) (h : Q 1 σ) : kw_X9_isPart σ (nI j) (nI p) Q :=
  sp_X9_isPartOf rfl ok.2.2.1 hm.2.1 (fun i q hi hq e e2 => ⟨Or.inr rfl, h⟩) (fun hv => absurd ⟨rfl, rfl⟩ (hv j p hj hp))
theorem sm_part_no {σ : ka_S} {A : ma_X} {v u : Int32} {Q : Int32 → ka_S → Prop} (ok : ko A) (hm : km σ A) (hv : ∀ j p, j < mp_N (kx_M A) → p < mw_S (mp_D (kx_M A) j) → ¬ (v = nI j ∧ u = nI p)) (h : Q 0 σ) : kw_X9_isPart σ v u Q :=
  sp_X9_isPartOf rfl ok.2.2.1 hm.2.1 (fun i p hi hp e e2 => absurd ⟨e, e2⟩ (hv i p hi hp)) (fun _ => ⟨Or.inl rfl, h⟩)
/-- a number in a range, and out of it -/
theorem sm_in_ok {σ : ka_S} {j n : Nat} {hi : Int64} {Q : Int32 → ka_S → Prop} (hn : n < 2 ^ 31) (hh : hi.toInt = (n : Int) - 1) (hj : j < n) (h : Q 1 σ) : kw_X9_in σ (nI j).toInt64 0 hi Q := by
  refine sp_X9_in (fun _ => h) (fun g => absurd ?_ g)
  rw [kI_l, nI_toInt (by omega), hh]
  exact ⟨by show (0 : Int) ≤ j; omega, by omega⟩
theorem sm_in_no {σ : ka_S} {v : Int32} {n : Nat} {hi : Int64} {Q : Int32 → ka_S → Prop} (hh : hi.toInt = (n : Int) - 1) (hv : ∀ j, j < n → v ≠ nI j) (h : Q 0 σ) : kw_X9_in σ v.toInt64 0 hi Q := by
  refine sp_X9_in (fun g => ?_) (fun _ => h)
  rw [kI_l, hh] at g
  obtain ⟨j, hj, e⟩ := kI_ex (v := v) (n := n) g.1 (by omega)
  exact absurd e (hv j hj)

def mt_about (M : ma_P) : Nat → Nat
  | 0 => mp_N M
  | 1 => mt_parts M
  | 2 => mt_gapsP M
  | 3 => mt_sent M
  | 4 => tl (mt_lay M (mp_W M) (mp_Y M) (mp_N M))
  | 5 => mt_rows M
  | 6 => ma_sum (mf_wide M (mp_W M) (mp_Y M)) (mp_N M)
  | 7 => mp_L M
  | 8 => mt_diff M
  | 9 => mp_W M
  | 10 => mp_S M
  | _ => mp_Y M
theorem sp_X9_about_149 {σ : ka_S} {M : ma_P} {Q : Int32 → ka_S → Prop} (ok : mp_ok M) (hp : rd_P σ (37, 0, 0) M) (hA : rd_A σ M (mp_W M) (mp_Y M)) (h : Q (nI (ma_sum (mf_wide M (mp_W M) (mp_Y M)) (mp_N M))) σ) :
    ∀ (n k : Nat), k ≤ mp_N M → mp_N M < k + n → kw_X9_about_149 Q n σ (nI (ma_sum (mf_wide M (mp_W M) (mp_Y M)) k)) (nI k) := by
  intro n
  induction n with
  | zero => intro k h1 h2; omega
  | succ n ih =>
    intro k h1 h2
    have hN := ok.1
    have hW := ok.2.2.1
    rw [kw_X9_about_149]
    refine sp_X9_many rfl hp ⟨fun q => ?_, fun q => ?_⟩
    · rw [nI_leI (by omega) (by omega)] at q
      obtain rfl : k = mp_N M := by omega
      exact h
    · rw [nI_leI (by omega) (by omega)] at q
      have hk : k < mp_N M := by omega
      have hw := mt_width_le (ok.2.2.2.2.2.1 k hk) (mp_Y M)
      have z := ih (k + 1) (by omega) (by omega)
      have es : ma_sum (mf_wide M (mp_W M) (mp_Y M)) (k + 1) = ma_sum (mf_wide M (mp_W M) (mp_Y M)) k + (if mt_width (mp_D M k) (mp_Y M) ≤ mp_W M then 0 else 1) := rfl
      rw [es] at z
      rw [nI_clamp (by omega), (hA.1.2.1 k hk).2.2.1, show (2 : Int32).toNatClampNeg = 2 from rfl, hp.1.2.2.1, nI_l (by omega), pk_lLE (by omega) (by omega)]
      refine ⟨(kI_in (by omega)).mpr (by omega), (kI_in (k := 2) (by decide)).mpr (by decide), fun c => ?_, fun c => ?_⟩
      · rw [if_pos c] at z
        rw [forall_eq, forall_eq, show (nI k + 1 : Int32) = nI (k + 1) from nI_1 k, show (0 : Int32) = nI 0 from rfl, nI_add]
        exact z
      · rw [if_neg c] at z
        rw [forall_eq, forall_eq, show (nI k + 1 : Int32) = nI (k + 1) from nI_1 k, show (nI (ma_sum (mf_wide M (mp_W M) (mp_Y M)) k) + 1 : Int32) = nI (ma_sum (mf_wide M (mp_W M) (mp_Y M)) k + 1) from nI_1 _]
        exact z
theorem sm_about_no {σ : ka_S} {A : ma_X} {v : Int32} {Q : Int32 → ka_S → Prop} (ok : ko A) (hm : km σ A) (hv : ∀ j, j < 12 → v ≠ nI j) (h : ∀ σ1, ag xM σ σ1 → σ1.1 (25, 0, 0) 0 = 1 → km σ1 A → Q 0 σ1) : kw_X9_about σ v Q :=
  sm_in_no (n := 12) rfl hv ⟨fun _ => sm_off (by decide) ok hm h, fun q => absurd rfl q⟩
theorem sm_about_ok {σ : ka_S} {A : ma_X} {k : Nat} {Q : Int32 → ka_S → Prop} (ok : ko A) (hm : km σ A) (hk : k < 12) (h : ∀ σ1, ag xM σ σ1 → σ1.1 (25, 0, 0) 0 = 0 → km σ1 A → Q (nI (mt_about (kx_M A) k)) σ1) : kw_X9_about σ (nI k) Q := by
  have hN := ok.2.2.1.1
  refine sm_in_ok (n := 12) (by decide) rfl hk ⟨fun q => absurd q (by decide), fun _ => sm_on ok hm (fun σ1 a1 e1 m1 => sp_X9_layNow ok.2.2.1 m1.2.1 (fun σ2 a2 r2 => ?_))⟩
  have m2 := km_U ok m1 (ag_mono a2 xy_U)
  have z := h σ2 (sm_MN a1 (ag_mono a2 xy_N)) (sm_0 e1 (ag_mono a2 xy_N)) m2
  have r := m2.2.1
  have v1 : vp_in (1 : Int32) 253 := (kI_in (k := 1) (by decide)).mpr (by decide)
  have v2 : vp_in (2 : Int32) 253 := (kI_in (k := 2) (by decide)).mpr (by decide)
  have v3 : vp_in (3 : Int32) 253 := (kI_in (k := 3) (by decide)).mpr (by decide)
  have v4 : vp_in (4 : Int32) 253 := (kI_in (k := 4) (by decide)).mpr (by decide)
  have y1 : Q (nI (mp_L (kx_M A))) σ2 → Q (σ2.2 (37, 0, 0) 1).toInt32 σ2 := fun q => by rw [r.1.2.1, lN_i]; exact q
  have y2 : Q (nI (mp_W (kx_M A))) σ2 → Q (σ2.2 (37, 0, 0) 2).toInt32 σ2 := fun q => by rw [r.1.2.2.1, lN_i]; exact q
  have y3 : Q (nI (mp_S (kx_M A))) σ2 → Q (σ2.2 (37, 0, 0) 3).toInt32 σ2 := fun q => by rw [r.1.2.2.2.1, lN_i]; exact q
  have y4 : Q (nI (mp_Y (kx_M A))) σ2 → Q (σ2.2 (37, 0, 0) 4).toInt32 σ2 := fun q => by rw [r.1.2.2.2.2, lN_i]; exact q
  have t11 : Q (nI (tl (mt_lay (kx_M A) (mp_W (kx_M A)) (mp_Y (kx_M A)) (mp_N (kx_M A))))) σ2 → Q (σ2.1 (25, 0, 0) 11) σ2 := fun q => by rw [r2.1.1]; exact q
  have t12 : Q (nI (mt_rows (kx_M A))) σ2 → Q (σ2.1 (25, 0, 0) 12) σ2 := fun q => by rw [r2.2.2.1]; exact q
  have t13 : Q (nI (mt_sent (kx_M A))) σ2 → Q (σ2.1 (25, 0, 0) 13) σ2 := fun q => by rw [r2.2.2.2]; exact q
  match k, hk, z with
  | 0, _, z => exact ⟨fun _ => sp_X9_many rfl r z, fun q => absurd rfl q⟩
  | 1, _, z => exact ⟨fun q => absurd q (by decide), fun _ => ⟨fun _ => ⟨13, sp_X9_about_94 ok.2.2.1 r z 13 0 (Nat.zero_le _) (by omega)⟩, fun q => absurd rfl q⟩⟩
  | 2, _, z => exact ⟨fun q => absurd q (by decide), fun _ => ⟨fun q => absurd q (by decide), fun _ => ⟨fun _ => sp_X9_gaps rfl ok.2.2.1 r z, fun q => absurd rfl q⟩⟩⟩
  | 3, _, z => exact ⟨fun q => absurd q (by decide), fun _ => ⟨fun q => absurd q (by decide), fun _ => ⟨fun q => absurd q (by decide), fun _ => ⟨fun _ => t13 z, fun q => absurd rfl q⟩⟩⟩⟩
  | 4, _, z => exact ⟨fun q => absurd q (by decide), fun _ => ⟨fun q => absurd q (by decide), fun _ => ⟨fun q => absurd q (by decide), fun _ => ⟨fun q => absurd q (by decide), fun _ => ⟨fun _ => t11 z, fun q => absurd rfl q⟩⟩⟩⟩⟩
  | 5, _, z => exact ⟨fun q => absurd q (by decide), fun _ => ⟨fun q => absurd q (by decide), fun _ => ⟨fun q => absurd q (by decide), fun _ => ⟨fun q => absurd q (by decide), fun _ => ⟨fun q => absurd q (by decide), fun _ => ⟨fun _ => t12 z, fun q => absurd rfl q⟩⟩⟩⟩⟩⟩
  | 6, _, z => exact ⟨fun q => absurd q (by decide), fun _ => ⟨fun q => absurd q (by decide), fun _ => ⟨fun q => absurd q (by decide), fun _ => ⟨fun q => absurd q (by decide), fun _ => ⟨fun q => absurd q (by decide), fun _ => ⟨fun q => absurd q (by decide), fun _ => ⟨fun _ => ⟨13, sp_X9_about_149 ok.2.2.1 r r2 z 13 0 (Nat.zero_le _) (by omega)⟩, fun q => absurd rfl q⟩⟩⟩⟩⟩⟩⟩
  | 7, _, z => exact ⟨fun q => absurd q (by decide), fun _ => ⟨fun q => absurd q (by decide), fun _ => ⟨fun q => absurd q (by decide), fun _ => ⟨fun q => absurd q (by decide), fun _ => ⟨fun q => absurd q (by decide), fun _ => ⟨fun q => absurd q (by decide), fun _ => ⟨fun q => absurd q (by decide), fun _ => ⟨fun _ => ⟨v1, y1 z⟩, fun q => absurd rfl q⟩⟩⟩⟩⟩⟩⟩⟩
  | 8, _, z => exact ⟨fun q => absurd q (by decide), fun _ => ⟨fun q => absurd q (by decide), fun _ => ⟨fun q => absurd q (by decide), fun _ => ⟨fun q => absurd q (by decide), fun _ => ⟨fun q => absurd q (by decide), fun _ => ⟨fun q => absurd q (by decide), fun _ => ⟨fun q => absurd q (by decide), fun _ => ⟨fun q => absurd q (by decide), fun _ => ⟨fun _ => sp_X9_unlike rfl ok.2.2.1 r z, fun q => absurd rfl q⟩⟩⟩⟩⟩⟩⟩⟩⟩
  | 9, _, z => exact ⟨fun q => absurd q (by decide), fun _ => ⟨fun q => absurd q (by decide), fun _ => ⟨fun q => absurd q (by decide), fun _ => ⟨fun q => absurd q (by decide), fun _ => ⟨fun q => absurd q (by decide), fun _ => ⟨fun q => absurd q (by decide), fun _ => ⟨fun q => absurd q (by decide), fun _ => ⟨fun q => absurd q (by decide), fun _ => ⟨fun q => absurd q (by decide), fun _ => ⟨v2, y2 z⟩⟩⟩⟩⟩⟩⟩⟩⟩⟩
  | 10, _, z => exact ⟨fun q => absurd q (by decide), fun _ => ⟨fun q => absurd q (by decide), fun _ => ⟨fun q => absurd q (by decide), fun _ => ⟨fun q => absurd q (by decide), fun _ => ⟨fun q => absurd q (by decide), fun _ => ⟨fun q => absurd q (by decide), fun _ => ⟨fun q => absurd q (by decide), fun _ => ⟨fun q => absurd q (by decide), fun _ => ⟨fun q => absurd q (by decide), fun _ => ⟨v3, y3 z⟩⟩⟩⟩⟩⟩⟩⟩⟩⟩
  | 11, _, z => exact ⟨fun q => absurd q (by decide), fun _ => ⟨fun q => absurd q (by decide), fun _ => ⟨fun q => absurd q (by decide), fun _ => ⟨fun q => absurd q (by decide), fun _ => ⟨fun q => absurd q (by decide), fun _ => ⟨fun q => absurd q (by decide), fun _ => ⟨fun q => absurd q (by decide), fun _ => ⟨fun q => absurd q (by decide), fun _ => ⟨fun q => absurd q (by decide), fun _ => ⟨v4, y4 z⟩⟩⟩⟩⟩⟩⟩⟩⟩⟩
  | k + 12, hk, _ => exact absurd hk (by omega)
theorem kl_4 {σ : ka_S} {xs : Nat → Int32} {i : Nat} {o : Int64} (hK : kK σ) : kl_c4 σ xs i o (fun σ1 _ => kK σ1) := by
  obtain ⟨A, ok, hc, hm⟩ := hK
  unfold kl_c4 kw_L_about
  generalize xs (i + 1) = v
  have p := hc.2.1
  have W := ok.2.2.1.2.2.1
  have fin : ∀ k, k < 12 → ∀ σ1, ag xS σ σ1 → kw_X9_about σ1 (nI k) (fun r5 σ4 => kw_X9_thrown σ4 (fun r7 σ6 => (r7 = (0 : Int32) → ((0 : Int32) = (0 : Int32) → ((nI (mt_about (kx_M A) k)).toInt64 = (r5).toInt64 → kK σ6) ∧ (¬ (nI (mt_about (kx_M A) k)).toInt64 = (r5).toInt64 → False)) ∧ (¬ (0 : Int32) = (0 : Int32) → kK σ6)) ∧ (¬ r7 = (0 : Int32) → False))) :=
    fun k hk σ1 a1 => sm_about_ok ok (km_C ok hm (ag_mono a1 xS_C)) hk (fun σ2 a2 e2 m2 => kf0 e2 ⟨A, ok, kc_M (kc_S hc a1) a2, m2⟩)
  have ar : ∀ {Q : ka_S → Prop}, (∀ σ1, ag xS σ σ1 → rc_P σ1 0 (kx_M A) → rc_A σ1 (kx_M A) (mp_W (kx_M A)) (mp_Y (kx_M A)) → Q σ1) → kw_X8_arranged σ 0 Q :=
    fun hQ => sp_X8_arranged ok.2.2.1 p (fun σ1 a1 r1 => hQ σ1 (ag_mono a1 xa_S) (rc_P_xa p a1) r1)
  unfold kw_X8_about
  exact ⟨fun e0 => by subst e0; rw [p.1.1]; exact fin 0 (by decide) σ ag_refl, fun n0 => ⟨fun e1 => by subst e1; exact sp_X4_countParts p ok.2.2.1 (fin 1 (by decide) σ ag_refl), fun n1 => ⟨fun e2 => by subst e2; exact sp_X4_countGaps p ok.2.2.1 (fin 2 (by decide) σ ag_refl), fun n2 => ⟨fun e3 => by subst e3; exact sp_X4_countSentences p ok.2.2.1 (fin 3 (by decide) σ ag_refl), fun n3 => ⟨fun e4 => by subst e4; exact ar (fun σ1 a1 p1 r1 => by rw [r1.1.1.1]; exact fin 4 (by decide) σ1 a1), fun n4 => ⟨fun e5 => by subst e5; exact ar (fun σ1 a1 p1 r1 => by rw [r1.1.1.2]; exact fin 5 (by decide) σ1 a1), fun n5 => ⟨fun e6 => by subst e6; exact ar (fun σ1 a1 p1 r1 => by rw [p1.1.2.1]; exact sp_X1_countWider (y := mp_Y (kx_M A)) ok.2.2.1 W p1 r1.2 (fin 6 (by decide) σ1 a1)), fun n6 => ⟨fun e7 => by subst e7; rw [p.2.1.1]; exact fin 7 (by decide) σ ag_refl, fun n7 => ⟨fun e8 => by subst e8; exact sp_X4_countDiffering p ok.2.2.1 (fin 8 (by decide) σ ag_refl), fun n8 => ⟨fun e9 => by subst e9; rw [p.1.2.1]; exact fin 9 (by decide) σ ag_refl, fun n9 => ⟨fun e10 => by subst e10; rw [p.1.2.2.1]; exact fin 10 (by decide) σ ag_refl, fun n10 => ⟨fun e11 => by subst e11; rw [p.1.2.2.2]; exact fin 11 (by decide) σ ag_refl, fun n11 => sm_about_no ok hm (fun j hj => match j, hj with | 0, _ => n0 | 1, _ => n1 | 2, _ => n2 | 3, _ => n3 | 4, _ => n4 | 5, _ => n5 | 6, _ => n6 | 7, _ => n7 | 8, _ => n8 | 9, _ => n9 | 10, _ => n10 | 11, _ => n11 | j + 12, h => absurd h (by omega)) (fun σ2 a2 e2 m2 => kf1 (by decide) e2 ⟨A, ok, kc_M hc a2, m2⟩)⟩⟩⟩⟩⟩⟩⟩⟩⟩⟩⟩⟩
def mt_word (M : ma_P) (i : Nat) : Nat → Nat
  | 0 => mw_S (mp_D M i)
  | 1 => mt_width (mp_D M i) (mp_Y M)
  | 2 => ml_line M (mp_W M) (mp_Y M) i
  | 3 => ml_col M (mp_W M) (mp_Y M) i
  | 4 => ml_sent M (mp_W M) (mp_Y M) i
  | 5 => mw_E (mp_D M i)
  | 6 => mt_gaps (mp_D M i)
  | _ => mw_F (mp_D M i)
theorem sm_word_off1 {σ : ka_S} {A : ma_X} {v u : Int32} {Q : Int32 → ka_S → Prop} (ok : ko A) (hm : km σ A) (hv : ∀ j, j < mp_N (kx_M A) → v ≠ nI j) (h : ∀ σ1, ag xM σ σ1 → σ1.1 (25, 0, 0) 0 = 1 → km σ1 A → Q 0 σ1) : kw_X9_word σ v u Q :=
  sm_word_no ok hm hv ⟨fun _ => sm_off (by decide) ok hm h, fun q => absurd rfl q⟩
theorem sm_word_off2 {σ : ka_S} {A : ma_X} {j : Nat} {u : Int32} {Q : Int32 → ka_S → Prop} (ok : ko A) (hm : km σ A) (hj : j < mp_N (kx_M A)) (hv : ∀ k, k < 8 → u ≠ nI k) (h : ∀ σ1, ag xM σ σ1 → σ1.1 (25, 0, 0) 0 = 2 → km σ1 A → Q 0 σ1) : kw_X9_word σ (nI j) u Q :=
  sm_word_ok ok hm hj ⟨fun q => absurd q (by decide), fun _ => sm_in_no (n := 8) rfl hv ⟨fun _ => sm_off (by decide) ok hm h, fun q => absurd rfl q⟩⟩
theorem sm_word_on {σ : ka_S} {A : ma_X} {j k : Nat} {Q : Int32 → ka_S → Prop} (ok : ko A) (hm : km σ A) (hj : j < mp_N (kx_M A)) (hk : k < 8) (h : ∀ σ1, ag xM σ σ1 → σ1.1 (25, 0, 0) 0 = 0 → km σ1 A → Q (nI (mt_word (kx_M A) j k)) σ1) : kw_X9_word σ (nI j) (nI k) Q := by
  have hN := ok.2.2.1.1
  refine sm_word_ok ok hm hj ⟨fun q => absurd q (by decide), fun _ => sm_in_ok (n := 8) (by decide) rfl hk ⟨fun q => absurd q (by decide), fun _ => sm_on ok hm (fun σ1 a1 e1 m1 => sp_X9_layNow ok.2.2.1 m1.2.1 (fun σ2 a2 r2 => ?_))⟩⟩
  have m2 := km_U ok m1 (ag_mono a2 xy_U)
  have z := h σ2 (sm_MN a1 (ag_mono a2 xy_N)) (sm_0 e1 (ag_mono a2 xy_N)) m2
  have r := m2.2.1
  have v12 : vp_in (nI j) 12 := (kI_in (by omega)).mpr (by omega)
  obtain ⟨u1, u2, u3, u4⟩ := r2.1.2.1 j hj
  have g : ∀ (κ : ka_K) (x : Int32), σ2.1 κ j = x → Q x σ2 → vp_in (nI j) 12 ∧ Q (σ2.1 κ (nI j).toNatClampNeg) σ2 := fun κ x e q => ⟨v12, by rw [nI_clamp (by omega), e]; exact q⟩
  have g2 : ∀ (c x : Nat), c ≤ 17 → σ2.2 (37, 0, 0) (5 + 18 * j + c) = lN x → Q (nI x) σ2 → kw_X9_cell σ2 (nI j) (nI c) (fun r15 σ14 => vp_in r15 253 ∧ Q ((σ14.2 (37, 0, 0) r15.toNatClampNeg).toInt32) σ14) := fun c x hc e q => sp_X9_cell ⟨(kI_in (by omega)).mpr (by omega), by rw [nI_clamp (by omega), e, lN_i]; exact q⟩
  match k, hk, z with
  | 0, _, z => exact ⟨fun _ => sp_X9_parts rfl ok.2.2.1 r hj z, fun q => absurd rfl q⟩
  | 1, _, z => exact ⟨fun q => absurd q (by decide), fun _ => ⟨fun _ => g (29, 0, 0) _ u3 z, fun q => absurd rfl q⟩⟩
  | 2, _, z => exact ⟨fun q => absurd q (by decide), fun _ => ⟨fun q => absurd q (by decide), fun _ => ⟨fun _ => g (27, 0, 0) _ u1 z, fun q => absurd rfl q⟩⟩⟩
  | 3, _, z => exact ⟨fun q => absurd q (by decide), fun _ => ⟨fun q => absurd q (by decide), fun _ => ⟨fun q => absurd q (by decide), fun _ => ⟨fun _ => g (28, 0, 0) _ u2 z, fun q => absurd rfl q⟩⟩⟩⟩
  | 4, _, z => exact ⟨fun q => absurd q (by decide), fun _ => ⟨fun q => absurd q (by decide), fun _ => ⟨fun q => absurd q (by decide), fun _ => ⟨fun q => absurd q (by decide), fun _ => ⟨fun _ => g (30, 0, 0) _ u4 z, fun q => absurd rfl q⟩⟩⟩⟩⟩
  | 5, _, z => exact ⟨fun q => absurd q (by decide), fun _ => ⟨fun q => absurd q (by decide), fun _ => ⟨fun q => absurd q (by decide), fun _ => ⟨fun q => absurd q (by decide), fun _ => ⟨fun q => absurd q (by decide), fun _ => ⟨fun _ => g2 1 _ (by decide) (rd_e r hj) z, fun q => absurd rfl q⟩⟩⟩⟩⟩⟩
  | 6, _, z => exact ⟨fun q => absurd q (by decide), fun _ => ⟨fun q => absurd q (by decide), fun _ => ⟨fun q => absurd q (by decide), fun _ => ⟨fun q => absurd q (by decide), fun _ => ⟨fun q => absurd q (by decide), fun _ => ⟨fun q => absurd q (by decide), fun _ => ⟨fun _ => sp_X9_gapsOf rfl ok.2.2.1 r hj z, fun q => absurd rfl q⟩⟩⟩⟩⟩⟩⟩
  | 7, _, z => exact ⟨fun q => absurd q (by decide), fun _ => ⟨fun q => absurd q (by decide), fun _ => ⟨fun q => absurd q (by decide), fun _ => ⟨fun q => absurd q (by decide), fun _ => ⟨fun q => absurd q (by decide), fun _ => ⟨fun q => absurd q (by decide), fun _ => ⟨fun q => absurd q (by decide), fun _ => g2 2 _ (by decide) (rd_f r hj) z⟩⟩⟩⟩⟩⟩⟩
  | k + 8, hk, _ => exact absurd hk (by omega)
theorem kl_5 {σ : ka_S} {xs : Nat → Int32} {i : Nat} {o : Int64} (hK : kK σ) : kl_c5 σ xs i o (fun σ1 _ => kK σ1) := by
  obtain ⟨A, ok, hc, hm⟩ := hK
  unfold kl_c5 kw_L_word
  generalize xs (i + 1) = v
  generalize xs (i + 2) = u
  have p := hc.2.1
  have W := ok.2.2.1.2.2.1
  have hN := ok.2.2.1.1
  refine sc_word ok hc (fun j hj e => ?_) (fun hv => sm_word_off1 ok hm hv (fun σ2 a2 e2 m2 => kf1 (by decide) e2 ⟨A, ok, kc_M hc a2, m2⟩))
  subst e
  have okw := ok.2.2.1.2.2.2.2.2.1 j hj
  have hw := p.2.2 j hj
  have v12 : vp_in (nI j) 12 := (kI_in (by omega)).mpr (by omega)
  have fin : ∀ k, k < 8 → ∀ σ1, ag xS σ σ1 → kw_X9_word σ1 (nI j) (nI k) (fun r5 σ4 => kw_X9_thrown σ4 (fun r7 σ6 => (r7 = (0 : Int32) → ((0 : Int32) = (0 : Int32) → ((nI (mt_word (kx_M A) j k)).toInt64 = (r5).toInt64 → kK σ6) ∧ (¬ (nI (mt_word (kx_M A) j k)).toInt64 = (r5).toInt64 → False)) ∧ (¬ (0 : Int32) = (0 : Int32) → kK σ6)) ∧ (¬ r7 = (0 : Int32) → False))) :=
    fun k hk σ1 a1 => sm_word_on ok (km_C ok hm (ag_mono a1 xS_C)) hj hk (fun σ2 a2 e2 m2 => kf0 e2 ⟨A, ok, kc_M (kc_S hc a1) a2, m2⟩)
  have ar : ∀ {Q : ka_S → Prop}, (∀ σ1, ag xS σ σ1 → rc_A σ1 (kx_M A) (mp_W (kx_M A)) (mp_Y (kx_M A)) → Q σ1) → kw_X8_arranged σ 0 Q :=
    fun hQ => sp_X8_arranged ok.2.2.1 p (fun σ1 a1 r1 => hQ σ1 (ag_mono a1 xa_S) r1)
  rw [nI_clamp (by omega)]
  have hE := okw.2.1
  have f5 := fin 5 (by decide) σ ag_refl
  have ew : mt_word (kx_M A) j 5 = mw_E (mp_D (kx_M A) j) := rfl
  rw [ew] at f5
  have c5 : σ.1 (5, 0, j) 6 = (0 : Int32) ↔ mw_E (mp_D (kx_M A) j) = 0 := by rw [hw.1.2.2, show (0 : Int32) = nI 0 from rfl, nI_eq (by omega) (by decide)]
  rw [c5]
  exact ⟨fun e0 => by subst e0; refine ⟨v12, ?_⟩; rw [hw.1.1]; exact fin 0 (by decide) σ ag_refl, fun n0 => ⟨fun e1 => by subst e1; refine ⟨v12, ?_⟩; rw [p.1.2.2.2]; exact sp_X7_width hw okw ok.2.2.1.2.2.2.2.1 (fin 1 (by decide) σ ag_refl), fun n1 => ⟨fun e2 => by subst e2; exact ar (fun σ1 a1 r1 => ⟨v12, by rw [(r1.1.2 j hj).1]; exact fin 2 (by decide) σ1 a1⟩), fun n2 => ⟨fun e3 => by subst e3; exact ar (fun σ1 a1 r1 => ⟨v12, by rw [(r1.1.2 j hj).2.1]; exact fin 3 (by decide) σ1 a1⟩), fun n3 => ⟨fun e4 => by subst e4; exact ar (fun σ1 a1 r1 => ⟨v12, by rw [(r1.1.2 j hj).2.2.1]; exact fin 4 (by decide) σ1 a1⟩), fun n4 => ⟨fun e5 => by subst e5; exact ⟨v12, fun z => by rw [z] at f5; exact f5, fun z => by rw [show mw_E (mp_D (kx_M A) j) = 1 by omega] at f5; exact f5⟩, fun n5 => ⟨fun e6 => by subst e6; exact ⟨v12, sp_X7_countGaps hw okw (fin 6 (by decide) σ ag_refl)⟩, fun n6 => ⟨fun e7 => by subst e7; refine ⟨v12, ?_⟩; rw [hw.1.2.1]; exact fin 7 (by decide) σ ag_refl, fun n7 => sm_word_off2 ok hm hj (fun j hj => match j, hj with | 0, _ => n0 | 1, _ => n1 | 2, _ => n2 | 3, _ => n3 | 4, _ => n4 | 5, _ => n5 | 6, _ => n6 | 7, _ => n7 | j + 8, h => absurd h (by omega)) (fun σ2 a2 e2 m2 => kf1 (by decide) e2 ⟨A, ok, kc_M hc a2, m2⟩)⟩⟩⟩⟩⟩⟩⟩⟩
def mi_part (M : ma_P) (i p : Nat) : Nat → Int32
  | 0 => nI (mw_P (mp_D M i) p).length
  | 1 => nI (mw_G (mp_D M i) p).length
  | 2 => if p = 0 then -9 else nI (mw_M (mp_D M i) p)
  | _ => mi_find M (mw_P (mp_D M i) p)
theorem sm_part_off1 {σ : ka_S} {A : ma_X} {v u x : Int32} {Q : Int32 → ka_S → Prop} (ok : ko A) (hm : km σ A) (hv : ∀ j p, j < mp_N (kx_M A) → p < mw_S (mp_D (kx_M A) j) → ¬ (v = nI j ∧ u = nI p)) (h : ∀ σ1, ag xM σ σ1 → σ1.1 (25, 0, 0) 0 = 1 → km σ1 A → Q 0 σ1) : kw_X9_part σ v u x Q :=
  sm_part_no ok hm hv ⟨fun _ => sm_off (by decide) ok hm h, fun q => absurd rfl q⟩
theorem sm_part_off2 {σ : ka_S} {A : ma_X} {j p : Nat} {x : Int32} {Q : Int32 → ka_S → Prop} (ok : ko A) (hm : km σ A) (hj : j < mp_N (kx_M A)) (hp : p < mw_S (mp_D (kx_M A) j)) (hv : ∀ k, k < 4 → x ≠ nI k) (h : ∀ σ1, ag xM σ σ1 → σ1.1 (25, 0, 0) 0 = 2 → km σ1 A → Q 0 σ1) : kw_X9_part σ (nI j) (nI p) x Q :=
  sm_part_ok ok hm hj hp ⟨fun q => absurd q (by decide), fun _ => sm_in_no (n := 4) rfl hv ⟨fun _ => sm_off (by decide) ok hm h, fun q => absurd rfl q⟩⟩
theorem sm_part_on {σ : ka_S} {A : ma_X} {j p k : Nat} {Q : Int32 → ka_S → Prop} (ok : ko A) (hm : km σ A) (hj : j < mp_N (kx_M A)) (hp : p < mw_S (mp_D (kx_M A) j)) (hk : k < 4) (h : ∀ σ1, ag xM σ σ1 → σ1.1 (25, 0, 0) 0 = 0 → km σ1 A → Q (mi_part (kx_M A) j p k) σ1) : kw_X9_part σ (nI j) (nI p) (nI k) Q := by
  have hN := ok.2.2.1.1
  have okw := ok.2.2.1.2.2.2.2.2.1 j hj
  have hS := okw.1
  have okp := okw.2.2.2.2.1 p hp
  refine sm_part_ok ok hm hj hp ⟨fun q => absurd q (by decide), fun _ => sm_in_ok (n := 4) (by decide) rfl hk ⟨fun q => absurd q (by decide), fun _ => sm_on ok hm (fun σ1 a1 e1 m1 => ?_)⟩⟩
  have z := h σ1 a1 e1 m1
  have r := m1.2.1
  have vp : vp_in (nI (5 + 18 * j + (7 + 3 * p))) 253 := (kI_in (by omega)).mpr (by omega)
  have vg : vp_in (nI (5 + 18 * j + (8 + 3 * p))) 253 := (kI_in (by omega)).mpr (by omega)
  have vm : vp_in (nI (5 + 18 * j + (6 + 3 * p))) 253 := (kI_in (by omega)).mpr (by omega)
  match k, hk, z with
  | 0, _, z => exact ⟨fun _ => sp_X9_partAt ⟨vp, by rw [nI_clamp (by omega), rd_p r hj hp]; exact sp_X9_lettersOf okp.1.g z⟩, fun q => absurd rfl q⟩
  | 1, _, z => exact ⟨fun q => absurd q (by decide), fun _ => ⟨fun _ => sp_X9_glossAt ⟨vg, by rw [nI_clamp (by omega), rd_g r hj hp]; exact sp_X9_lettersOf okp.2.1 z⟩, fun q => absurd rfl q⟩⟩
  | 2, _, z =>
    have z' : Q (if p = 0 then -9 else nI (mw_M (mp_D (kx_M A) j) p)) σ1 := z
    have cp : nI p = (0 : Int32) ↔ p = 0 := nI_eq (b := 0) (by omega) (by decide)
    refine ⟨fun q => absurd q (by decide), fun _ => ⟨fun q => absurd q (by decide), fun _ => ⟨fun _ => ?_, fun q => absurd rfl q⟩⟩⟩
    rw [cp]
    exact ⟨fun e => by rw [if_pos e] at z'; exact z', fun e => sp_X9_mark ⟨vm, by rw [if_neg e] at z'; rw [nI_clamp (by omega), rd_m r hj hp (by omega), lN_i]; exact z'⟩⟩
  | 3, _, z => exact ⟨fun q => absurd q (by decide), fun _ => ⟨fun q => absurd q (by decide), fun _ => ⟨fun q => absurd q (by decide), fun _ => sp_X9_partAt ⟨vp, by rw [nI_clamp (by omega), rd_p r hj hp]; exact sp_X9_entryOf rfl ok.2.2.1 r okp.1.g z⟩⟩⟩⟩
  | k + 4, hk, _ => exact absurd hk (by omega)
theorem kl_6 {σ : ka_S} {xs : Nat → Int32} {i : Nat} {o : Int64} (hK : kK σ) : kl_c6 σ xs i o (fun σ1 _ => kK σ1) := by
  obtain ⟨A, ok, hc, hm⟩ := hK
  unfold kl_c6 kw_L_part
  generalize xs (i + 1) = v
  generalize xs (i + 2) = u
  generalize xs (i + 3) = x
  have p0 := hc.2.1
  have hN := ok.2.2.1.1
  refine sc_part ok hc (fun j p hj hp e e2 => ?_) (fun hv => sm_part_off1 ok hm hv (fun σ2 a2 e2 m2 => kf1 (by decide) e2 ⟨A, ok, kc_M hc a2, m2⟩))
  subst e e2
  have okw := ok.2.2.1.2.2.2.2.2.1 j hj
  have hS := okw.1
  have okp := okw.2.2.2.2.1 p hp
  have hw := (p0.2.2 j hj).2.1 p hp
  have v12 : vp_in (nI j) 12 := (kI_in (by omega)).mpr (by omega)
  have v4 : vp_in (nI p) 4 := (kI_in (by omega)).mpr (by omega)
  have fin : ∀ k, k < 4 → kw_X9_part σ (nI j) (nI p) (nI k) (fun r5 σ4 => kw_X9_thrown σ4 (fun r7 σ6 => (r7 = (0 : Int32) → ((0 : Int32) = (0 : Int32) → ((mi_part (kx_M A) j p k).toInt64 = (r5).toInt64 → kK σ6) ∧ (¬ (mi_part (kx_M A) j p k).toInt64 = (r5).toInt64 → False)) ∧ (¬ (0 : Int32) = (0 : Int32) → kK σ6)) ∧ (¬ r7 = (0 : Int32) → False))) :=
    fun k hk => sm_part_on ok hm hj hp hk (fun σ2 a2 e2 m2 => kf0 e2 ⟨A, ok, kc_M hc a2, m2⟩)
  rw [nI_clamp (by omega), nI_clamp (by omega)]
  exact ⟨fun e0 => by subst e0; refine ⟨v12, v4, ?_⟩; rw [hw.1]; exact sp_X2_length okp.1.g (fin 0 (by decide)), fun n0 => ⟨fun e1 => by subst e1; refine ⟨v12, v4, ?_⟩; rw [hw.2.1]; exact sp_X2_length okp.2.1 (fin 1 (by decide)), fun n1 => ⟨fun e2 => by subst e2; refine ⟨v12, v4, ?_⟩; rw [hw.2.2]; exact fin 2 (by decide), fun n2 => ⟨fun e3 => by subst e3; refine ⟨v12, v4, ?_⟩; rw [hw.1]; exact sp_X3_find p0 ok.2.2.1 okp.1.g (fin 3 (by decide)), fun n3 => sm_part_off2 ok hm hj hp (fun j hj => match j, hj with | 0, _ => n0 | 1, _ => n1 | 2, _ => n2 | 3, _ => n3 | j + 4, h => absurd h (by omega)) (fun σ2 a2 e2 m2 => kf1 (by decide) e2 ⟨A, ok, kc_M hc a2, m2⟩)⟩⟩⟩⟩
