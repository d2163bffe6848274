/-! ===== letters, entries, gaps ===== -/
def mi_let (l : List Nat) (d : Nat) : Int32 := if d < l.length then nI (l.getD d 0) else -9
theorem sc_code {σ : ka_S} {l : List Nat} {d : Nat} {Q : Int32 → ka_S → Prop} (hl : ma_g l) (hd : d < 2 ^ 31) (h : Q (mi_let l d) σ) : kw_X2_code σ (lN (ma_C l)) (nI d) Q := by
  have h8 := hl.1
  unfold mi_let at h
  by_cases q : d < l.length
  · rw [if_pos q] at h
    exact sp_X2_code hl q h
  · rw [if_neg q] at h
    exact sp_X2_codeN hl (Or.inr ((nI_leI (by omega) hd).mpr (by omega))) h
theorem sm_code {σ : ka_S} {l : List Nat} {d : Nat} {Q : Int32 → ka_S → Prop} (hl : ma_g l) (hd : d < 2 ^ 31) (h : Q (mi_let l d) σ) : kw_X9_letterOf σ (lN (ma_M l)) (nI d) Q := by
  have h8 := hl.1
  unfold mi_let at h
  by_cases q : d < l.length
  · rw [if_pos q] at h
    exact sp_X9_letterOf hl q h
  · rw [if_neg q] at h
    exact sp_X9_letterOfN hl (nI_pos hd) ((nI_leI (by omega) hd).mpr (by omega)) h
theorem kI_nn {x : Int32} (h : 0 ≤ x) : ∃ d, d < 2 ^ 31 ∧ x = nI d := nI_of (fun q => by
  have h1 := Int32.le_iff_toInt_le.mp h
  have h2 := Int32.lt_iff_toInt_lt.mp q
  omega)
def mw_PG (w : ma_W) (b p : Nat) : List Nat := if b = 0 then mw_P w p else mw_G w p
theorem sc_letter {σ : ka_S} {A : ma_X} {v u x : Int32} {b : Nat} {Q : Int32 → ka_S → Prop} {X : Nat → ka_S → Prop} (hb : b ≤ 1) (ok : ko A) (hc : kc σ A) (h : ∀ j p d, j < mp_N (kx_M A) → p < mw_S (mp_D (kx_M A) j) → d < 2 ^ 31 → v = nI j → u = nI p → x = nI d → Q (mi_let (mw_PG (mp_D (kx_M A) j) b p) d) σ)
    (h0 : (∀ j p, j < mp_N (kx_M A) → p < mw_S (mp_D (kx_M A) j) → ¬ (v = nI j ∧ u = nI p)) → X 2 σ) (h1 : ∀ j p, j < mp_N (kx_M A) → p < mw_S (mp_D (kx_M A) j) → v = nI j → u = nI p → ¬ 0 ≤ x → X 0 σ) : kw_X8_letter σ v u (nI b) x Q X := by
  have hN := ok.2.2.1.1
  refine sc_part ok hc (fun j p hj hp e e2 => ⟨fun q => ?_, fun q => h1 j p hj hp e e2 q⟩) h0
  obtain ⟨d, hd, e3⟩ := kI_nn q
  have z := h j p d hj hp hd e e2 e3
  subst e e2 e3
  have okw := ok.2.2.1.2.2.2.2.2.1 j hj
  have hS := okw.1
  have okp := okw.2.2.2.2.1 p hp
  have hw := (hc.2.1.2.2 j hj).2.1 p hp
  have v12 : vp_in (nI j) 12 := (kI_in (by omega)).mpr (by omega)
  have v4 : vp_in (nI p) 4 := (kI_in (by omega)).mpr (by omega)
  rw [nI_clamp (by omega), nI_clamp (by omega), show nI b = (0 : Int32) ↔ b = 0 from nI_eq (b := 0) (by omega) (by decide)]
  unfold mw_PG at z
  refine ⟨fun e => ⟨v12, v4, ?_⟩, fun e => ⟨v12, v4, ?_⟩⟩
  · rw [if_pos e] at z
    rw [hw.1]
    exact sc_code okp.1.g hd z
  · rw [if_neg e] at z
    rw [hw.2.1]
    exact sc_code okp.2.1 hd z
theorem sm_letter_off1 {σ : ka_S} {A : ma_X} {v u y x : Int32} {Q : Int32 → ka_S → Prop} (ok : ko A) (hm : km σ A) (hv : ∀ j p, j < mp_N (kx_M A) → p < mw_S (mp_D (kx_M A) j) → ¬ (v = nI j ∧ u = nI p)) (h : ∀ σ1, ag xM σ σ1 → σ1.1 (25, 0, 0) 0 = 1 → km σ1 A → Q 0 σ1) : kw_X9_letter σ v u y x Q :=
  sm_part_no ok hm hv ⟨fun _ => sm_off (by decide) ok hm h, fun q => absurd rfl q⟩
theorem sm_letter_off2 {σ : ka_S} {A : ma_X} {j p : Nat} {y x : Int32} {Q : Int32 → ka_S → Prop} (ok : ko A) (hm : km σ A) (hj : j < mp_N (kx_M A)) (hp : p < mw_S (mp_D (kx_M A) j)) (hv : ¬ 0 ≤ x) (h : ∀ σ1, ag xM σ σ1 → σ1.1 (25, 0, 0) 0 = 2 → km σ1 A → Q 0 σ1) : kw_X9_letter σ (nI j) (nI p) y x Q :=
  sm_part_ok ok hm hj hp ⟨fun q => absurd q (by decide), fun _ => ⟨fun q => absurd q hv, fun _ => sm_off (by decide) ok hm h⟩⟩
theorem sm_letter_on {σ : ka_S} {A : ma_X} {j p d b : Nat} {Q : Int32 → ka_S → Prop} (hb : b ≤ 1) (ok : ko A) (hm : km σ A) (hj : j < mp_N (kx_M A)) (hp : p < mw_S (mp_D (kx_M A) j)) (hd : d < 2 ^ 31) (h : ∀ σ1, ag xM σ σ1 → σ1.1 (25, 0, 0) 0 = 0 → km σ1 A → Q (mi_let (mw_PG (mp_D (kx_M A) j) b p) d) σ1) : kw_X9_letter σ (nI j) (nI p) (nI b) (nI d) Q := by
  have hN := ok.2.2.1.1
  have okw := ok.2.2.1.2.2.2.2.2.1 j hj
  have hS := okw.1
  have okp := okw.2.2.2.2.1 p hp
  refine sm_part_ok ok hm hj hp ⟨fun q => absurd q (by decide), fun _ => ⟨fun _ => sm_on ok hm (fun σ1 a1 e1 m1 => ?_), fun q => absurd (nI_pos' hd) q⟩⟩
  have z := h σ1 a1 e1 m1
  have r := m1.2.1
  rw [show nI b = (0 : Int32) ↔ b = 0 from nI_eq (b := 0) (by omega) (by decide)]
  unfold mw_PG at z
  refine ⟨fun e => sp_X9_partAt ⟨(kI_in (by omega)).mpr (by omega), ?_⟩, fun e => sp_X9_glossAt ⟨(kI_in (by omega)).mpr (by omega), ?_⟩⟩
  · rw [if_pos e] at z
    rw [nI_clamp (by omega), rd_p r hj hp]
    exact sm_code okp.1.g hd z
  · rw [if_neg e] at z
    rw [nI_clamp (by omega), rd_g r hj hp]
    exact sm_code okp.2.1 hd z
theorem kl_7 {σ : ka_S} {xs : Nat → Int32} {i : Nat} {o : Int64} (hK : kK σ) : kl_c7 σ xs i o (fun σ1 _ => kK σ1) := by
  obtain ⟨A, ok, hc, hm⟩ := hK
  unfold kl_c7 kw_L_letter
  generalize xs (i + 1) = v
  generalize xs (i + 2) = u
  generalize xs (i + 3) = y
  generalize xs (i + 4) = x
  refine ⟨fun e => sc_letter (b := 0) (by decide) ok hc (fun j p d hj hp hd e1 e2 e3 => ⟨fun _ => ?_, fun q => absurd e q⟩) (fun hv => ⟨fun _ => ?_, fun q => absurd e q⟩) (fun j p hj hp e1 e2 hx => ⟨fun _ => ?_, fun q => absurd e q⟩),
    fun e => sc_letter (b := 1) (by decide) ok hc (fun j p d hj hp hd e1 e2 e3 => ⟨fun q => absurd q e, fun _ => ?_⟩) (fun hv => ⟨fun q => absurd q e, fun _ => ?_⟩) (fun j p hj hp e1 e2 hx => ⟨fun q => absurd q e, fun _ => ?_⟩)⟩
  · subst e1 e2 e3
    exact sm_letter_on (b := 0) (by decide) ok hm hj hp hd (fun σ2 a2 e2 m2 => kf0 e2 ⟨A, ok, kc_M hc a2, m2⟩)
  · exact sm_letter_off1 ok hm hv (fun σ2 a2 e2 m2 => kf1 (by decide) e2 ⟨A, ok, kc_M hc a2, m2⟩)
  · subst e1 e2
    exact sm_letter_off2 ok hm hj hp hx (fun σ2 a2 e2 m2 => kf1 (by decide) e2 ⟨A, ok, kc_M hc a2, m2⟩)
  · subst e1 e2 e3
    exact sm_letter_on (b := 1) (by decide) ok hm hj hp hd (fun σ2 a2 e2 m2 => kf0 e2 ⟨A, ok, kc_M hc a2, m2⟩)
  · exact sm_letter_off1 ok hm hv (fun σ2 a2 e2 m2 => kf1 (by decide) e2 ⟨A, ok, kc_M hc a2, m2⟩)
  · subst e1 e2
    exact sm_letter_off2 ok hm hj hp hx (fun σ2 a2 e2 m2 => kf1 (by decide) e2 ⟨A, ok, kc_M hc a2, m2⟩)
/-! entries -/
theorem sc_isEntry {σ : ka_S} {A : ma_X} {v : Int32} {Q : ka_S → Prop} {X : Nat → ka_S → Prop} (ok : ko A) (hc : kc σ A) (h1 : ∀ j, j < mp_L (kx_M A) → v = nI j → Q σ) (h0 : (∀ j, j < mp_L (kx_M A) → v ≠ nI j) → X 2 σ) : kw_X8_requireEntry σ v Q X := by
  have hL := ok.2.2.1.2.1
  unfold kw_X8_requireEntry
  rw [hc.2.1.2.1.1]
  refine ⟨fun q => h0 (fun j hj e => ?_), fun q => ⟨fun q2 => ?_, fun q2 => h0 (fun j hj e => ?_)⟩⟩
  · rw [e] at q
    exact absurd q (nI_pos (by omega))
  · obtain ⟨j, hj, e⟩ := nI_of q
    rw [e, nI_ltI hj (by omega)] at q2
    exact h1 j q2 e
  · rw [e, nI_ltI (by omega) (by omega)] at q2
    exact q2 hj
theorem sm_isEntry_ok {σ : ka_S} {A : ma_X} {j : Nat} {Q : Int32 → ka_S → Prop} (ok : ko A) (hm : km σ A) (hj : j < mp_L (kx_M A)) (h : Q 1 σ) : kw_X9_isEntry σ (nI j) Q :=
  sp_X9_isEntry ok.2.2.1 hm.2.1 (fun i hi e => h) (fun hv => absurd rfl (hv j hj))
theorem sm_isEntry_no {σ : ka_S} {A : ma_X} {v : Int32} {Q : Int32 → ka_S → Prop} (ok : ko A) (hm : km σ A) (hv : ∀ j, j < mp_L (kx_M A) → v ≠ nI j) (h : Q 0 σ) : kw_X9_isEntry σ v Q :=
  sp_X9_isEntry ok.2.2.1 hm.2.1 (fun i hi e => absurd e (hv i hi)) (fun _ => h)
def mp_AB (M : ma_P) (b e : Nat) : List Nat := if b = 0 then mp_A M e else mp_B M e
theorem sc_entry {σ : ka_S} {A : ma_X} {v x : Int32} {b : Nat} {Q : Int32 → ka_S → Prop} {X : Nat → ka_S → Prop} (hb : b ≤ 1) (ok : ko A) (hc : kc σ A) (h : ∀ j d, j < mp_L (kx_M A) → d < 2 ^ 31 → v = nI j → x = nI d → Q (mi_let (mp_AB (kx_M A) b j) d) σ)
    (h0 : (∀ j, j < mp_L (kx_M A) → v ≠ nI j) → X 2 σ) (h1 : ∀ j, j < mp_L (kx_M A) → v = nI j → ¬ 0 ≤ x → X 0 σ) : kw_X8_entry σ v (nI b) x Q X := by
  have hL := ok.2.2.1.2.1
  refine sc_isEntry ok hc (fun j hj e => ⟨fun q => ?_, fun q => h1 j hj e q⟩) h0
  obtain ⟨d, hd, e3⟩ := kI_nn q
  have z := h j d hj hd e e3
  subst e e3
  have okp := ok.2.2.1.2.2.2.2.2.2 j hj
  have hw := hc.2.1.2.1.2 j hj
  have v16 : vp_in (nI j) 16 := (kI_in (by omega)).mpr (by omega)
  rw [nI_clamp (by omega), show nI b = (0 : Int32) ↔ b = 0 from nI_eq (b := 0) (by omega) (by decide)]
  unfold mp_AB at z
  refine ⟨fun e => ⟨v16, ?_⟩, fun e => ⟨v16, ?_⟩⟩
  · rw [if_pos e] at z
    rw [hw.1]
    exact sc_code okp.1.g hd z
  · rw [if_neg e] at z
    rw [hw.2]
    exact sc_code okp.2.1 hd z
theorem sm_entry_off1 {σ : ka_S} {A : ma_X} {v y x : Int32} {Q : Int32 → ka_S → Prop} (ok : ko A) (hm : km σ A) (hv : ∀ j, j < mp_L (kx_M A) → v ≠ nI j) (h : ∀ σ1, ag xM σ σ1 → σ1.1 (25, 0, 0) 0 = 1 → km σ1 A → Q 0 σ1) : kw_X9_entry σ v y x Q :=
  sm_isEntry_no ok hm hv ⟨fun _ => sm_off (by decide) ok hm h, fun q => absurd rfl q⟩
theorem sm_entry_off2 {σ : ka_S} {A : ma_X} {j : Nat} {y x : Int32} {Q : Int32 → ka_S → Prop} (ok : ko A) (hm : km σ A) (hj : j < mp_L (kx_M A)) (hv : ¬ 0 ≤ x) (h : ∀ σ1, ag xM σ σ1 → σ1.1 (25, 0, 0) 0 = 2 → km σ1 A → Q 0 σ1) : kw_X9_entry σ (nI j) y x Q :=
  sm_isEntry_ok ok hm hj ⟨fun q => absurd q (by decide), fun _ => ⟨fun q => absurd q hv, fun _ => sm_off (by decide) ok hm h⟩⟩
theorem sm_entry_on {σ : ka_S} {A : ma_X} {j d b : Nat} {Q : Int32 → ka_S → Prop} (hb : b ≤ 1) (ok : ko A) (hm : km σ A) (hj : j < mp_L (kx_M A)) (hd : d < 2 ^ 31) (h : ∀ σ1, ag xM σ σ1 → σ1.1 (25, 0, 0) 0 = 0 → km σ1 A → Q (mi_let (mp_AB (kx_M A) b j) d) σ1) : kw_X9_entry σ (nI j) (nI b) (nI d) Q := by
  have hL := ok.2.2.1.2.1
  have okp := ok.2.2.1.2.2.2.2.2.2 j hj
  refine sm_isEntry_ok ok hm hj ⟨fun q => absurd q (by decide), fun _ => ⟨fun _ => sm_on ok hm (fun σ1 a1 e1 m1 => ?_), fun q => absurd (nI_pos' hd) q⟩⟩
  have z := h σ1 a1 e1 m1
  have r := m1.2.1.2.2 j hj
  have e1 : (221 : Int32) + (2 : Int32) * nI j = nI (221 + 2 * j) := by rw [kI_lit, kI_lit, pk_mul, nI_add]
  rw [show nI b = (0 : Int32) ↔ b = 0 from nI_eq (b := 0) (by omega) (by decide), e1]
  unfold mp_AB at z
  unfold kw_X9_entry_50
  rw [show nI (221 + 2 * j) + (0 : Int32) = nI (221 + 2 * j) from Int32.add_zero _, show (nI (221 + 2 * j) + 1 : Int32) = nI (221 + 2 * j + 1) from nI_1 _, nI_clamp (by omega), nI_clamp (by omega)]
  refine ⟨fun e => ⟨(kI_in (by omega)).mpr (by omega), ?_⟩, fun e => ⟨(kI_in (by omega)).mpr (by omega), ?_⟩⟩
  · rw [if_pos e] at z
    rw [r.1]
    exact sm_code okp.1.g hd z
  · rw [if_neg e] at z
    rw [show 221 + 2 * j + 1 = 222 + 2 * j by omega, r.2]
    exact sm_code okp.2.1 hd z
theorem kl_8 {σ : ka_S} {xs : Nat → Int32} {i : Nat} {o : Int64} (hK : kK σ) : kl_c8 σ xs i o (fun σ1 _ => kK σ1) := by
  obtain ⟨A, ok, hc, hm⟩ := hK
  unfold kl_c8 kw_L_entry
  generalize xs (i + 1) = v
  generalize xs (i + 2) = y
  generalize xs (i + 3) = x
  refine ⟨fun e => sc_entry (b := 0) (by decide) ok hc (fun j d hj hd e1 e3 => ⟨fun _ => ?_, fun q => absurd e q⟩) (fun hv => ⟨fun _ => ?_, fun q => absurd e q⟩) (fun j hj e1 hx => ⟨fun _ => ?_, fun q => absurd e q⟩),
    fun e => sc_entry (b := 1) (by decide) ok hc (fun j d hj hd e1 e3 => ⟨fun q => absurd q e, fun _ => ?_⟩) (fun hv => ⟨fun q => absurd q e, fun _ => ?_⟩) (fun j hj e1 hx => ⟨fun q => absurd q e, fun _ => ?_⟩)⟩
  · subst e1 e3
    exact sm_entry_on (b := 0) (by decide) ok hm hj hd (fun σ2 a2 e2 m2 => kf0 e2 ⟨A, ok, kc_M hc a2, m2⟩)
  · exact sm_entry_off1 ok hm hv (fun σ2 a2 e2 m2 => kf1 (by decide) e2 ⟨A, ok, kc_M hc a2, m2⟩)
  · subst e1
    exact sm_entry_off2 ok hm hj hx (fun σ2 a2 e2 m2 => kf1 (by decide) e2 ⟨A, ok, kc_M hc a2, m2⟩)
  · subst e1 e3
    exact sm_entry_on (b := 1) (by decide) ok hm hj hd (fun σ2 a2 e2 m2 => kf0 e2 ⟨A, ok, kc_M hc a2, m2⟩)
  · exact sm_entry_off1 ok hm hv (fun σ2 a2 e2 m2 => kf1 (by decide) e2 ⟨A, ok, kc_M hc a2, m2⟩)
  · subst e1
    exact sm_entry_off2 ok hm hj hx (fun σ2 a2 e2 m2 => kf1 (by decide) e2 ⟨A, ok, kc_M hc a2, m2⟩)
/-! gaps -/
theorem kl_22 {σ : ka_S} {xs : Nat → Int32} {i : Nat} {o : Int64} (hK : kK σ) : kl_c22 σ xs i o (fun σ1 _ => kK σ1) := by
  obtain ⟨A, ok, hc, hm⟩ := hK
  have hN := ok.2.2.1.1
  unfold kl_c22 kw_L_gap
  generalize xs (i + 1) = v
  have off : ∀ {Q : Int32 → ka_S → Prop}, ¬ 0 ≤ v → (∀ σ1, ag xM σ σ1 → σ1.1 (25, 0, 0) 0 = 1 → km σ1 A → Q 0 σ1) → kw_X9_gap σ v Q := fun hv h => ⟨fun q => absurd q hv, fun _ => sm_off (by decide) ok hm h⟩
  have on : ∀ {Q : Int32 → ka_S → Prop} (g : Nat), g < 2 ^ 31 → (∀ σ1, ag xM σ σ1 → σ1.1 (25, 0, 0) 0 = 0 → km σ1 A → Q (mt_gapP (kx_M A) (mp_N (kx_M A)) 0 g) σ1) → kw_X9_gap σ (nI g) Q := fun g hg h => ⟨fun _ => sm_on ok hm (fun σ1 a1 e1 m1 => ⟨13, sp_X9_gap_22 ok.2.2.1 m1.2.1 13 0 _ g (Nat.zero_add _) (by omega) hg (h σ1 a1 e1 m1)⟩), fun q => absurd (nI_pos' hg) q⟩
  refine ⟨fun q => ?_, fun q => off q (fun σ2 a2 e2 m2 => kf1 (by decide) e2 ⟨A, ok, kc_M hc a2, m2⟩)⟩
  obtain ⟨g, hg, e⟩ := kI_nn q
  subst e
  exact sp_X4_placeOfGap hc.2.1 ok.2.2.1 hg (on g hg (fun σ2 a2 e2 m2 => kf0 e2 ⟨A, ok, kc_M hc a2, m2⟩))
