/-! ===== letters, entries, gaps ===== -/
def mi_let (l : List Nat) (d : Nat) : Int32 := if d < l.length then nI (l.getD d 0) else -9
theorem sc_code {σ : ka_S} {l : List Nat} {d : Nat} {Q : Int32 → ka_S → Prop} (hl : ma_g l) (hd : d < 2 ^ 31) (h : Q (mi_let l d) σ) : kw_X2_code σ (lN (ma_C l)) (nI d) Q := by
  have h8 := hl.1
  unfold mi_let at h
  by_cases q : d < l.length
  · rw [if_pos q] at h
    exact sp_X2_code hl q h
  · rw [if_neg q] at h
    exact sp_X2_codeN hl (Or.inr ((nI_leI (by omega) hd).mpr (by omega))) h
theorem kI_nn {x : Int32} (h : 0 ≤ x) : ∃ d, d < 2 ^ 31 ∧ x = nI d := nI_of (fun q => by
  have h1 := Int32.le_iff_toInt_le.mp h
  have h2 := Int32.lt_iff_toInt_lt.mp q
  omega)
def mw_PG (w : ma_W) (b p : Nat) : List Nat := if b = 0 then mw_P w p else mw_G w p
theorem sc_letter {σ : ka_S} {A : ma_X} {v u x : Int32} {b : Nat} {Q : Int32 → ka_S → Prop} {X : Nat → ka_S → Prop} (hb : b ≤ 1) (ok : ko A) (hc : kc σ A) (h : ∀ j p d, j < mp_N (kx_M A) → p < mw_S (mp_D (kx_M A) j) → d < 2 ^ 31 → v = nI j → u = nI p → x = nI d → Q (mi_let (mw_PG (mp_D (kx_M A) j) b p) d) σ)
    (h0 : (∀ j p, j < mp_N (kx_M A) → p < mw_S (mp_D (kx_M A) j) → ¬ (v = nI j ∧ u = nI p)) → X 2 σ) (h1 : ∀ j p, j < mp_N (kx_M A) → p < mw_S (mp_D (kx_M A) j) → v = nI j → u = nI p → ¬ 0 ≤ x → X 0 σ) : kw_X8_letter σ v u (nI b) x Q X := by
  have hN := ok.2.2.1.1
  refine sc_part ok hc (fun j p hj hp e e2 => ⟨fun q => ?_, fun q => h1 j p hj hp e e2 q⟩) h0
  obtain ⟨d, hd, e3⟩ := kI_nn q
  have z := h j p d hj hp hd e e2 e3
  subst e e2 e3
  have okw := ok.2.2.1.2.2.2.2.2.1 j hj
  have hS := okw.1
  have okp := okw.2.2.2.2.1 p hp
  have hw := (hc.2.1.2.2 j hj).2.1 p hp
  have v12 : vp_in (nI j) 12 := (kI_in (by omega)).mpr (by omega)
  have v4 : vp_in (nI p) 4 := (kI_in (by omega)).mpr (by omega)
  rw [nI_clamp (by omega), nI_clamp (by omega), show nI b = (0 : Int32) ↔ b = 0 from nI_eq (b := 0) (by omega) (by decide)]
  unfold mw_PG at z
  refine ⟨fun e => ⟨v12, v4, ?_⟩, fun e => ⟨v12, v4, ?_⟩⟩
  · rw [if_pos e] at z
    rw [hw.1]
    exact sc_code okp.1.g hd z
  · rw [if_neg e] at z
    rw [hw.2.1]
    exact sc_code okp.2.1 hd z
/-! entries -/
theorem sc_isEntry {σ : ka_S} {A : ma_X} {v : Int32} {Q : ka_S → Prop} {X : Nat → ka_S → Prop} (ok : ko A) (hc : kc σ A) (h1 : ∀ j, j < mp_L (kx_M A) → v = nI j → Q σ) (h0 : (∀ j, j < mp_L (kx_M A) → v ≠ nI j) → X 2 σ) : kw_X8_requireEntry σ v Q X := by
  have hL := ok.2.2.1.2.1
  unfold kw_X8_requireEntry
  rw [hc.2.1.2.1.1]
  refine ⟨fun q => h0 (fun j hj e => ?_), fun q => ⟨fun q2 => ?_, fun q2 => h0 (fun j hj e => ?_)⟩⟩
  · rw [e] at q
    exact absurd q (nI_pos (by omega))
  · obtain ⟨j, hj, e⟩ := nI_of q
    rw [e, nI_ltI hj (by omega)] at q2
    exact h1 j q2 e
  · rw [e, nI_ltI (by omega) (by omega)] at q2
    exact q2 hj
def mp_AB (M : ma_P) (b e : Nat) : List Nat := if b = 0 then mp_A M e else mp_B M e
theorem sc_entry {σ : ka_S} {A : ma_X} {v x : Int32} {b : Nat} {Q : Int32 → ka_S → Prop} {X : Nat → ka_S → Prop} (hb : b ≤ 1) (ok : ko A) (hc : kc σ A) (h : ∀ j d, j < mp_L (kx_M A) → d < 2 ^ 31 → v = nI j → x = nI d → Q (mi_let (mp_AB (kx_M A) b j) d) σ)
    (h0 : (∀ j, j < mp_L (kx_M A) → v ≠ nI j) → X 2 σ) (h1 : ∀ j, j < mp_L (kx_M A) → v = nI j → ¬ 0 ≤ x → X 0 σ) : kw_X8_entry σ v (nI b) x Q X := by
  have hL := ok.2.2.1.2.1
  refine sc_isEntry ok hc (fun j hj e => ⟨fun q => ?_, fun q => h1 j hj e q⟩) h0
  obtain ⟨d, hd, e3⟩ := kI_nn q
  have z := h j d hj hd e e3
  subst e e3
  have okp := ok.2.2.1.2.2.2.2.2.2 j hj
  have hw := hc.2.1.2.1.2 j hj
  have v16 : vp_in (nI j) 16 := (kI_in (by omega)).mpr (by omega)
  rw [nI_clamp (by omega), show nI b = (0 : Int32) ↔ b = 0 from nI_eq (b := 0) (by omega) (by decide)]
  unfold mp_AB at z
  refine ⟨fun e => ⟨v16, ?_⟩, fun e => ⟨v16, ?_⟩⟩
  · rw [if_pos e] at z
    rw [hw.1]
    exact sc_code okp.1.g hd z
  · rw [if_neg e] at z
    rw [hw.2]
    exact sc_code okp.2.1 hd z
/-! gaps -/
