/-! ===== the reference: a code that is shown ===== -/
def mr_sh (w : ma_W) (line y m c x p : Nat) : Nat := if p < mw_S w then (if c < x then 32 else if c = x then mw_M w p else mt_shown w line y m (c - (x + 1)) p) else 32
theorem mf_txt_wid {w : ma_W} {line y p : Nat} (hl : line ≤ 1) : (mf_txt w line p).length ≤ mf_wid w line y p := by
  unfold mf_wid
  by_cases q : y = 1
  · rw [if_pos q]
    unfold mf_txt
    by_cases z : line = 0
    · rw [if_pos z]; exact Nat.le_max_left _ _
    · rw [if_neg z]; exact Nat.le_max_right _ _
  · rw [if_neg q]; exact Nat.le_refl _
theorem sp_X9_shown_101 {σ : ka_S} {a : ka_K} {M : ma_P} {i line y m c x p : Nat} {K : ka_S → Int32 → Int32 → Int32 → Int32 → Int32 → Int32 → Prop} {Q : Int32 → ka_S → Prop} (hn : ka_n a = 253) (ok : mp_ok M) (hp : rd_P σ a M) (hi : i < mp_N M) (hk : p < mw_S (mp_D M i)) (hl : line ≤ 1)
    (hx : x ≤ 100) (hc : c < 2 ^ 31) (hQ : Q (nI (if c < x then 32 else mt_shown (mp_D M i) line y (m + 1) (c - x) p)) σ)
    (hK : Q (nI (mr_sh (mp_D M i) line y m c (x + mf_wid (mp_D M i) line y p) (p + 1))) σ → K σ (nI i) (nI line) (nI y) (nI c) (nI (x + mf_wid (mp_D M i) line y p)) (nI (p + 1))) :
    kw_X9_shown_101 a K Q σ (nI i) (nI line) (nI y) (nI c) (nI x) (nI p) (nI (mf_txt (mp_D M i) line p).length) (nI (mf_wid (mp_D M i) line y p)) := by
  have hN := ok.1
  have okw := ok.2.2.2.2.2.1 i hi
  have hS := okw.1
  have hw := okw.2.2.2.2.1 p hk
  have b1 := ma_s_len (mf_txt_s okw (line := line) hk)
  have b2 := mf_wid_le okw (line := line) (y := y) hk
  have b3 := mf_txt_wid (w := mp_D M i) (y := y) (p := p) hl
  unfold kw_X9_shown_101
  rw [nI_add, nI_add, nI_ltI hc (by omega), nI_leI (by omega) hc, forall_eq, forall_eq, show (nI p + 1 : Int32) = nI (p + 1) from nI_1 p]
  unfold mr_sh at hK
  refine ⟨fun q => hK ?_, fun q => ⟨fun q2 => ?_, fun q2 => ⟨fun q3 => ?_, fun q3 => ?_⟩⟩⟩
  · rw [if_pos q] at hQ
    by_cases z : p + 1 < mw_S (mp_D M i)
    · rw [if_pos z, if_pos (by omega)]; exact hQ
    · rw [if_neg z]; exact hQ
  · rw [if_neg q] at hQ
    refine hK ?_
    unfold mt_shown at hQ
    by_cases z1 : c - x < mf_wid (mp_D M i) line y p
    · rw [if_pos z1, if_neg (by omega)] at hQ
      by_cases z : p + 1 < mw_S (mp_D M i)
      · rw [if_pos z, if_pos (by omega)]; exact hQ
      · rw [if_neg z]; exact hQ
    · rw [if_neg z1] at hQ
      by_cases z2 : c - x = mf_wid (mp_D M i) line y p
      · rw [if_pos z2] at hQ
        by_cases z : p + 1 < mw_S (mp_D M i)
        · rw [if_pos z] at hQ
          rw [if_pos z, if_neg (by omega), if_pos (by omega)]; exact hQ
        · rw [if_neg z] at hQ
          rw [if_neg z]; exact hQ
      · rw [if_neg z2] at hQ
        by_cases z : p + 1 < mw_S (mp_D M i)
        · rw [if_pos z] at hQ
          rw [if_pos z, if_neg (by omega), if_neg (by omega), show c - (x + mf_wid (mp_D M i) line y p + 1) = c - x - (mf_wid (mp_D M i) line y p + 1) by omega]; exact hQ
        · rw [if_neg z] at hQ
          rw [if_neg z]; exact hQ
  · rw [if_neg q] at hQ
    unfold mt_shown at hQ
    rw [if_pos (by omega), if_pos (by omega)] at hQ
    rw [kI_lit, nI_eq (by omega) (by decide)] at q3
    refine sp_X9_partAt ⟨by rw [hn]; exact (kI_in (by omega)).mpr (by omega), ?_⟩
    rw [nI_clamp (by omega), rd_p hp hi hk]
    unfold kw_X9_shown_141 kw_X9_shown_159
    have e : mf_txt (mp_D M i) line p = mw_P (mp_D M i) p := if_pos q3
    rw [e] at hQ q2
    refine ⟨fun _ => ?_, fun z => absurd (by rw [q3]; rfl) z⟩
    rw [kI_sub (by omega)]
    exact sp_X9_letterOf hw.1.g (by omega) hQ
  · rw [if_neg q] at hQ
    unfold mt_shown at hQ
    rw [if_pos (by omega), if_pos (by omega)] at hQ
    have q3' := q3
    rw [kI_lit, nI_eq (by omega) (by decide)] at q3
    refine sp_X9_glossAt ⟨by rw [hn]; exact (kI_in (by omega)).mpr (by omega), ?_⟩
    rw [nI_clamp (by omega), rd_g hp hi hk]
    unfold kw_X9_shown_141 kw_X9_shown_159
    rw [ma_M_z hw.2.1]
    have e : mf_txt (mp_D M i) line p = if mw_G (mp_D M i) p = [] then [42] else mw_G (mp_D M i) p := if_neg q3
    rw [e] at hQ q2
    refine ⟨fun z => absurd z q3', fun _ => ⟨fun z => ?_, fun z => ?_⟩⟩
    · rw [if_pos z] at hQ q2
      have : c - x = 0 := by
        have h1 : ([42] : List Nat).length = 1 := rfl
        omega
      rw [this] at hQ
      exact hQ
    · rw [if_neg z] at hQ q2
      rw [kI_sub (by omega)]
      exact sp_X9_letterOf hw.2.1 (by omega) hQ
