theorem sp_X9_shown_6 {σ : ka_S} {a : ka_K} {M : ma_P} {i line y c : Nat} {Q : Int32 → ka_S → Prop} (hn : ka_n a = 253) (ok : mp_ok M) (hp : rd_P σ a M) (hi : i < mp_N M) (hl : line ≤ 1) (hy : y ≤ 1) (hc : c < 2 ^ 31) :
    ∀ (n m p x : Nat), p ≤ mw_S (mp_D M i) → mw_S (mp_D M i) < p + n → mw_S (mp_D M i) ≤ p + m → x ≤ 9 * p → Q (nI (if p = 0 then mt_shown (mp_D M i) line y m c 0 else mr_sh (mp_D M i) line y m c x p)) σ → kw_X9_shown_6 a Q n σ (nI i) (nI line) (nI y) (nI c) (nI x) (nI p) := by
  intro n
  induction n with
  | zero => intro m p x h1 h2; omega
  | succ n ih =>
    intro m p x h1 h2 h3 h4 h
    have hN := ok.1
    have okw := ok.2.2.2.2.2.1 i hi
    have hS := okw.1
    rw [kw_X9_shown_6]
    refine sp_X9_parts hn ok hp hi ⟨fun q => ?_, fun q => sp_X9_partAt ⟨?_, ?_⟩⟩
    · rw [nI_leI (by omega) (by omega)] at q
      rw [if_neg (by omega)] at h
      unfold mr_sh at h
      rw [if_neg (by omega)] at h
      exact h
    · rw [nI_leI (by omega) (by omega)] at q
      rw [hn]
      exact (kI_in (by omega)).mpr (by omega)
    · rw [nI_leI (by omega) (by omega)] at q
      have hk : p < mw_S (mp_D M i) := by omega
      obtain ⟨m, rfl⟩ : ∃ m', m = m' + 1 := ⟨m - 1, by omega⟩
      have hw := okw.2.2.2.2.1 p hk
      have b1 := mf_p_le okw hk
      have b2 := mf_s_le okw hk
      have b3 := mf_wid_le okw (line := line) (y := y) hk
      rw [nI_clamp (by omega), rd_p hp hi hk]
      refine sp_X9_lettersOf hw.1.g (sp_X9_shownLength hn ok hp hi hk ?_)
      have t101 : ∀ x', x' ≤ 9 * p + 1 → Q (nI (if c < x' then 32 else mt_shown (mp_D M i) line y (m + 1) (c - x') p)) σ → kw_X9_shown_101 a (kw_X9_shown_6 a Q n) Q σ (nI i) (nI line) (nI y) (nI c) (nI x') (nI p) (nI (mf_txt (mp_D M i) line p).length) (nI (mf_wid (mp_D M i) line y p)) := fun x' hx' hq =>
        sp_X9_shown_101 (m := m) hn ok hp hi hk hl (by omega) hc hq (fun hz => ih m (p + 1) (x' + mf_wid (mp_D M i) line y p) (by omega) (by omega) (by omega) (by omega) (by rw [if_neg (by omega)]; exact hz))
      have t74 : kw_X9_shown_74 a (kw_X9_shown_6 a Q n) Q σ (nI i) (nI line) (nI y) (nI c) (nI x) (nI p) (nI (mf_txt (mp_D M i) line p).length) (nI (mf_wid (mp_D M i) line y p)) := by
        unfold kw_X9_shown_74
        rw [kI_lit, nI_leI (by omega) (by decide)]
        refine ⟨fun z => t101 x (by omega) ?_, fun z => ⟨fun z2 => sp_X9_mark ⟨?_, ?_⟩, fun z2 => ?_⟩⟩
        · obtain rfl : p = 0 := by omega
          obtain rfl : x = 0 := by omega
          rw [if_pos rfl] at h
          rw [if_neg (Nat.not_lt_zero _), Nat.sub_zero]
          exact h
        · rw [hn]
          exact (kI_in (by omega)).mpr (by omega)
        · rw [nI_eq hc (by omega)] at z2
          rw [if_neg (by omega)] at h
          unfold mr_sh at h
          rw [if_pos hk, if_neg (by omega), if_pos z2] at h
          rw [nI_clamp (by omega), rd_m hp hi hk (by omega), lN_i]
          exact h
        · rw [nI_eq hc (by omega)] at z2
          rw [if_neg (by omega)] at h
          unfold mr_sh at h
          rw [if_pos hk] at h
          rw [forall_eq, show (nI x + 1 : Int32) = nI (x + 1) from nI_1 x]
          refine t101 (x + 1) (by omega) ?_
          by_cases z3 : c < x
          · rw [if_pos z3] at h
            rw [if_pos (by omega)]; exact h
          · rw [if_neg z3, if_neg z2] at h
            rw [if_neg (by omega)]; exact h
      have t49 : kw_X9_shown_49 a (kw_X9_shown_6 a Q n) Q σ (nI i) (nI line) (nI y) (nI c) (nI x) (nI p) (nI (mf_p (mp_D M i) p)) (nI (mf_s (mp_D M i) p)) (nI (mf_txt (mp_D M i) line p).length) := by
        unfold kw_X9_shown_49
        unfold mf_wid at t74
        rw [kI_lit, nI_eq (by omega) (by decide), nI_leI (by omega) (by omega)]
        refine ⟨fun z => ?_, fun z => ⟨fun z2 => ?_, fun z2 => ?_⟩⟩
        · rw [if_neg (by omega)] at t74; exact t74
        · rw [if_pos (by omega), show mf_x (mp_D M i) p = mf_s (mp_D M i) p from Nat.max_eq_right z2] at t74; exact t74
        · rw [if_pos (by omega), show mf_x (mp_D M i) p = mf_p (mp_D M i) p from Nat.max_eq_left (by omega)] at t74; exact t74
      refine ⟨fun z => ?_, fun z => ?_⟩
      · rw [kI_lit, nI_eq (by omega) (by decide)] at z
        rw [show mf_txt (mp_D M i) line p = mw_P (mp_D M i) p from if_pos z] at t49
        exact t49
      · rw [kI_lit, nI_eq (by omega) (by decide)] at z
        rw [show mf_txt (mp_D M i) line p = mw_sg (mp_D M i) p from if_neg z] at t49
        exact t49
theorem sp_X9_shown {σ : ka_S} {a : ka_K} {M : ma_P} {i line y c : Nat} {Q : Int32 → ka_S → Prop} (hn : ka_n a = 253) (ok : mp_ok M) (hp : rd_P σ a M) (hi : i < mp_N M) (hl : line ≤ 1) (hy : y ≤ 1) (hc : c < 2 ^ 31)
    (h : Q (nI (mt_shown (mp_D M i) line y 4 c 0)) σ) : kw_X9_shown σ a (nI i) (nI line) (nI y) (nI c) Q :=
  ⟨5, sp_X9_shown_6 hn ok hp hi hl hy hc 5 4 0 0 (Nat.zero_le _) (by have := (ok.2.2.2.2.2.1 i hi).1; omega) (by have := (ok.2.2.2.2.2.1 i hi).1; omega) (Nat.le_refl _) h⟩
