/-! ===== the layout's numbers, as the reference keeps them ===== -/
theorem mf_row0 {w : ma_W} {W : Nat} (ok : mw_ok w) (hW : 10 ≤ W) (h : mw_E w = 0) : mf_row w W = 0 := by
  have hF : mw_F w = 0 := by
    rcases Nat.eq_zero_or_pos (mw_F w) with q | q
    · exact q
    · have := ok.2.2.2.1 q; omega
  show (mw_F w + W - 1) / W = 0
  rw [hF]
  exact Nat.div_eq_of_lt (by omega)
/-- the length of a line after k words -/
def mt_len (M : ma_P) (W y : Nat) : Nat → Nat → Nat
  | 0, _ => 0
  | k + 1, l => if l = ml_line M W y k then tx (mt_lay M W y (k + 1)) else mt_len M W y k l
theorem ml_tl {M : ma_P} {W y k : Nat} (ok : mp_ok M) (hW : 10 ≤ W ∧ W ≤ 60) (hk : k < mp_N M) : tl (mt_lay M W y (k + 1)) = ml_line M W y k + 1 := by
  have b := mt_lay_le (y := y) ok hW k (by omega)
  have : 1 ≤ tl (mt_lay M W y (k + 1)) := by
    show 1 ≤ if mf_fit M W y (mt_lay M W y k) k then tl (mt_lay M W y k) else tl (mt_lay M W y k) + 1
    by_cases q : mf_fit M W y (mt_lay M W y k) k
    · rw [if_pos q]; exact (b.2.2.2.2.2 q.1).1
    · rw [if_neg q]; omega
  show _ = tl (mt_lay M W y (k + 1)) - 1 + 1
  omega
theorem mt_ts {M : ma_P} {W y : Nat} (ok : mp_ok M) : ∀ k, k < mp_N M → ts (mt_lay M W y k) = ma_sum (mf_sent M) k := by
  intro k
  induction k with
  | zero => intro _; rfl
  | succ k ih =>
    intro hk
    have hE := (ok.2.2.2.2.2.1 k (by omega)).2.1
    show (if mw_E (mp_D M k) = 0 then ts (mt_lay M W y k) else ts (mt_lay M W y k) + 1) = ma_sum (mf_sent M) k + (if mw_E (mp_D M k) = 1 ∨ k + 1 = mp_N M then 1 else 0)
    rw [ih (by omega)]
    by_cases q : mw_E (mp_D M k) = 0
    · rw [if_pos q, if_neg (by omega)]; rfl
    · rw [if_neg q, if_pos (by omega)]
/-- where the rows of the sentence begin that is not at its end -/
def mg_geo (M : ma_P) (W y k c F R : Nat) : Prop := c ≤ k ∧ tr (mt_lay M W y k) = R + 2 * (tl (mt_lay M W y k) - F) ∧ F ≤ tl (mt_lay M W y k) ∧
  (∀ i, c ≤ i → i < k → ml_row M W y i = R + 2 * (ml_line M W y i - F) ∧ F ≤ ml_line M W y i ∧ mw_E (mp_D M i) = 0) ∧ (te (mt_lay M W y k) = 0 → k < mp_N M → F < tl (mt_lay M W y k)) ∧ (te (mt_lay M W y k) ≠ 0 ∨ k = mp_N M → c = k ∧ F = tl (mt_lay M W y k))
/-- the next word in it -/
theorem mg_step {M : ma_P} {W y k c F R : Nat} (ok : mp_ok M) (hW : 10 ≤ W ∧ W ≤ 60) (hk : k < mp_N M) (g : mg_geo M W y k c F R) :
    (∀ i, c ≤ i → i < k + 1 → ml_row M W y i = R + 2 * (ml_line M W y i - F) ∧ F ≤ ml_line M W y i) ∧ tr (mt_lay M W y (k + 1)) = R + 2 * (tl (mt_lay M W y (k + 1)) - F) + mf_row (mp_D M k) W ∧ F < tl (mt_lay M W y (k + 1)) := by
  obtain ⟨g1, g2, g3, g4, g5, g6⟩ := g
  have b := mt_lay_le (y := y) ok hW k (by omega)
  have e1 := ml_tl (y := y) ok hW hk
  have e2 : tl (mt_lay M W y (k + 1)) = if mf_fit M W y (mt_lay M W y k) k then tl (mt_lay M W y k) else tl (mt_lay M W y k) + 1 := rfl
  have e3 := ml_row_tr (y := y) ok hW hk
  have e4 : ml_row M W y k = (if mf_fit M W y (mt_lay M W y k) k then tr (mt_lay M W y k) else tr (mt_lay M W y k) + 2) - 2 := rfl
  have e5 : (if mw_E (mp_D M k) = 0 then 0 else mf_row (mp_D M k) W) = mf_row (mp_D M k) W := by
    by_cases q : mw_E (mp_D M k) = 0
    · rw [if_pos q, mf_row0 (ok.2.2.2.2.2.1 k hk) hW.1 q]
    · rw [if_neg q]
  rw [e5] at e3
  have hrow : ml_row M W y k = R + 2 * (ml_line M W y k - F) ∧ F ≤ ml_line M W y k := by
    by_cases q : mf_fit M W y (mt_lay M W y k) k
    · rw [if_pos q] at e2 e4
      have := g5 q.1 hk
      omega
    · rw [if_neg q] at e2 e4
      omega
  refine ⟨fun i h1 h2 => ?_, by omega, by omega⟩
  by_cases e : i = k
  · rw [e]; exact hrow
  · exact ⟨(g4 i h1 (by omega)).1, (g4 i h1 (by omega)).2.1⟩
theorem mt_tl_mono {M : ma_P} {W y : Nat} (j : Nat) : tl (mt_lay M W y j) ≤ tl (mt_lay M W y (j + 1)) := by
  show _ ≤ if mf_fit M W y (mt_lay M W y j) j then tl (mt_lay M W y j) else tl (mt_lay M W y j) + 1
  by_cases q : mf_fit M W y (mt_lay M W y j) j
  · rw [if_pos q]; exact Nat.le_refl _
  · rw [if_neg q]; omega
theorem ml_line_mono {M : ma_P} {W y : Nat} (i : Nat) : ∀ d, ml_line M W y i ≤ ml_line M W y (i + d) := by
  intro d
  induction d with
  | zero => exact Nat.le_refl _
  | succ d ih =>
    refine Nat.le_trans ih ?_
    have := mt_tl_mono (M := M) (W := W) (y := y) (i + d + 1)
    show tl (mt_lay M W y (i + d + 1)) - 1 ≤ tl (mt_lay M W y (i + d + 1 + 1)) - 1
    omega
theorem ml_line_le {M : ma_P} {W y i j : Nat} (h : i ≤ j) : ml_line M W y i ≤ ml_line M W y j := by
  have := ml_line_mono (M := M) (W := W) (y := y) i (j - i)
  rw [show i + (j - i) = j by omega] at this
  exact this
/-! ===== the reference's layout, as it stands after k words ===== -/
theorem xrow_27 (κ n : Nat) (h1 : 27 ≤ κ) (h2 : κ ≤ 31) : ¬ xrow (κ, 0, 0) n := by
  intro q
  rcases q with q | q
  · have := q.1
    have : 32 ≤ κ := q.1
    omega
  · have : κ = 25 := congrArg Prod.fst q.1
    omega
theorem xrow_11 : ¬ xrow (25, 0, 0) 11 := by
  intro q
  rcases q with q | q
  · exact absurd q.1 (by decide)
  · exact absurd q.2 (by decide)
theorem xrow_13 : ¬ xrow (25, 0, 0) 13 := by
  intro q
  rcases q with q | q
  · exact absurd q.1 (by decide)
  · exact absurd q.2 (by decide)
theorem xy_27 {κ n : Nat} (h1 : 27 ≤ κ) (h2 : κ ≤ 34) : xy (κ, 0, 0) n := Or.inl ⟨h1, h2⟩
theorem xy_25 {n : Nat} (h1 : 11 ≤ n) (h2 : n ≤ 13) : xy (25, 0, 0) n := Or.inr ⟨rfl, h1, h2⟩
