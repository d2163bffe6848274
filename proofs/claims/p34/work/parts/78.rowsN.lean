/-! ===== the words of one line ===== -/
theorem ml_same1 {M : ma_P} {W y i : Nat} (ok : mp_ok M) (hW : 10 ≤ W ∧ W ≤ 60) (hi : i + 1 < mp_N M) (h : ml_line M W y (i + 1) = ml_line M W y i) :
    ml_row M W y (i + 1) = ml_row M W y i ∧ ml_sent M W y (i + 1) = ml_sent M W y i ∧ ml_col M W y (i + 1) = tx (mt_lay M W y (i + 1)) + mp_S M := by
  have e1 := ml_tl (y := y) ok hW (show i < mp_N M by omega)
  have e2 := ml_tl (y := y) ok hW hi
  have e3 : tl (mt_lay M W y (i + 1 + 1)) = if mf_fit M W y (mt_lay M W y (i + 1)) (i + 1) then tl (mt_lay M W y (i + 1)) else tl (mt_lay M W y (i + 1)) + 1 := rfl
  have c : mf_fit M W y (mt_lay M W y (i + 1)) (i + 1) := by
    refine Decidable.byContradiction (fun z => ?_)
    rw [if_neg z] at e3
    omega
  have hte : mw_E (mp_D M i) = 0 := c.1
  have e4 := ml_row_tr (y := y) ok hW (show i < mp_N M by omega)
  rw [if_pos hte] at e4
  refine ⟨?_, ?_, if_pos c⟩
  · show (if mf_fit M W y (mt_lay M W y (i + 1)) (i + 1) then tr (mt_lay M W y (i + 1)) else tr (mt_lay M W y (i + 1)) + 2) - 2 = _
    rw [if_pos c]
    omega
  · show (if mw_E (mp_D M i) = 0 then ts (mt_lay M W y i) else ts (mt_lay M W y i) + 1) = _
    rw [if_pos hte]; rfl
theorem ml_same {M : ma_P} {W y : Nat} (ok : mp_ok M) (hW : 10 ≤ W ∧ W ≤ 60) : ∀ d i, i + d < mp_N M → ml_line M W y (i + d) = ml_line M W y i →
    ml_row M W y (i + d) = ml_row M W y i ∧ ml_sent M W y (i + d) = ml_sent M W y i ∧ (0 < d → ml_col M W y i + mt_width (mp_D M i) y ≤ ml_col M W y (i + d)) := by
  intro d
  induction d with
  | zero => intro i _ _; exact ⟨rfl, rfl, fun h => absurd h (Nat.lt_irrefl 0)⟩
  | succ d ih =>
    intro i h1 h2
    have m1 := ml_line_le (M := M) (W := W) (y := y) (show i ≤ i + d by omega)
    have m2 := ml_line_le (M := M) (W := W) (y := y) (show i + d ≤ i + (d + 1) by omega)
    obtain ⟨z1, z2, z3⟩ := ih i (by omega) (by omega)
    obtain ⟨s1, s2, s3⟩ := ml_same1 ok hW (show i + d + 1 < mp_N M by omega) (show ml_line M W y (i + d + 1) = ml_line M W y (i + d) by rw [show i + d + 1 = i + (d + 1) by omega]; omega)
    rw [show i + (d + 1) = i + d + 1 by omega]
    refine ⟨s1.trans z1, s2.trans z2, fun _ => ?_⟩
    rw [s3, mt_lay_x]
    rcases Nat.eq_zero_or_pos d with q | q
    · subst q
      show ml_col M W y i + mt_width (mp_D M i) y ≤ ml_col M W y i + mt_width (mp_D M i) y + mp_S M
      omega
    · have := z3 q
      omega
/-- the last word of a line tells its length -/
theorem mt_len_last {M : ma_P} {W y w : Nat} : ∀ k, w < k → (∀ j, w < j → j < k → ml_line M W y j ≠ ml_line M W y w) → mt_len M W y k (ml_line M W y w) = tx (mt_lay M W y (w + 1)) := by
  intro k
  induction k with
  | zero => intro h; exact absurd h (Nat.not_lt_zero w)
  | succ k ih =>
    intro h1 h2
    show (if ml_line M W y w = ml_line M W y k then tx (mt_lay M W y (k + 1)) else mt_len M W y k (ml_line M W y w)) = _
    by_cases e : w = k
    · rw [e, if_pos rfl]
    · rw [if_neg (fun z => h2 k (by omega) (Nat.lt_succ_self k) z.symm)]
      exact ih (by omega) (fun j hj1 hj2 => h2 j hj1 (by omega))
theorem mr_last {M : ma_P} {W y row : Nat} (ok : mp_ok M) (hW : 10 ≤ W ∧ W ≤ 60) (h : row < tr (mt_lay M W y (mp_N M))) : ∀ j, mr_word M W y row < j → j < mp_N M → ml_line M W y j ≠ ml_line M W y (mr_word M W y row) := by
  intro j h1 h2 e
  obtain ⟨f1, f2, f3, f4⟩ := mr_facts (y := y) ok hW h
  have := (ml_same (y := y) ok hW (j - mr_word M W y row) (mr_word M W y row) (by omega) (by rw [show mr_word M W y row + (j - mr_word M W y row) = j by omega]; exact e)).1
  rw [show mr_word M W y row + (j - mr_word M W y row) = j by omega] at this
  have := f4 j h1 h2
  omega
/-- behind its width a word shows blanks -/
theorem mt_shown_out {w : ma_W} {line y : Nat} : ∀ (n c p : Nat), p < mw_S w → ma_sum (mf_wid w line y) (mw_S w) + (mw_S w - 1 - p) ≤ c + ma_sum (mf_wid w line y) p → mt_shown w line y n c p = 32 := by
  intro n
  induction n with
  | zero => intro c p _ _; rfl
  | succ n ih =>
    intro c p hp h
    have e1 : ma_sum (mf_wid w line y) (p + 1) = ma_sum (mf_wid w line y) p + mf_wid w line y p := rfl
    have e2 := ma_sum_mono (f := mf_wid w line y) (show p + 1 ≤ mw_S w by omega)
    unfold mt_shown
    rw [if_neg (show ¬ c < mf_wid w line y p by omega)]
    by_cases q : c = mf_wid w line y p
    · rw [if_pos q, if_neg (by omega)]
    · rw [if_neg q]
      by_cases q2 : p + 1 < mw_S w
      · rw [if_pos q2]
        exact ih _ _ q2 (by omega)
      · rw [if_neg q2]
theorem ma_sum_le2 {f g : Nat → Nat} : ∀ (n : Nat), (∀ k, k < n → f k ≤ g k) → ma_sum f n ≤ ma_sum g n := by
  intro n
  induction n with
  | zero => intro _; exact Nat.le_refl _
  | succ n ih =>
    intro h
    have h1 := ih (fun k hk => h k (Nat.lt_succ_of_lt hk))
    have h2 := h n (Nat.lt_succ_self n)
    show ma_sum f n + f n ≤ ma_sum g n + g n
    omega
theorem mt_shown_wide {w : ma_W} {line y c : Nat} (ok : mw_ok w) (hl : line ≤ 1) (hy : y ≤ 1) (h : mt_width w y ≤ c) : mt_shown w line y 4 c 0 = 32 := by
  have hS := ok.1
  refine mt_shown_out 4 c 0 (by omega) ?_
  have key : ma_sum (mf_wid w line y) (mw_S w) + (mw_S w - 1) ≤ mt_width w y := by
    unfold mt_width
    by_cases e : y = 1
    · rw [if_pos e]
      have : ma_sum (mf_wid w line y) (mw_S w) ≤ ma_sum (mf_x w) (mw_S w) := ma_sum_le2 _ (fun k _ => by
        show (if y = 1 then mf_x w k else _) ≤ _
        rw [if_pos e]; exact Nat.le_refl _)
      omega
    · rw [if_neg e]
      have e3 : ∀ k, mf_wid w line y k = (mf_txt w line k).length := fun k => by
        show (if y = 1 then mf_x w k else _) = _
        rw [if_neg e]
      by_cases e2 : line = 0
      · have : ma_sum (mf_wid w line y) (mw_S w) ≤ ma_sum (mf_p w) (mw_S w) := ma_sum_le2 _ (fun k _ => by
          rw [e3]
          show (if line = 0 then mw_P w k else mw_sg w k).length ≤ _
          rw [if_pos e2]; exact Nat.le_refl _)
        have := Nat.le_max_left (ma_sum (mf_p w) (mw_S w)) (ma_sum (mf_s w) (mw_S w))
        omega
      · have : ma_sum (mf_wid w line y) (mw_S w) ≤ ma_sum (mf_s w) (mw_S w) := ma_sum_le2 _ (fun k _ => by
          rw [e3]
          show (if line = 0 then mw_P w k else mw_sg w k).length ≤ _
          rw [if_neg e2]; exact Nat.le_refl _)
        have := Nat.le_max_right (ma_sum (mf_p w) (mw_S w)) (ma_sum (mf_s w) (mw_S w))
        omega
  have e0 : ma_sum (mf_wid w line y) 0 = 0 := rfl
  omega
/-- what the reference finds in a column: the last word of the line that stands there -/
def mr_at (M : ma_P) (W y L kind c : Nat) : Nat → Nat
  | 0 => 32
  | k + 1 => if ml_line M W y k = L ∧ ml_col M W y k ≤ c ∧ c < ml_col M W y k + mt_width (mp_D M k) y then mt_shown (mp_D M k) kind y 4 (c - ml_col M W y k) 0 else mr_at M W y L kind c k
theorem mr_at_32 {M : ma_P} {W y L kind c : Nat} : ∀ k, (∀ i, i < k → ml_line M W y i = L → ml_col M W y i + mt_width (mp_D M i) y ≤ c) → mr_at M W y L kind c k = 32 := by
  intro k
  induction k with
  | zero => intro _; rfl
  | succ k ih =>
    intro h
    unfold mr_at
    rw [if_neg (fun z => by have := h k (Nat.lt_succ_self k) z.1; omega)]
    exact ih (fun i hi => h i (by omega))
theorem mr_at_scan {M : ma_P} {W y w kind c : Nat} (ok : mp_ok M) (hW : 10 ≤ W ∧ W ≤ 60) (hy : y ≤ 1) (hw : w < mp_N M) (hk : kind ≤ 1) : ∀ k, k ≤ w + 1 → mr_at M W y (ml_line M W y w) kind c k = mr_scan M W y w kind c k := by
  intro k
  induction k with
  | zero => intro _; rfl
  | succ k ih =>
    intro h
    unfold mr_at mr_scan
    by_cases e : ml_line M W y k = ml_line M W y w
    · rw [if_pos e]
      by_cases q : c < ml_col M W y k
      · rw [if_neg (fun z => by have := z.2.1; omega), if_pos q]
        exact ih (by omega)
      · rw [if_neg q]
        by_cases q2 : c < ml_col M W y k + mt_width (mp_D M k) y
        · rw [if_pos ⟨e, by omega, q2⟩]
        · rw [if_neg (fun z => q2 z.2.2), mt_shown_wide (ok.2.2.2.2.2.1 k (by omega)) hk hy (by omega)]
          refine mr_at_32 k (fun i hi hl => ?_)
          have := (ml_same (y := y) ok hW (k - i) i (by omega) (by rw [show i + (k - i) = k by omega, hl, e])).2.2 (by omega)
          rw [show i + (k - i) = k by omega] at this
          omega
    · rw [if_neg e, if_neg (fun z => e z.1)]
      refine mr_at_32 k (fun i hi hl => ?_)
      have m1 := ml_line_le (M := M) (W := W) (y := y) (show i ≤ k by omega)
      have m2 := ml_line_le (M := M) (W := W) (y := y) (show k ≤ w by omega)
      omega
theorem mr_at_all {M : ma_P} {W y w kind c : Nat} (hw : w < mp_N M) (hl : ∀ j, w < j → j < mp_N M → ml_line M W y j ≠ ml_line M W y w) : ∀ d, w + 1 + d ≤ mp_N M → mr_at M W y (ml_line M W y w) kind c (w + 1 + d) = mr_at M W y (ml_line M W y w) kind c (w + 1) := by
  intro d
  induction d with
  | zero => intro _; rfl
  | succ d ih =>
    intro h
    rw [show w + 1 + (d + 1) = (w + 1 + d) + 1 by omega]
    show (if _ then _ else mr_at M W y (ml_line M W y w) kind c (w + 1 + d)) = _
    rw [if_neg (fun z => hl (w + 1 + d) (by omega) (by omega) z.1)]
    exact ih (by omega)
/-- the empty columns, line by line and word by word -/
theorem mt_empty1 {M : ma_P} {W y : Nat} (ok : mp_ok M) (hW : 10 ≤ W ∧ W ≤ 60) : ∀ k, k < mp_N M → ma_sum (fun l => W - mt_len M W y (k + 1) l) (ml_line M W y k) = ma_sum (fun i => if ml_line M W y (i + 1) ≠ ml_line M W y i then W - tx (mt_lay M W y (i + 1)) else 0) k := by
  intro k
  induction k with
  | zero =>
    intro h
    have e : ml_line M W y 0 = 0 := by
      show (if mf_fit M W y (mt_lay M W y 0) 0 then 0 else 0 + 1) - 1 = 0
      rw [if_neg (fun z => absurd (show (1 : Nat) = 0 from z.1) (by decide))]
    rw [e]; rfl
  | succ k ih =>
    intro h
    have z := ih (by omega)
    have e1 := ml_tl (y := y) ok hW (show k < mp_N M by omega)
    have e2 := ml_tl (y := y) ok hW h
    have e3 : tl (mt_lay M W y (k + 1 + 1)) = if mf_fit M W y (mt_lay M W y (k + 1)) (k + 1) then tl (mt_lay M W y (k + 1)) else tl (mt_lay M W y (k + 1)) + 1 := rfl
    have hst : ∀ l, l ≠ ml_line M W y (k + 1) → mt_len M W y (k + 1 + 1) l = mt_len M W y (k + 1) l := fun l hl => if_neg hl
    show _ = ma_sum _ k + (if ml_line M W y (k + 1) ≠ ml_line M W y k then W - tx (mt_lay M W y (k + 1)) else 0)
    rw [← z]
    by_cases c : mf_fit M W y (mt_lay M W y (k + 1)) (k + 1)
    · rw [if_pos c] at e3
      have e4 : ml_line M W y (k + 1) = ml_line M W y k := by omega
      rw [if_neg (fun q => q e4), e4, Nat.add_zero]
      exact ma_sum_congr _ (fun l hl => by rw [hst l (by omega)])
    · rw [if_neg c] at e3
      have e4 : ml_line M W y (k + 1) = ml_line M W y k + 1 := by omega
      rw [if_pos (by omega), e4]
      show ma_sum _ (ml_line M W y k) + (W - mt_len M W y (k + 1 + 1) (ml_line M W y k)) = _
      rw [hst _ (by omega), show mt_len M W y (k + 1) (ml_line M W y k) = tx (mt_lay M W y (k + 1)) from if_pos rfl]
      congr 1
      exact ma_sum_congr _ (fun l hl => by rw [hst l (by omega)])
theorem mt_empty {M : ma_P} {W y : Nat} (ok : mp_ok M) (hW : 10 ≤ W ∧ W ≤ 60) : ma_sum (fun l => W - mt_len M W y (mp_N M) l) (tl (mt_lay M W y (mp_N M))) = ma_sum (mf_emp M W y) (mp_N M) := by
  obtain ⟨N, hN⟩ : ∃ z, mp_N M = z := ⟨_, rfl⟩
  cases N with
  | zero => rw [hN]; rfl
  | succ n =>
    have z := mt_empty1 (y := y) ok hW n (by omega)
    have e1 := ml_tl (y := y) ok hW (show n < mp_N M by omega)
    rw [hN, e1]
    show ma_sum _ (ml_line M W y n) + (W - mt_len M W y (n + 1) (ml_line M W y n)) = ma_sum (mf_emp M W y) n + mf_emp M W y n
    rw [z, show mt_len M W y (n + 1) (ml_line M W y n) = tx (mt_lay M W y (n + 1)) from if_pos rfl]
    have e2 : mf_emp M W y n = W - tx (mt_lay M W y (n + 1)) := by
      show (if n + 1 = mp_N M ∨ _ then _ else 0) = _
      rw [if_pos (Or.inl hN.symm)]; rfl
    rw [e2]
    congr 1
    refine ma_sum_congr _ (fun i hi => ?_)
    show _ = if i + 1 = mp_N M ∨ ml_line M W y (i + 1) ≠ ml_line M W y i then W - (ml_col M W y i + mt_width (mp_D M i) y) else 0
    by_cases q : ml_line M W y (i + 1) ≠ ml_line M W y i
    · rw [if_pos q, if_pos (Or.inr q)]; rfl
    · rw [if_neg q, if_neg (fun z2 => z2.elim (fun z3 => by omega) q)]
