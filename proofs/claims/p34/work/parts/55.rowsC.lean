/-! ===== the class's layout, read ===== -/
def mf_wide (M : ma_P) (W y i : Nat) : Nat := if mt_width (mp_D M i) y ≤ W then 0 else 1
def mf_emp (M : ma_P) (W y i : Nat) : Nat := if i + 1 = mp_N M ∨ ml_line M W y (i + 1) ≠ ml_line M W y i then W - (ml_col M W y i + mt_width (mp_D M i) y) else 0
def mt_last (f : Nat → Nat) (row : Nat) : Nat → Nat
  | 0 => 0
  | k + 1 => if row < f k then mt_last f row k else k
theorem mt_last_spec (f : Nat → Nat) (row : Nat) : ∀ n, 1 ≤ n → mt_last f row n < n ∧ (mt_last f row n = 0 ∨ f (mt_last f row n) ≤ row) ∧ ∀ j, mt_last f row n < j → j < n → row < f j := by
  intro n
  induction n with
  | zero => intro h; omega
  | succ n ih =>
    intro _
    unfold mt_last
    by_cases q : row < f n
    · rw [if_pos q]
      rcases Nat.eq_zero_or_pos n with z | z
      · subst z
        exact ⟨Nat.lt_succ_self _, Or.inl rfl, fun j h1 h2 => absurd h1 (by unfold mt_last; omega)⟩
      · have h := ih z
        refine ⟨by omega, h.2.1, fun j h1 h2 => ?_⟩
        rcases Nat.lt_or_ge j n with z2 | z2
        · exact h.2.2 j h1 z2
        · rw [show j = n by omega]; exact q
    · rw [if_neg q]
      exact ⟨Nat.lt_succ_self _, Or.inr (by omega), fun j h1 h2 => by omega⟩
def mr_word (M : ma_P) (W y row : Nat) : Nat := mt_last (ml_row M W y) row (mp_N M)
def mr_off (M : ma_P) (W y row : Nat) : Nat := row - ml_row M W y (mr_word M W y row)
def mr_kind (M : ma_P) (W y row : Nat) : Nat := min 2 (mr_off M W y row)
def mr_from (M : ma_P) (W y row : Nat) : Nat := (mr_off M W y row - 2) * W
def mr_len (M : ma_P) (W y row : Nat) : Nat := if mr_kind M W y row = 2 then min (mw_F (mp_D M (mr_word M W y row)) - mr_from M W y row) W else ml_col M W y (mr_word M W y row) + mt_width (mp_D M (mr_word M W y row)) y
def mr_scan (M : ma_P) (W y r kind c : Nat) : Nat → Nat
  | 0 => 32
  | k + 1 => if ml_line M W y k = ml_line M W y r then (if c < ml_col M W y k then mr_scan M W y r kind c k else mt_shown (mp_D M k) kind y 4 (c - ml_col M W y k) 0) else 32
def mr_code (M : ma_P) (W y row c : Nat) : Int32 := if c < mr_len M W y row then (if mr_kind M W y row = 2 then nI (mw_R (mp_D M (mr_word M W y row)) (mr_from M W y row + c)) else nI (mr_scan M W y (mr_word M W y row) (mr_kind M W y row) c (mr_word M W y row + 1))) else -9
theorem ml_row_tr {M : ma_P} {W y i : Nat} (ok : mp_ok M) (hW : 10 ≤ W ∧ W ≤ 60) (hi : i < mp_N M) : tr (mt_lay M W y (i + 1)) = ml_row M W y i + 2 + (if mw_E (mp_D M i) = 0 then 0 else mf_row (mp_D M i) W) := by
  have b := mt_lay_le (y := y) ok hW i (by omega)
  show (if mf_fit M W y (mt_lay M W y i) i then tr (mt_lay M W y i) else tr (mt_lay M W y i) + 2) + _ = (if mf_fit M W y (mt_lay M W y i) i then tr (mt_lay M W y i) else tr (mt_lay M W y i) + 2) - 2 + 2 + _
  by_cases q : mf_fit M W y (mt_lay M W y i) i
  · have := (b.2.2.2.2.2 q.1).2
    simp only [if_pos q]
    omega
  · simp only [if_neg q]
    omega
theorem ml_row_le {M : ma_P} {W y i : Nat} : ml_row M W y i ≤ tr (mt_lay M W y i) := by
  show (if mf_fit M W y (mt_lay M W y i) i then tr (mt_lay M W y i) else tr (mt_lay M W y i) + 2) - 2 ≤ _
  by_cases q : mf_fit M W y (mt_lay M W y i) i
  · rw [if_pos q]; omega
  · rw [if_neg q]; omega
theorem ml_row_0 {M : ma_P} {W y : Nat} : ml_row M W y 0 = 0 := Nat.le_zero.mp (Nat.le_trans ml_row_le (Nat.le_refl 0))
/-- a row that is there -/
theorem mr_facts {M : ma_P} {W y row : Nat} (ok : mp_ok M) (hW : 10 ≤ W ∧ W ≤ 60) (h : row < tr (mt_lay M W y (mp_N M))) :
    mr_word M W y row < mp_N M ∧ ml_row M W y (mr_word M W y row) ≤ row ∧ row < tr (mt_lay M W y (mr_word M W y row + 1)) ∧ (∀ j, mr_word M W y row < j → j < mp_N M → row < ml_row M W y j) := by
  have hN : 1 ≤ mp_N M := by
    rcases Nat.eq_zero_or_pos (mp_N M) with z | z
    · rw [z] at h
      exact absurd (show row < 0 from h) (Nat.not_lt_zero row)
    · exact z
  have s := mt_last_spec (ml_row M W y) row (mp_N M) hN
  refine ⟨s.1, ?_, ?_, s.2.2⟩
  · rcases s.2.1 with q | q
    · show ml_row M W y (mt_last _ _ _) ≤ row
      rw [q, ml_row_0]
      exact Nat.zero_le _
    · exact q
  · rcases Nat.lt_or_ge (mr_word M W y row + 1) (mp_N M) with q | q
    · exact Nat.lt_of_lt_of_le (s.2.2 _ (Nat.lt_succ_self _) q) ml_row_le
    · have : mr_word M W y row + 1 = mp_N M := by
        have : mr_word M W y row < mp_N M := s.1
        omega
      rw [this]; exact h
theorem mr_free {M : ma_P} {W y row : Nat} (ok : mp_ok M) (hW : 10 ≤ W ∧ W ≤ 60) (h : row < tr (mt_lay M W y (mp_N M))) (hk : mr_kind M W y row = 2) : 2 ≤ mr_off M W y row ∧ mr_from M W y row < mw_F (mp_D M (mr_word M W y row)) := by
  have f := mr_facts ok hW h
  have t := ml_row_tr (y := y) ok hW f.1
  have k : min 2 (mr_off M W y row) = 2 := hk
  have o : mr_off M W y row = row - ml_row M W y (mr_word M W y row) := rfl
  refine ⟨by omega, ?_⟩
  have f3 := f.2.2.1
  rw [t] at f3
  by_cases z : mw_E (mp_D M (mr_word M W y row)) = 0
  · rw [if_pos z] at f3; omega
  · rw [if_neg z] at f3
    have e : mf_row (mp_D M (mr_word M W y row)) W = (mw_F (mp_D M (mr_word M W y row)) + W - 1) / W := rfl
    have h2 : mr_off M W y row - 2 + 1 ≤ (mw_F (mp_D M (mr_word M W y row)) + W - 1) / W := by omega
    have h3 := (Nat.le_div_iff_mul_le (by omega)).mp h2
    rw [Nat.add_mul, Nat.one_mul] at h3
    show (mr_off M W y row - 2) * W < _
    omega
theorem sp_X1_lastWordOfRow_5 {σ : ka_S} {o W y row : Nat} {M : ma_P} {Q : Int32 → ka_S → Prop} (ok : mp_ok M) (hW : 10 ≤ W ∧ W ≤ 60) (hp : rc_P σ o M) (hA : rc_A σ M W y) (hr : row < 2 ^ 31) (h : Q (nI (mr_word M W y row)) σ) :
    ∀ (n k : Nat), 1 ≤ k → k ≤ mp_N M → mp_N M < k + n → kw_X1_lastWordOfRow_5 o Q n σ (nI row) (nI (mt_last (ml_row M W y) row k)) (nI k) := by
  intro n
  induction n with
  | zero => intro k h1 h2; omega
  | succ n ih =>
    intro k h0 h1 h2
    have hN := ok.1
    rw [kw_X1_lastWordOfRow_5, hp.1.1]
    refine ⟨fun q => ?_, fun q => ⟨?_, ?_⟩⟩
    · simp (disch := omega) only [nI_leI, nI_ltI, nI_eq, nI_add, nI_clamp, kI_in, pk_mul, pk_sub, kI_lit, kI_litL, nI_l, lN_i, lN_add, pk_lEQ, forall_eq, kI_m1, Nat.reduceAdd, Nat.reduceMul, Nat.reduceSub, Nat.reduceLT, Nat.reduceLeDiff, Nat.reduceEqDiff, Nat.reducePow, Nat.reduceMod, Nat.reduceDiv, true_implies, false_implies, and_true, true_and, not_true_eq_false, not_false_eq_true, implies_true, Nat.zero_add, Nat.add_zero] at q
      rw [show k = mp_N M by omega]
      exact h
    · simp (disch := omega) only [nI_leI, nI_ltI, nI_eq, nI_add, nI_clamp, kI_in, pk_mul, pk_sub, kI_lit, kI_litL, nI_l, lN_i, lN_add, pk_lEQ, forall_eq, kI_m1, Nat.reduceAdd, Nat.reduceMul, Nat.reduceSub, Nat.reduceLT, Nat.reduceLeDiff, Nat.reduceEqDiff, Nat.reducePow, Nat.reduceMod, Nat.reduceDiv, true_implies, false_implies, and_true, true_and, not_true_eq_false, not_false_eq_true, implies_true, Nat.zero_add, Nat.add_zero] at q
      exact (kI_in (by omega)).mpr (by omega)
    · simp (disch := omega) only [nI_leI, nI_ltI, nI_eq, nI_add, nI_clamp, kI_in, pk_mul, pk_sub, kI_lit, kI_litL, nI_l, lN_i, lN_add, pk_lEQ, forall_eq, kI_m1, Nat.reduceAdd, Nat.reduceMul, Nat.reduceSub, Nat.reduceLT, Nat.reduceLeDiff, Nat.reduceEqDiff, Nat.reducePow, Nat.reduceMod, Nat.reduceDiv, true_implies, false_implies, and_true, true_and, not_true_eq_false, not_false_eq_true, implies_true, Nat.zero_add, Nat.add_zero] at q
      have b := mt_lay_le (y := y) ok hW k (by omega)
      have b2 := ml_row_le (M := M) (W := W) (y := y) (i := k)
      have e : mt_last (ml_row M W y) row (k + 1) = if row < ml_row M W y k then mt_last (ml_row M W y) row k else k := rfl
      have hn := ih (k + 1) (by omega) (by omega) (by omega)
      rw [e] at hn
      rw [nI_clamp (by omega), (hA.1.2 k (by omega)).2.2.2, nI_ltI hr (by omega), forall_eq, forall_eq, show (nI k + 1 : Int32) = nI (k + 1) from nI_1 k]
      refine ⟨fun z => ?_, fun z => ?_⟩
      · rw [if_pos z] at hn; exact hn
      · rw [if_neg z] at hn; exact hn
theorem sp_X1_lastWordOfRow {σ : ka_S} {o W y row : Nat} {M : ma_P} {Q : Int32 → ka_S → Prop} (ok : mp_ok M) (hW : 10 ≤ W ∧ W ≤ 60) (hp : rc_P σ o M) (hA : rc_A σ M W y) (hr : row < tr (mt_lay M W y (mp_N M))) (h : Q (nI (mr_word M W y row)) σ) : kw_X1_lastWordOfRow σ o (nI row) Q := by
  have f := mr_facts ok hW hr
  have b := mt_lay_le (y := y) ok hW (mp_N M) (Nat.le_refl _)
  have hN := ok.1
  have e : mt_last (ml_row M W y) row 1 = 0 := by
    show (if row < ml_row M W y 0 then 0 else 0) = 0
    by_cases q : row < ml_row M W y 0
    · rw [if_pos q]
    · rw [if_neg q]
  have := sp_X1_lastWordOfRow_5 (n := 13) (k := 1) (y := y) ok hW hp hA (by omega) h (Nat.le_refl 1) (by omega) (by omega)
  rw [e] at this
  exact ⟨13, this⟩
theorem kI_sub {a b : Nat} (h : b ≤ a) : nI a - nI b = nI (a - b) := pk_sub h
theorem sp_X1_kindOfRow {σ : ka_S} {o W y row : Nat} {M : ma_P} {Q : Int32 → ka_S → Prop} (ok : mp_ok M) (hW : 10 ≤ W ∧ W ≤ 60) (hp : rc_P σ o M) (hA : rc_A σ M W y) (hr : row < tr (mt_lay M W y (mp_N M))) (h : Q (nI (mr_kind M W y row)) σ) : kw_X1_kindOfRow σ o (nI row) Q := by
  have f := mr_facts ok hW hr
  have b := mt_lay_le (y := y) ok hW (mp_N M) (Nat.le_refl _)
  have hN := ok.1
  unfold kw_X1_kindOfRow
  refine sp_X1_lastWordOfRow ok hW hp hA hr ⟨(kI_in (by omega)).mpr (by omega), ?_⟩
  rw [nI_clamp (by omega), (hA.1.2 _ f.1).2.2.2, kI_sub f.2.1]
  have e : (if (2 : Int32) < nI (row - ml_row M W y (mr_word M W y row)) then 2 else nI (row - ml_row M W y (mr_word M W y row))) = nI (mr_kind M W y row) := by
    have e2 : mr_kind M W y row = min 2 (row - ml_row M W y (mr_word M W y row)) := rfl
    by_cases q : 2 < row - ml_row M W y (mr_word M W y row)
    · rw [if_pos (by simp (disch := omega) only [nI_leI, nI_ltI, nI_eq, nI_add, nI_clamp, kI_in, pk_mul, pk_sub, kI_lit, kI_litL, nI_l, lN_i, lN_add, pk_lEQ, forall_eq, kI_m1, Nat.reduceAdd, Nat.reduceMul, Nat.reduceSub, Nat.reduceLT, Nat.reduceLeDiff, Nat.reduceEqDiff, Nat.reducePow, Nat.reduceMod, Nat.reduceDiv, true_implies, false_implies, and_true, true_and, not_true_eq_false, not_false_eq_true, implies_true, Nat.zero_add, Nat.add_zero]; exact q), e2, Nat.min_eq_left (by omega)]
      rfl
    · rw [if_neg (by simp (disch := omega) only [nI_leI, nI_ltI, nI_eq, nI_add, nI_clamp, kI_in, pk_mul, pk_sub, kI_lit, kI_litL, nI_l, lN_i, lN_add, pk_lEQ, forall_eq, kI_m1, Nat.reduceAdd, Nat.reduceMul, Nat.reduceSub, Nat.reduceLT, Nat.reduceLeDiff, Nat.reduceEqDiff, Nat.reducePow, Nat.reduceMod, Nat.reduceDiv, true_implies, false_implies, and_true, true_and, not_true_eq_false, not_false_eq_true, implies_true, Nat.zero_add, Nat.add_zero]; exact q), e2, Nat.min_eq_right (by omega)]
  rw [e]
  exact h
theorem sp_X1_beginInFree {σ : ka_S} {o row : Nat} {M : ma_P} {Q : Int32 → ka_S → Prop} (ok : mp_ok M) (hp : rc_P σ o M) (hA : rc_A σ M (mp_W M) (mp_Y M)) (hr : row < tr (mt_lay M (mp_W M) (mp_Y M) (mp_N M))) (hk : mr_kind M (mp_W M) (mp_Y M) row = 2)
    (h : Q (nI (mr_from M (mp_W M) (mp_Y M) row)) σ) : kw_X1_beginInFree σ o (nI row) Q := by
  have hW := ok.2.2.1
  have f := mr_facts ok hW hr
  have g := mr_free ok hW hr hk
  have hN := ok.1
  unfold kw_X1_beginInFree
  refine sp_X1_lastWordOfRow ok hW hp hA hr ⟨(kI_in (by omega)).mpr (by omega), ?_⟩
  rw [nI_clamp (by omega), (hA.1.2 _ f.1).2.2.2, kI_sub f.2.1, hp.1.2.1, kI_lit, kI_sub (show 2 ≤ row - ml_row M (mp_W M) (mp_Y M) (mr_word M (mp_W M) (mp_Y M) row) from g.1), pk_mul]
  exact h
theorem sp_X1_lengthOfRow {σ : ka_S} {o row : Nat} {M : ma_P} {Q : Int32 → ka_S → Prop} (ok : mp_ok M) (hp : rc_P σ o M) (hA : rc_A σ M (mp_W M) (mp_Y M)) (hr : row < tr (mt_lay M (mp_W M) (mp_Y M) (mp_N M)))
    (h : Q (nI (mr_len M (mp_W M) (mp_Y M) row)) σ) : kw_X1_lengthOfRow σ o (nI row) Q := by
  have hW := ok.2.2.1
  have f := mr_facts ok hW hr
  have hN := ok.1
  have hi : vp_in (nI (mr_word M (mp_W M) (mp_Y M) row)) 12 := (kI_in (by omega)).mpr (by omega)
  have hF := (ok.2.2.2.2.2.1 _ f.1).2.2.1
  have hk2 : mr_kind M (mp_W M) (mp_Y M) row ≤ 2 := Nat.min_le_left _ _
  unfold kw_X1_lengthOfRow
  unfold mr_len at h
  refine sp_X1_lastWordOfRow ok hW hp hA hr (sp_X1_kindOfRow ok hW hp hA hr ⟨fun q => ⟨hi, ?_⟩, fun q => ⟨hi, hi, ?_⟩⟩)
  · simp (disch := omega) only [nI_leI, nI_ltI, nI_eq, nI_add, nI_clamp, kI_in, pk_mul, pk_sub, kI_lit, kI_litL, nI_l, lN_i, lN_add, pk_lEQ, forall_eq, kI_m1, Nat.reduceAdd, Nat.reduceMul, Nat.reduceSub, Nat.reduceLT, Nat.reduceLeDiff, Nat.reduceEqDiff, Nat.reducePow, Nat.reduceMod, Nat.reduceDiv, true_implies, false_implies, and_true, true_and, not_true_eq_false, not_false_eq_true, implies_true, Nat.zero_add, Nat.add_zero] at q
    rw [if_pos q] at h
    have g := mr_free ok hW hr q
    refine sp_X1_beginInFree ok hp hA hr q ?_
    rw [nI_clamp (by omega), (hp.2.2 _ f.1).1.2.1, hp.1.2.1, kI_sub (by omega)]
    by_cases z : mw_F (mp_D M (mr_word M (mp_W M) (mp_Y M) row)) - mr_from M (mp_W M) (mp_Y M) row < mp_W M
    · rw [if_pos (by rw [nI_ltI (by omega) (by omega)]; exact z)]
      rw [Nat.min_eq_left (by omega)] at h
      exact h
    · rw [if_neg (by rw [nI_ltI (by omega) (by omega)]; exact z)]
      rw [Nat.min_eq_right (by omega)] at h
      exact h
  · simp (disch := omega) only [nI_leI, nI_ltI, nI_eq, nI_add, nI_clamp, kI_in, pk_mul, pk_sub, kI_lit, kI_litL, nI_l, lN_i, lN_add, pk_lEQ, forall_eq, kI_m1, Nat.reduceAdd, Nat.reduceMul, Nat.reduceSub, Nat.reduceLT, Nat.reduceLeDiff, Nat.reduceEqDiff, Nat.reducePow, Nat.reduceMod, Nat.reduceDiv, true_implies, false_implies, and_true, true_and, not_true_eq_false, not_false_eq_true, implies_true, Nat.zero_add, Nat.add_zero] at q
    rw [if_neg q] at h
    rw [nI_clamp (by omega), (hA.1.2 _ f.1).2.1, hA.2 _ f.1, nI_add]
    exact h
theorem sp_X1_sentenceOfRow {σ : ka_S} {o W y row : Nat} {M : ma_P} {Q : Int32 → ka_S → Prop} (ok : mp_ok M) (hW : 10 ≤ W ∧ W ≤ 60) (hp : rc_P σ o M) (hA : rc_A σ M W y) (hr : row < tr (mt_lay M W y (mp_N M))) (h : Q (nI (ml_sent M W y (mr_word M W y row))) σ) : kw_X1_sentenceOfRow σ o (nI row) Q := by
  have f := mr_facts ok hW hr
  have hN := ok.1
  unfold kw_X1_sentenceOfRow
  refine sp_X1_lastWordOfRow ok hW hp hA hr ⟨(kI_in (by omega)).mpr (by omega), ?_⟩
  rw [nI_clamp (by omega), (hA.1.2 _ f.1).2.2.1]
  exact h
theorem ml_col_le {M : ma_P} {W y i : Nat} (ok : mp_ok M) (hW : 10 ≤ W ∧ W ≤ 60) (hi : i < mp_N M) : ml_col M W y i ≤ 60 ∧ ml_line M W y i ≤ 12 := by
  have b := mt_lay_le (y := y) ok hW (i + 1) (by omega)
  have hN := ok.1
  refine ⟨?_, by show tl _ - 1 ≤ 12; omega⟩
  show (if mf_fit M W y (mt_lay M W y i) i then tx (mt_lay M W y i) + mp_S M else 0) ≤ 60
  by_cases q : mf_fit M W y (mt_lay M W y i) i
  · rw [if_pos q]
    have := q.2
    omega
  · rw [if_neg q]; exact Nat.zero_le _
theorem sp_X1_codeInRow_58 {σ : ka_S} {o W r kind c : Nat} {M : ma_P} {Q : Int32 → ka_S → Prop} (ok : mp_ok M) (hW : 10 ≤ W ∧ W ≤ 60) (hp : rc_P σ o M) (hA : rc_A σ M W (mp_Y M)) (hr : r < mp_N M) (hk : kind ≤ 1) (hc : c < 2 ^ 31) :
    ∀ (n k : Nat), k ≤ mp_N M → k < n → Q (nI (mr_scan M W (mp_Y M) r kind c k)) σ → kw_X1_codeInRow_58 o Q n σ (nI c) (nI r) (nI kind) (nI k + -1) := by
  intro n
  induction n with
  | zero => intro k h1 h2; omega
  | succ n ih =>
    intro k h1 h2 h
    have hN := ok.1
    have hY := ok.2.2.2.2.1
    rw [kw_X1_codeInRow_58]
    rcases Nat.eq_zero_or_pos k with e | e
    · subst e
      exact ⟨fun _ => h, fun q => absurd (by decide) q⟩
    · obtain ⟨k, rfl⟩ : ∃ k', k = k' + 1 := ⟨k - 1, by omega⟩
      have hi : vp_in (nI k) 12 := (kI_in (by omega)).mpr (by omega)
      have b1 := ml_col_le (y := mp_Y M) ok hW (i := k) (by omega)
      have b2 := ml_col_le (y := mp_Y M) ok hW hr
      unfold mr_scan at h
      rw [kI_m1]
      refine ⟨fun q => absurd q (nI_pos (by omega)), fun _ => ⟨hi, (kI_in (by omega)).mpr (by omega), ?_⟩⟩
      rw [nI_clamp (by omega), nI_clamp (by omega), (hA.1.2 k (by omega)).1, (hA.1.2 r hr).1, (hA.1.2 k (by omega)).2.1, nI_eq (by omega) (by omega), nI_ltI hc (by omega)]
      refine ⟨fun z => ⟨hi, fun z2 => ?_, fun z2 => ⟨hi, hi, ?_⟩⟩, fun z => ?_⟩
      · rw [if_pos z, if_pos z2] at h
        rw [forall_eq]
        exact ih k (by omega) (by omega) h
      · rw [if_pos z, if_neg z2] at h
        rw [hp.1.2.2.2, kI_sub (by omega)]
        exact sp_X7_codeShown (hp.2.2 k (by omega)) (ok.2.2.2.2.2.1 k (by omega)) hk hY (by omega) h
      · rw [if_neg z] at h
        exact h
theorem sp_X1_codeInRow {σ : ka_S} {o row c : Nat} {M : ma_P} {Q : Int32 → ka_S → Prop} (ok : mp_ok M) (hp : rc_P σ o M) (hA : rc_A σ M (mp_W M) (mp_Y M)) (hr : row < tr (mt_lay M (mp_W M) (mp_Y M) (mp_N M))) (hc : c < 2 ^ 31)
    (h : Q (mr_code M (mp_W M) (mp_Y M) row c) σ) : kw_X1_codeInRow σ o (nI row) (nI c) Q := by
  have hW := ok.2.2.1
  have f := mr_facts ok hW hr
  have hN := ok.1
  have hi : vp_in (nI (mr_word M (mp_W M) (mp_Y M) row)) 12 := (kI_in (by omega)).mpr (by omega)
  have hF := (ok.2.2.2.2.2.1 _ f.1).2.2.1
  have hk2 : mr_kind M (mp_W M) (mp_Y M) row ≤ 2 := Nat.min_le_left _ _
  have b1 := ml_col_le (y := mp_Y M) ok hW f.1
  have b3 := mt_width_le (ok.2.2.2.2.2.1 _ f.1) (mp_Y M)
  have hlen : mr_len M (mp_W M) (mp_Y M) row ≤ 95 ∧ (mr_kind M (mp_W M) (mp_Y M) row = 2 → mr_len M (mp_W M) (mp_Y M) row ≤ mw_F (mp_D M (mr_word M (mp_W M) (mp_Y M) row)) - mr_from M (mp_W M) (mp_Y M) row) := by
    unfold mr_len
    by_cases q : mr_kind M (mp_W M) (mp_Y M) row = 2
    · rw [if_pos q]
      exact ⟨by omega, fun _ => Nat.min_le_left _ _⟩
    · rw [if_neg q]
      exact ⟨by omega, fun z => absurd z q⟩
  unfold kw_X1_codeInRow
  unfold mr_code at h
  refine sp_X1_lengthOfRow ok hp hA hr ⟨fun q => sp_X1_lastWordOfRow ok hW hp hA hr (sp_X1_kindOfRow ok hW hp hA hr ⟨fun q2 => ⟨hi, ?_⟩, fun q2 => ?_⟩), fun q => ?_⟩
  · rw [nI_ltI hc (by omega)] at q
    simp (disch := omega) only [nI_leI, nI_ltI, nI_eq, nI_add, nI_clamp, kI_in, pk_mul, pk_sub, kI_lit, kI_litL, nI_l, lN_i, lN_add, pk_lEQ, forall_eq, kI_m1, Nat.reduceAdd, Nat.reduceMul, Nat.reduceSub, Nat.reduceLT, Nat.reduceLeDiff, Nat.reduceEqDiff, Nat.reducePow, Nat.reduceMod, Nat.reduceDiv, true_implies, false_implies, and_true, true_and, not_true_eq_false, not_false_eq_true, implies_true, Nat.zero_add, Nat.add_zero] at q2
    rw [if_pos q, if_pos q2] at h
    have g := hlen.2 q2
    refine sp_X1_beginInFree ok hp hA hr q2 ?_
    rw [nI_clamp (by omega), nI_add]
    exact sp_X7_codeOfFree (hp.2.2 _ f.1) (ok.2.2.2.2.2.1 _ f.1) (by omega) h
  · rw [nI_ltI hc (by omega)] at q
    simp (disch := omega) only [nI_leI, nI_ltI, nI_eq, nI_add, nI_clamp, kI_in, pk_mul, pk_sub, kI_lit, kI_litL, nI_l, lN_i, lN_add, pk_lEQ, forall_eq, kI_m1, Nat.reduceAdd, Nat.reduceMul, Nat.reduceSub, Nat.reduceLT, Nat.reduceLeDiff, Nat.reduceEqDiff, Nat.reducePow, Nat.reduceMod, Nat.reduceDiv, true_implies, false_implies, and_true, true_and, not_true_eq_false, not_false_eq_true, implies_true, Nat.zero_add, Nat.add_zero] at q2
    rw [if_pos q, if_neg q2] at h
    have := sp_X1_codeInRow_58 (n := 13) (k := mr_word M (mp_W M) (mp_Y M) row + 1) ok hW hp hA f.1 (by omega) hc (by omega) (by omega) h
    rw [kI_m1] at this
    exact ⟨13, this⟩
  · rw [nI_ltI hc (by omega)] at q
    rw [if_neg q] at h
    exact h
theorem sp_X1_countWider_5 {σ : ka_S} {o W y : Nat} {M : ma_P} {Q : Int32 → ka_S → Prop} (ok : mp_ok M) (hW : 10 ≤ W ∧ W ≤ 60) (hp : rc_P σ o M) (hA : rc_B σ M y) (h : Q (nI (ma_sum (mf_wide M W y) (mp_N M))) σ) :
    ∀ (n k : Nat), k ≤ mp_N M → mp_N M < k + n → kw_X1_countWider_5 o Q n σ (nI W) (nI (ma_sum (mf_wide M W y) k)) (nI k) := by
  intro n
  induction n with
  | zero => intro k h1 h2; omega
  | succ n ih =>
    intro k h1 h2
    have hN := ok.1
    rw [kw_X1_countWider_5, hp.1.1]
    refine ⟨fun q => ?_, fun q => ⟨?_, ?_⟩⟩
    · simp (disch := omega) only [nI_leI, nI_ltI, nI_eq, nI_add, nI_clamp, kI_in, pk_mul, pk_sub, kI_lit, kI_litL, nI_l, lN_i, lN_add, pk_lEQ, forall_eq, kI_m1, Nat.reduceAdd, Nat.reduceMul, Nat.reduceSub, Nat.reduceLT, Nat.reduceLeDiff, Nat.reduceEqDiff, Nat.reducePow, Nat.reduceMod, Nat.reduceDiv, true_implies, false_implies, and_true, true_and, not_true_eq_false, not_false_eq_true, implies_true, Nat.zero_add, Nat.add_zero] at q
      rw [show k = mp_N M by omega]
      exact h
    · simp (disch := omega) only [nI_leI, nI_ltI, nI_eq, nI_add, nI_clamp, kI_in, pk_mul, pk_sub, kI_lit, kI_litL, nI_l, lN_i, lN_add, pk_lEQ, forall_eq, kI_m1, Nat.reduceAdd, Nat.reduceMul, Nat.reduceSub, Nat.reduceLT, Nat.reduceLeDiff, Nat.reduceEqDiff, Nat.reducePow, Nat.reduceMod, Nat.reduceDiv, true_implies, false_implies, and_true, true_and, not_true_eq_false, not_false_eq_true, implies_true, Nat.zero_add, Nat.add_zero] at q
      exact (kI_in (by omega)).mpr (by omega)
    · simp (disch := omega) only [nI_leI, nI_ltI, nI_eq, nI_add, nI_clamp, kI_in, pk_mul, pk_sub, kI_lit, kI_litL, nI_l, lN_i, lN_add, pk_lEQ, forall_eq, kI_m1, Nat.reduceAdd, Nat.reduceMul, Nat.reduceSub, Nat.reduceLT, Nat.reduceLeDiff, Nat.reduceEqDiff, Nat.reducePow, Nat.reduceMod, Nat.reduceDiv, true_implies, false_implies, and_true, true_and, not_true_eq_false, not_false_eq_true, implies_true, Nat.zero_add, Nat.add_zero] at q
      have hk : k < mp_N M := by omega
      have hw := mt_width_le (ok.2.2.2.2.2.1 k hk) y
      have hn := ih (k + 1) (by omega) (by omega)
      have e : ma_sum (mf_wide M W y) (k + 1) = ma_sum (mf_wide M W y) k + mf_wide M W y k := rfl
      rw [e] at hn
      unfold mf_wide at hn
      rw [nI_clamp (by omega), hA k hk, nI_leI (by omega) (by omega)]
      refine ⟨fun z => ?_, fun z => ?_⟩
      · rw [if_pos z] at hn
        simp (disch := omega) only [nI_leI, nI_ltI, nI_eq, nI_add, nI_clamp, kI_in, pk_mul, pk_sub, kI_lit, kI_litL, nI_l, lN_i, lN_add, pk_lEQ, forall_eq, kI_m1, Nat.reduceAdd, Nat.reduceMul, Nat.reduceSub, Nat.reduceLT, Nat.reduceLeDiff, Nat.reduceEqDiff, Nat.reducePow, Nat.reduceMod, Nat.reduceDiv, true_implies, false_implies, and_true, true_and, not_true_eq_false, not_false_eq_true, implies_true, Nat.zero_add, Nat.add_zero]
        exact hn
      · rw [if_neg z] at hn
        simp (disch := omega) only [nI_leI, nI_ltI, nI_eq, nI_add, nI_clamp, kI_in, pk_mul, pk_sub, kI_lit, kI_litL, nI_l, lN_i, lN_add, pk_lEQ, forall_eq, kI_m1, Nat.reduceAdd, Nat.reduceMul, Nat.reduceSub, Nat.reduceLT, Nat.reduceLeDiff, Nat.reduceEqDiff, Nat.reducePow, Nat.reduceMod, Nat.reduceDiv, true_implies, false_implies, and_true, true_and, not_true_eq_false, not_false_eq_true, implies_true, Nat.zero_add, Nat.add_zero]
        exact hn
theorem sp_X1_countWider {σ : ka_S} {o W y : Nat} {M : ma_P} {Q : Int32 → ka_S → Prop} (ok : mp_ok M) (hW : 10 ≤ W ∧ W ≤ 60) (hp : rc_P σ o M) (hA : rc_B σ M y) (h : Q (nI (ma_sum (mf_wide M W y) (mp_N M))) σ) : kw_X1_countWider σ o (nI W) Q :=
  ⟨13, sp_X1_countWider_5 (y := y) ok hW hp hA h 13 0 (Nat.zero_le _) (by have := ok.1; omega)⟩
theorem kI_gap {W c d : Nat} (hW : W ≤ 60) (hc : c ≤ 60) (hd : d ≤ 60) : (if 0 < (nI W - nI c) - nI d then (nI W - nI c) - nI d else 0) = nI (W - (c + d)) := by
  by_cases h : c + d ≤ W
  · rw [kI_sub (show c ≤ W by omega), kI_sub (show d ≤ W - c by omega), Nat.sub_sub]
    by_cases z : W - (c + d) = 0
    · rw [z]
      rfl
    · rw [if_pos]
      simp (disch := omega) only [nI_leI, nI_ltI, nI_eq, nI_add, nI_clamp, kI_in, pk_mul, pk_sub, kI_lit, kI_litL, nI_l, lN_i, lN_add, pk_lEQ, forall_eq, kI_m1, Nat.reduceAdd, Nat.reduceMul, Nat.reduceSub, Nat.reduceLT, Nat.reduceLeDiff, Nat.reduceEqDiff, Nat.reducePow, Nat.reduceMod, Nat.reduceDiv, true_implies, false_implies, and_true, true_and, not_true_eq_false, not_false_eq_true, implies_true, Nat.zero_add, Nat.add_zero]
      omega
  · rw [show W - (c + d) = 0 by omega, if_neg]
    · rfl
    · intro q
      rw [Int32.lt_iff_toInt_lt] at q
      have e1 : (nI W - nI c).toInt = (W : Int) - c := by
        rw [Int32.toInt_sub, nI_toInt (by omega), nI_toInt (by omega)]
        rw [Int.bmod_eq_of_le (by omega) (by omega)]
      rw [Int32.toInt_sub, e1, nI_toInt (by omega)] at q
      rw [Int.bmod_eq_of_le (by omega) (by omega)] at q
      have : (0 : Int32).toInt = 0 := rfl
      omega
theorem sp_X1_countEmpty_5 {σ : ka_S} {o W y : Nat} {M : ma_P} {Q : Int32 → ka_S → Prop} (ok : mp_ok M) (hW : 10 ≤ W ∧ W ≤ 60) (hp : rc_P σ o M) (hA : rc_A σ M W y) (h : Q (nI (ma_sum (mf_emp M W y) (mp_N M))) σ) :
    ∀ (n k : Nat), k ≤ mp_N M → mp_N M < k + n → kw_X1_countEmpty_5 o Q n σ (nI W) (nI (ma_sum (mf_emp M W y) k)) (nI k) := by
  intro n
  induction n with
  | zero => intro k h1 h2; omega
  | succ n ih =>
    intro k h1 h2
    have hN := ok.1
    rw [kw_X1_countEmpty_5, hp.1.1]
    refine ⟨fun q => ?_, fun q => ?_⟩
    · simp (disch := omega) only [nI_leI, nI_ltI, nI_eq, nI_add, nI_clamp, kI_in, pk_mul, pk_sub, kI_lit, kI_litL, nI_l, lN_i, lN_add, pk_lEQ, forall_eq, kI_m1, Nat.reduceAdd, Nat.reduceMul, Nat.reduceSub, Nat.reduceLT, Nat.reduceLeDiff, Nat.reduceEqDiff, Nat.reducePow, Nat.reduceMod, Nat.reduceDiv, true_implies, false_implies, and_true, true_and, not_true_eq_false, not_false_eq_true, implies_true, Nat.zero_add, Nat.add_zero] at q
      rw [show k = mp_N M by omega]
      exact h
    · simp (disch := omega) only [nI_leI, nI_ltI, nI_eq, nI_add, nI_clamp, kI_in, pk_mul, pk_sub, kI_lit, kI_litL, nI_l, lN_i, lN_add, pk_lEQ, forall_eq, kI_m1, Nat.reduceAdd, Nat.reduceMul, Nat.reduceSub, Nat.reduceLT, Nat.reduceLeDiff, Nat.reduceEqDiff, Nat.reducePow, Nat.reduceMod, Nat.reduceDiv, true_implies, false_implies, and_true, true_and, not_true_eq_false, not_false_eq_true, implies_true, Nat.zero_add, Nat.add_zero] at q
      have hk : k < mp_N M := by omega
      have hi : vp_in (nI k) 12 := (kI_in (by omega)).mpr (by omega)
      have hw := mt_width_le (ok.2.2.2.2.2.1 k hk) y
      have b := ml_col_le (y := y) ok hW hk
      have hn := ih (k + 1) (by omega) (by omega)
      have e : ma_sum (mf_emp M W y) (k + 1) = ma_sum (mf_emp M W y) k + mf_emp M W y k := rfl
      rw [e] at hn
      unfold mf_emp at hn
      have yes : (k + 1 = mp_N M ∨ ml_line M W y (k + 1) ≠ ml_line M W y k) → kw_X1_countEmpty_44 o (kw_X1_countEmpty_5 o Q n) Q σ (nI W) (nI (ma_sum (mf_emp M W y) k)) (nI k) := by
        intro c
        rw [if_pos c] at hn
        unfold kw_X1_countEmpty_44 kw_X1_countEmpty_49
        refine ⟨fun z => absurd z (by decide), fun _ => ⟨hi, hi, ?_⟩⟩
        rw [nI_clamp (by omega), (hA.1.2 k hk).2.1, hA.2 k hk, kI_gap hW.2 b.1 (by omega), nI_add, forall_eq, forall_eq, show (nI k + 1 : Int32) = nI (k + 1) from nI_1 k]
        exact hn
      rw [show nI (mp_N M) - (1 : Int32) = nI (mp_N M - 1) by rw [kI_lit, pk_sub (by omega)]]
      refine ⟨fun z => ?_, fun z => ?_⟩
      · simp (disch := omega) only [nI_leI, nI_ltI, nI_eq, nI_add, nI_clamp, kI_in, pk_mul, pk_sub, kI_lit, kI_litL, nI_l, lN_i, lN_add, pk_lEQ, forall_eq, kI_m1, Nat.reduceAdd, Nat.reduceMul, Nat.reduceSub, Nat.reduceLT, Nat.reduceLeDiff, Nat.reduceEqDiff, Nat.reducePow, Nat.reduceMod, Nat.reduceDiv, true_implies, false_implies, and_true, true_and, not_true_eq_false, not_false_eq_true, implies_true, Nat.zero_add, Nat.add_zero] at z
        exact yes (Or.inl (by omega))
      · simp (disch := omega) only [nI_leI, nI_ltI, nI_eq, nI_add, nI_clamp, kI_in, pk_mul, pk_sub, kI_lit, kI_litL, nI_l, lN_i, lN_add, pk_lEQ, forall_eq, kI_m1, Nat.reduceAdd, Nat.reduceMul, Nat.reduceSub, Nat.reduceLT, Nat.reduceLeDiff, Nat.reduceEqDiff, Nat.reducePow, Nat.reduceMod, Nat.reduceDiv, true_implies, false_implies, and_true, true_and, not_true_eq_false, not_false_eq_true, implies_true, Nat.zero_add, Nat.add_zero] at z
        have b2 := ml_col_le (y := y) ok hW (i := k + 1) (by omega)
        rw [show (nI k + 1 : Int32) = nI (k + 1) from nI_1 k, nI_clamp (by omega), nI_clamp (by omega), (hA.1.2 k hk).1, (hA.1.2 (k + 1) (by omega)).1, nI_eq (by omega) (by omega)]
        refine ⟨(kI_in (by omega)).mpr (by omega), hi, fun z2 => ?_, fun z2 => yes (Or.inr z2)⟩
        rw [if_neg (by omega)] at hn
        unfold kw_X1_countEmpty_49
        refine ⟨fun _ => ?_, fun z => absurd rfl z⟩
        rw [forall_eq, show (nI k + 1 : Int32) = nI (k + 1) from nI_1 k]
        exact hn
theorem sp_X1_countEmpty {σ : ka_S} {o W y : Nat} {M : ma_P} {Q : Int32 → ka_S → Prop} (ok : mp_ok M) (hW : 10 ≤ W ∧ W ≤ 60) (hp : rc_P σ o M) (hA : rc_A σ M W y) (h : Q (nI (ma_sum (mf_emp M W y) (mp_N M))) σ) : kw_X1_countEmpty σ o (nI W) Q :=
  ⟨13, sp_X1_countEmpty_5 ok hW hp hA h 13 0 (Nat.zero_le _) (by have := ok.1; omega)⟩
