/-! ===== the layout (numbers) ===== -/
abbrev ma_T : Type := (Nat × Nat) × (Nat × Nat × Nat)
/-- lines, rows; where the last word ends, the sentence's number, whether a line must begin -/
def tl (s : ma_T) : Nat := s.1.1
def tr (s : ma_T) : Nat := s.1.2
def tx (s : ma_T) : Nat := s.2.1
def ts (s : ma_T) : Nat := s.2.2.1
def te (s : ma_T) : Nat := s.2.2.2
abbrev mf_fit (M : ma_P) (W y : Nat) (s : ma_T) (i : Nat) : Prop := te s = 0 ∧ tx s + mp_S M + mt_width (mp_D M i) y ≤ W
def mf_row (w : ma_W) (W : Nat) : Nat := (mw_F w + W - 1) / W
def mt_step (M : ma_P) (W y : Nat) (s : ma_T) (i : Nat) : ma_T :=
  (((if mf_fit M W y s i then tl s else tl s + 1), (if mf_fit M W y s i then tr s else tr s + 2) + (if mw_E (mp_D M i) = 0 then 0 else mf_row (mp_D M i) W)),
   ((if mf_fit M W y s i then tx s + mp_S M else 0) + mt_width (mp_D M i) y, (if mw_E (mp_D M i) = 0 then ts s else ts s + 1), mw_E (mp_D M i)))
def mt_lay (M : ma_P) (W y : Nat) : Nat → ma_T
  | 0 => ((0, 0), (0, 0, 1))
  | i + 1 => mt_step M W y (mt_lay M W y i) i
def ml_line (M : ma_P) (W y i : Nat) : Nat := tl (mt_lay M W y (i + 1)) - 1
def ml_col (M : ma_P) (W y i : Nat) : Nat := if mf_fit M W y (mt_lay M W y i) i then tx (mt_lay M W y i) + mp_S M else 0
def ml_sent (M : ma_P) (W y i : Nat) : Nat := ts (mt_lay M W y i)
def ml_row (M : ma_P) (W y i : Nat) : Nat := (if mf_fit M W y (mt_lay M W y i) i then tr (mt_lay M W y i) else tr (mt_lay M W y i) + 2) - 2
theorem mt_lay_x (M : ma_P) (W y i : Nat) : tx (mt_lay M W y (i + 1)) = ml_col M W y i + mt_width (mp_D M i) y := rfl
theorem mf_row_le {w : ma_W} {W : Nat} (ok : mw_ok w) (hW : 10 ≤ W) : mf_row w W ≤ 3 := by
  have hF := ok.2.2.1
  show (mw_F w + W - 1) / W ≤ 3
  have : (mw_F w + W - 1) / W < 4 := (Nat.div_lt_iff_lt_mul (by omega)).mpr (by omega)
  omega
/-- what stands after i words -/
theorem mt_lay_le {M : ma_P} {W y : Nat} (ok : mp_ok M) (hW : 10 ≤ W ∧ W ≤ 60) : ∀ i, i ≤ mp_N M → tl (mt_lay M W y i) ≤ i ∧ tr (mt_lay M W y i) ≤ 5 * i ∧ tx (mt_lay M W y i) ≤ 95 ∧ ts (mt_lay M W y i) ≤ i ∧ te (mt_lay M W y i) ≤ 1 ∧ (te (mt_lay M W y i) = 0 → 1 ≤ tl (mt_lay M W y i) ∧ 2 ≤ tr (mt_lay M W y i)) := by
  intro i
  induction i with
  | zero => intro _; exact ⟨Nat.le_refl 0, Nat.le_refl 0, Nat.zero_le 95, Nat.le_refl 0, Nat.le_refl 1, fun h => absurd (show (1 : Nat) = 0 from h) (by decide)⟩
  | succ i ih =>
    intro hi
    obtain ⟨h1, h2, h3, h4, h5, h6⟩ := ih (by omega)
    have okw := ok.2.2.2.2.2.1 i (by omega)
    have hE := okw.2.1
    have hr := mf_row_le okw hW.1
    have hw := mt_width_le okw y
    have hfit : mf_fit M W y (mt_lay M W y i) i ↔ te (mt_lay M W y i) = 0 ∧ tx (mt_lay M W y i) + mp_S M + mt_width (mp_D M i) y ≤ W := Iff.rfl
    have hS := ok.2.2.2.1
    show (if mf_fit M W y (mt_lay M W y i) i then _ else _) ≤ i + 1 ∧ (if mf_fit M W y (mt_lay M W y i) i then _ else _) + (if mw_E (mp_D M i) = 0 then 0 else mf_row (mp_D M i) W) ≤ 5 * (i + 1) ∧
      (if mf_fit M W y (mt_lay M W y i) i then _ else _) + mt_width (mp_D M i) y ≤ 95 ∧ (if mw_E (mp_D M i) = 0 then _ else _) ≤ i + 1 ∧ mw_E (mp_D M i) ≤ 1 ∧
      (mw_E (mp_D M i) = 0 → 1 ≤ (if mf_fit M W y (mt_lay M W y i) i then tl (mt_lay M W y i) else tl (mt_lay M W y i) + 1) ∧ 2 ≤ (if mf_fit M W y (mt_lay M W y i) i then tr (mt_lay M W y i) else tr (mt_lay M W y i) + 2) + (if mw_E (mp_D M i) = 0 then 0 else mf_row (mp_D M i) W))
    by_cases q : mf_fit M W y (mt_lay M W y i) i
    · simp only [if_pos q]
      have q' := hfit.mp q
      have h6' := h6 q'.1
      by_cases z : mw_E (mp_D M i) = 0
      · simp only [if_pos z]; omega
      · simp only [if_neg z]; omega
    · simp only [if_neg q]
      by_cases z : mw_E (mp_D M i) = 0
      · simp only [if_pos z]; omega
      · simp only [if_neg z]; omega
/-! ===== the class's layout ===== -/
def xa (k : ka_K) (_ : Nat) : Prop := 12 ≤ k.1 ∧ k.1 ≤ 17
theorem xa_k {κ o i n : Nat} (h5 : 12 ≤ κ) (h9 : κ ≤ 17) : xa (κ, o, i) n := ⟨h5, h9⟩
theorem rc_P_xa {σ σ' : ka_S} {o : Nat} {M : ma_P} (h : rc_P σ o M) (a : ag xa σ σ') : rc_P σ' o M := rc_P_ag h a (fun κ i n hk q => absurd (show 12 ≤ κ from q.1) (by omega))
def rc_An (σ : ka_S) (M : ma_P) (W y n : Nat) : Prop := (σ.1 (12, 0, 0) 3 = nI (tl (mt_lay M W y n)) ∧ σ.1 (12, 0, 0) 4 = nI (tr (mt_lay M W y n))) ∧
  ∀ i, i < n → σ.1 (13, 0, 0) i = nI (ml_line M W y i) ∧ σ.1 (14, 0, 0) i = nI (ml_col M W y i) ∧ σ.1 (15, 0, 0) i = nI (ml_sent M W y i) ∧ σ.1 (17, 0, 0) i = nI (ml_row M W y i)
def rc_B (σ : ka_S) (M : ma_P) (y : Nat) : Prop := ∀ i, i < mp_N M → σ.1 (16, 0, 0) i = nI (mt_width (mp_D M i) y)
def rc_A (σ : ka_S) (M : ma_P) (W y : Nat) : Prop := rc_An σ M W y (mp_N M) ∧ rc_B σ M y
theorem sp_X1_measure_2 {σ0 : ka_S} {o y : Nat} {M : ma_P} {Q : ka_S → Prop} (ok : mp_ok M) (hp : rc_P σ0 o M) (hy : y ≤ 1) (h : ∀ σ, ag xa σ0 σ → rc_B σ M y → Q σ) :
    ∀ (n k : Nat) (σ : ka_S), k ≤ mp_N M → mp_N M < k + n → ag xa σ0 σ → (∀ i, i < k → σ.1 (16, 0, 0) i = nI (mt_width (mp_D M i) y)) → kw_X1_measure_2 o Q n σ (nI y) (nI k) := by
  intro n
  induction n with
  | zero => intro k σ h1 h2; omega
  | succ n ih =>
    intro k σ h1 h2 ha hr
    have hN := ok.1
    have hp' := rc_P_xa hp ha
    rw [kw_X1_measure_2, hp'.1.1]
    refine ⟨fun q => ?_, fun q => ?_⟩
    · simp (disch := omega) only [nI_leI, nI_ltI, nI_eq, nI_add, nI_clamp, kI_in, pk_mul, pk_sub, kI_lit, kI_litL, nI_l, lN_i, lN_add, pk_lEQ, forall_eq, kI_m1, Nat.reduceAdd, Nat.reduceMul, Nat.reduceSub, Nat.reduceLT, Nat.reduceLeDiff, Nat.reduceEqDiff, Nat.reducePow, Nat.reduceMod, Nat.reduceDiv, true_implies, false_implies, and_true, true_and, not_true_eq_false, not_false_eq_true, implies_true, Nat.zero_add, Nat.add_zero] at q
      obtain rfl : k = mp_N M := by omega
      exact h σ ha hr
    · simp (disch := omega) only [nI_leI, nI_ltI, nI_eq, nI_add, nI_clamp, kI_in, pk_mul, pk_sub, kI_lit, kI_litL, nI_l, lN_i, lN_add, pk_lEQ, forall_eq, kI_m1, Nat.reduceAdd, Nat.reduceMul, Nat.reduceSub, Nat.reduceLT, Nat.reduceLeDiff, Nat.reduceEqDiff, Nat.reducePow, Nat.reduceMod, Nat.reduceDiv, true_implies, false_implies, and_true, true_and, not_true_eq_false, not_false_eq_true, implies_true, Nat.zero_add, Nat.add_zero] at q
      have hk : k < mp_N M := by omega
      have hi : vp_in (nI k) 12 := (kI_in (by omega)).mpr (by omega)
      rw [nI_clamp (by omega)]
      refine ⟨hi, sp_X7_width (hp'.2.2 k hk) (ok.2.2.2.2.2.1 k hk) hy ⟨hi, ?_⟩⟩
      rw [forall_eq, forall_eq, show (nI k + 1 : Int32) = nI (k + 1) from nI_1 k]
      refine ih (k + 1) _ (by omega) (by omega) (ag_I ha (xa_k (by decide) (by decide))) (fun i hi => ?_)
      simp only [st_I, st_L, st_I2, st_L1, Prod.mk.injEq, Nat.reduceEqDiff, false_and, and_false, true_and, and_true, and_self, if_false, if_true, reduceIte]
      by_cases q2 : i = k
      · rw [if_pos q2, q2]
      · rw [if_neg q2]; exact hr i (by omega)
theorem sp_X1_measure {σ : ka_S} {o y : Nat} {M : ma_P} {Q : ka_S → Prop} (ok : mp_ok M) (hp : rc_P σ o M) (hy : y ≤ 1) (h : ∀ σ', ag xa σ σ' → rc_B σ' M y → Q σ') : kw_X1_measure σ o (nI y) Q :=
  ⟨13, sp_X1_measure_2 ok hp hy h 13 0 σ (Nat.zero_le _) (by have := ok.1; omega) ag_refl (fun i hi => absurd hi (Nat.not_lt_zero i))⟩
theorem sp_X1_rowsOfFree {σ : ka_S} {F W : Nat} {Q : Int32 → ka_S → Prop} (hF : F ≤ 24) (hW : 10 ≤ W ∧ W ≤ 60) (h : Q (nI ((F + W - 1) / W)) σ) : kw_X1_rowsOfFree σ (nI F) (nI W) Q := by
  unfold kw_X1_rowsOfFree
  refine ⟨fun _ => ⟨fun q => ?_, ?_⟩, fun q => ?_⟩
  · simp (disch := omega) only [nI_leI, nI_ltI, nI_eq, nI_add, nI_clamp, kI_in, pk_mul, pk_sub, kI_lit, kI_litL, nI_l, lN_i, lN_add, pk_lEQ, forall_eq, kI_m1, Nat.reduceAdd, Nat.reduceMul, Nat.reduceSub, Nat.reduceLT, Nat.reduceLeDiff, Nat.reduceEqDiff, Nat.reducePow, Nat.reduceMod, Nat.reduceDiv, true_implies, false_implies, and_true, true_and, not_true_eq_false, not_false_eq_true, implies_true, Nat.zero_add, Nat.add_zero] at q; omega
  · rw [nI_add, kI_lit, pk_sub (by omega), pk_div (by omega) (by omega) (by omega)]
    exact h
  · simp (disch := omega) only [nI_leI, nI_ltI, nI_eq, nI_add, nI_clamp, kI_in, pk_mul, pk_sub, kI_lit, kI_litL, nI_l, lN_i, lN_add, pk_lEQ, forall_eq, kI_m1, Nat.reduceAdd, Nat.reduceMul, Nat.reduceSub, Nat.reduceLT, Nat.reduceLeDiff, Nat.reduceEqDiff, Nat.reducePow, Nat.reduceMod, Nat.reduceDiv, true_implies, false_implies, and_true, true_and, not_true_eq_false, not_false_eq_true, implies_true, Nat.zero_add, Nat.add_zero] at q; omega
theorem sp_X1_wrap_80 {σ0 σ : ka_S} {o W y i c : Nat} {M : ma_P} {K : ka_S → Int32 → Int32 → Int32 → Int32 → Int32 → Prop} {Q : ka_S → Prop} (ok : mp_ok M) (hp : rc_P σ o M) (hW : 10 ≤ W ∧ W ≤ 60) (hi : i < mp_N M)
    (ha : ag xa σ0 σ) (hb : rc_B σ M y) (hr : ∀ j, j < i → σ.1 (13, 0, 0) j = nI (ml_line M W y j) ∧ σ.1 (14, 0, 0) j = nI (ml_col M W y j) ∧ σ.1 (15, 0, 0) j = nI (ml_sent M W y j) ∧ σ.1 (17, 0, 0) j = nI (ml_row M W y j))
    (h3 : σ.1 (12, 0, 0) 3 = nI (tl (mt_lay M W y (i + 1)))) (h4 : σ.1 (12, 0, 0) 4 = nI (if mf_fit M W y (mt_lay M W y i) i then tr (mt_lay M W y i) else tr (mt_lay M W y i) + 2)) (hc : c = ml_col M W y i)
    (h : ∀ σ1, ag xa σ0 σ1 → rc_B σ1 M y → rc_An σ1 M W y (i + 1) → K σ1 (nI W) (nI (tx (mt_lay M W y (i + 1)))) (nI (ts (mt_lay M W y (i + 1)))) (nI (te (mt_lay M W y (i + 1)))) (nI (i + 1))) :
    kw_X1_wrap_80 o K Q σ (nI W) (nI (ts (mt_lay M W y i))) (nI i) (nI c) := by
  have hN := ok.1
  have hi' : vp_in (nI i) 12 := (kI_in (by omega)).mpr (by omega)
  have okw := ok.2.2.2.2.2.1 i hi
  have hE := okw.2.1
  have hF := okw.2.2.1
  have b := mt_lay_le (y := y) ok hW i (by omega)
  have b1 := mt_lay_le (y := y) ok hW (i + 1) (by omega)
  have hl1 : 1 ≤ tl (mt_lay M W y (i + 1)) := by
    show 1 ≤ if mf_fit M W y (mt_lay M W y i) i then tl (mt_lay M W y i) else tl (mt_lay M W y i) + 1
    by_cases q : mf_fit M W y (mt_lay M W y i) i
    · rw [if_pos q]; exact (b.2.2.2.2.2 q.1).1
    · rw [if_neg q]; omega
  have hr2 : 2 ≤ (if mf_fit M W y (mt_lay M W y i) i then tr (mt_lay M W y i) else tr (mt_lay M W y i) + 2) := by
    by_cases q : mf_fit M W y (mt_lay M W y i) i
    · rw [if_pos q]; exact (b.2.2.2.2.2 q.1).2
    · rw [if_neg q]; omega
  have e1 : nI (tl (mt_lay M W y (i + 1))) - (1 : Int32) = nI (ml_line M W y i) := by rw [kI_lit, pk_sub (by omega)]; rfl
  have e2 : nI (if mf_fit M W y (mt_lay M W y i) i then tr (mt_lay M W y i) else tr (mt_lay M W y i) + 2) - (2 : Int32) = nI (ml_row M W y i) := by rw [kI_lit, pk_sub (by omega)]; rfl
  have g1 : ∀ σ x, (ka_wI σ (17, 0, 0) i x).1 (16, 0, 0) i = σ.1 (16, 0, 0) i := fun σ x => by
    simp only [st_I, st_L, st_I2, st_L1, Prod.mk.injEq, Nat.reduceEqDiff, false_and, and_false, true_and, and_true, and_self, if_false, if_true, reduceIte]
  unfold kw_X1_wrap_80
  rw [nI_clamp (by omega), h3, e1]
  refine ⟨hi', ?_⟩
  rw [forall_eq]
  refine ⟨hi', ?_⟩
  rw [forall_eq]
  refine ⟨hi', ?_⟩
  rw [forall_eq]
  refine ⟨hi', ?_⟩
  have e4 : (ka_wI (ka_wI (ka_wI σ (13, 0, 0) i (nI (ml_line M W y i))) (14, 0, 0) i (nI c)) (15, 0, 0) i (nI (ts (mt_lay M W y i)))).1 (12, 0, 0) 4 = nI (if mf_fit M W y (mt_lay M W y i) i then tr (mt_lay M W y i) else tr (mt_lay M W y i) + 2) := by
    simp only [st_I, st_L, st_I2, st_L1, Prod.mk.injEq, Nat.reduceEqDiff, false_and, and_false, true_and, and_true, and_self, if_false, if_true, reduceIte]
    exact h4
  rw [e4, e2, forall_eq]
  have hA := ag_I (k := (17, 0, 0)) (j := i) (x := nI (ml_row M W y i)) (ag_I (k := (15, 0, 0)) (j := i) (x := nI (ts (mt_lay M W y i))) (ag_I (k := (14, 0, 0)) (j := i) (x := nI c) (ag_I (k := (13, 0, 0)) (j := i) (x := nI (ml_line M W y i)) (ag_refl (X := xa) (σ := σ)) (xa_k (by decide) (by decide))) (xa_k (by decide) (by decide))) (xa_k (by decide) (by decide))) (xa_k (by decide) (by decide))
  have hR : ∀ j, j < i + 1 → (ka_wI (ka_wI (ka_wI (ka_wI σ (13, 0, 0) i (nI (ml_line M W y i))) (14, 0, 0) i (nI c)) (15, 0, 0) i (nI (ts (mt_lay M W y i)))) (17, 0, 0) i (nI (ml_row M W y i))).1 (13, 0, 0) j = nI (ml_line M W y j) ∧
      (ka_wI (ka_wI (ka_wI (ka_wI σ (13, 0, 0) i (nI (ml_line M W y i))) (14, 0, 0) i (nI c)) (15, 0, 0) i (nI (ts (mt_lay M W y i)))) (17, 0, 0) i (nI (ml_row M W y i))).1 (14, 0, 0) j = nI (ml_col M W y j) ∧
      (ka_wI (ka_wI (ka_wI (ka_wI σ (13, 0, 0) i (nI (ml_line M W y i))) (14, 0, 0) i (nI c)) (15, 0, 0) i (nI (ts (mt_lay M W y i)))) (17, 0, 0) i (nI (ml_row M W y i))).1 (15, 0, 0) j = nI (ml_sent M W y j) ∧
      (ka_wI (ka_wI (ka_wI (ka_wI σ (13, 0, 0) i (nI (ml_line M W y i))) (14, 0, 0) i (nI c)) (15, 0, 0) i (nI (ts (mt_lay M W y i)))) (17, 0, 0) i (nI (ml_row M W y i))).1 (17, 0, 0) j = nI (ml_row M W y j) := by
    intro j hj
    simp only [st_I, st_L, st_I2, st_L1, Prod.mk.injEq, Nat.reduceEqDiff, false_and, and_false, true_and, and_true, and_self, if_false, if_true, reduceIte]
    by_cases q : j = i
    · simp only [if_pos q]
      rw [q, hc]
      exact ⟨rfl, rfl, rfl, rfl⟩
    · simp only [if_neg q]
      exact hr j (by omega)
  have h12 : ∀ n, (ka_wI (ka_wI (ka_wI (ka_wI σ (13, 0, 0) i (nI (ml_line M W y i))) (14, 0, 0) i (nI c)) (15, 0, 0) i (nI (ts (mt_lay M W y i)))) (17, 0, 0) i (nI (ml_row M W y i))).1 (12, 0, 0) n = σ.1 (12, 0, 0) n := fun n => by
    simp only [st_I, st_L, st_I2, st_L1, Prod.mk.injEq, Nat.reduceEqDiff, false_and, and_false, true_and, and_true, and_self, if_false, if_true, reduceIte]
  have h16 : ∀ n, (ka_wI (ka_wI (ka_wI (ka_wI σ (13, 0, 0) i (nI (ml_line M W y i))) (14, 0, 0) i (nI c)) (15, 0, 0) i (nI (ts (mt_lay M W y i)))) (17, 0, 0) i (nI (ml_row M W y i))).1 (16, 0, 0) n = σ.1 (16, 0, 0) n := fun n => by
    simp only [st_I, st_L, st_I2, st_L1, Prod.mk.injEq, Nat.reduceEqDiff, false_and, and_false, true_and, and_true, and_self, if_false, if_true, reduceIte]
  have hP := rc_P_xa hp hA
  generalize ka_wI (ka_wI (ka_wI (ka_wI σ (13, 0, 0) i (nI (ml_line M W y i))) (14, 0, 0) i (nI c)) (15, 0, 0) i (nI (ts (mt_lay M W y i)))) (17, 0, 0) i (nI (ml_row M W y i)) = σ1 at hA hR h12 h16 hP ⊢
  refine ⟨hi', ?_⟩
  rw [forall_eq, h16, hb i hi, (hP.2.2 i hi).1.2.2, nI_add]
  refine ⟨hi', ?_⟩
  rw [forall_eq]
  have hx : c + mt_width (mp_D M i) y = tx (mt_lay M W y (i + 1)) := by rw [hc]; rfl
  rw [hx]
  have hb1 : rc_B σ1 M y := fun j hj => (h16 j).trans (hb j hj)
  refine ⟨fun q => ?_, fun q => ?_⟩
  · simp (disch := omega) only [nI_leI, nI_ltI, nI_eq, nI_add, nI_clamp, kI_in, pk_mul, pk_sub, kI_lit, kI_litL, nI_l, lN_i, lN_add, pk_lEQ, forall_eq, kI_m1, Nat.reduceAdd, Nat.reduceMul, Nat.reduceSub, Nat.reduceLT, Nat.reduceLeDiff, Nat.reduceEqDiff, Nat.reducePow, Nat.reduceMod, Nat.reduceDiv, true_implies, false_implies, and_true, true_and, not_true_eq_false, not_false_eq_true, implies_true, Nat.zero_add, Nat.add_zero] at q
    rw [forall_eq, show (nI i + 1 : Int32) = nI (i + 1) from nI_1 i]
    have es : ts (mt_lay M W y (i + 1)) = ts (mt_lay M W y i) := if_pos q
    have et : te (mt_lay M W y (i + 1)) = mw_E (mp_D M i) := rfl
    have hz := h σ1 (ag_trans ha hA) hb1 ⟨⟨(h12 3).trans h3, (h12 4).trans (h4.trans ?_)⟩, hR⟩
    · rw [es, et] at hz
      exact hz
    · show nI _ = nI ((if mf_fit M W y (mt_lay M W y i) i then tr (mt_lay M W y i) else tr (mt_lay M W y i) + 2) + (if mw_E (mp_D M i) = 0 then 0 else mf_row (mp_D M i) W))
      rw [if_pos q]; rfl
  · simp (disch := omega) only [nI_leI, nI_ltI, nI_eq, nI_add, nI_clamp, kI_in, pk_mul, pk_sub, kI_lit, kI_litL, nI_l, lN_i, lN_add, pk_lEQ, forall_eq, kI_m1, Nat.reduceAdd, Nat.reduceMul, Nat.reduceSub, Nat.reduceLT, Nat.reduceLeDiff, Nat.reduceEqDiff, Nat.reducePow, Nat.reduceMod, Nat.reduceDiv, true_implies, false_implies, and_true, true_and, not_true_eq_false, not_false_eq_true, implies_true, Nat.zero_add, Nat.add_zero] at q
    have es : ts (mt_lay M W y (i + 1)) = ts (mt_lay M W y i) + 1 := if_neg q
    have et : te (mt_lay M W y (i + 1)) = mw_E (mp_D M i) := rfl
    rw [forall_eq, (hP.2.2 i hi).1.2.1]
    refine ⟨hi', sp_X1_rowsOfFree hF hW ?_⟩
    rw [h12, h4, nI_add, forall_eq, forall_eq, show (nI i + 1 : Int32) = nI (i + 1) from nI_1 i, show (nI (ts (mt_lay M W y i)) + 1 : Int32) = nI (ts (mt_lay M W y i) + 1) from nI_1 _]
    have hz := h (ka_wI σ1 (12, 0, 0) 4 (nI ((if mf_fit M W y (mt_lay M W y i) i then tr (mt_lay M W y i) else tr (mt_lay M W y i) + 2) + (mw_F (mp_D M i) + W - 1) / W))) (ag_I (ag_trans ha hA) (xa_k (by decide) (by decide))) (fun j hj => ?_) ⟨⟨?_, ?_⟩, fun j hj => ?_⟩
    · rw [es, et] at hz
      exact hz
    · simp only [st_I, st_L, st_I2, st_L1, Prod.mk.injEq, Nat.reduceEqDiff, false_and, and_false, true_and, and_true, and_self, if_false, if_true, reduceIte]
      exact hb1 j hj
    · simp only [st_I, st_L, st_I2, st_L1, Prod.mk.injEq, Nat.reduceEqDiff, false_and, and_false, true_and, and_true, and_self, if_false, if_true, reduceIte]
      exact (h12 3).trans h3
    · simp only [st_I, st_L, st_I2, st_L1, Prod.mk.injEq, Nat.reduceEqDiff, false_and, and_false, true_and, and_true, and_self, if_false, if_true, reduceIte]
      show nI _ = nI ((if mf_fit M W y (mt_lay M W y i) i then tr (mt_lay M W y i) else tr (mt_lay M W y i) + 2) + (if mw_E (mp_D M i) = 0 then 0 else mf_row (mp_D M i) W))
      rw [if_neg q]; rfl
    · simp only [st_I, st_L, st_I2, st_L1, Prod.mk.injEq, Nat.reduceEqDiff, false_and, and_false, true_and, and_true, and_self, if_false, if_true, reduceIte]
      exact hR j hj
theorem sp_X1_wrap_21 {σ0 : ka_S} {o W y : Nat} {M : ma_P} {Q : ka_S → Prop} (ok : mp_ok M) (hp : rc_P σ0 o M) (hW : 10 ≤ W ∧ W ≤ 60) (h : ∀ σ, ag xa σ0 σ → rc_A σ M W y → Q σ) :
    ∀ (n k : Nat) (σ : ka_S), k ≤ mp_N M → mp_N M < k + n → ag xa σ0 σ → rc_B σ M y → rc_An σ M W y k →
      kw_X1_wrap_21 o Q n σ (nI W) (nI (tx (mt_lay M W y k))) (nI (ts (mt_lay M W y k))) (nI (te (mt_lay M W y k))) (nI k) := by
  intro n
  induction n with
  | zero => intro k σ h1 h2; omega
  | succ n ih =>
    intro k σ h1 h2 ha hb hr
    have hN := ok.1
    have hp' := rc_P_xa hp ha
    have hS := ok.2.2.2.1
    rw [kw_X1_wrap_21, hp'.1.1, hp'.1.2.2.1]
    refine ⟨fun q => ?_, fun q => ?_⟩
    · simp (disch := omega) only [nI_leI, nI_ltI, nI_eq, nI_add, nI_clamp, kI_in, pk_mul, pk_sub, kI_lit, kI_litL, nI_l, lN_i, lN_add, pk_lEQ, forall_eq, kI_m1, Nat.reduceAdd, Nat.reduceMul, Nat.reduceSub, Nat.reduceLT, Nat.reduceLeDiff, Nat.reduceEqDiff, Nat.reducePow, Nat.reduceMod, Nat.reduceDiv, true_implies, false_implies, and_true, true_and, not_true_eq_false, not_false_eq_true, implies_true, Nat.zero_add, Nat.add_zero] at q
      obtain rfl : k = mp_N M := by omega
      exact h σ ha ⟨hr, hb⟩
    · simp (disch := omega) only [nI_leI, nI_ltI, nI_eq, nI_add, nI_clamp, kI_in, pk_mul, pk_sub, kI_lit, kI_litL, nI_l, lN_i, lN_add, pk_lEQ, forall_eq, kI_m1, Nat.reduceAdd, Nat.reduceMul, Nat.reduceSub, Nat.reduceLT, Nat.reduceLeDiff, Nat.reduceEqDiff, Nat.reducePow, Nat.reduceMod, Nat.reduceDiv, true_implies, false_implies, and_true, true_and, not_true_eq_false, not_false_eq_true, implies_true, Nat.zero_add, Nat.add_zero] at q
      have hk : k < mp_N M := by omega
      have hi : vp_in (nI k) 12 := (kI_in (by omega)).mpr (by omega)
      have b := mt_lay_le (y := y) ok hW k (by omega)
      have hw := mt_width_le (ok.2.2.2.2.2.1 k hk) y
      have no : ¬ mf_fit M W y (mt_lay M W y k) k → kw_X1_wrap_57 o (kw_X1_wrap_21 o Q n) Q σ (nI W) (nI (ts (mt_lay M W y k))) (nI k) := by
        intro z
        unfold kw_X1_wrap_57
        have e4 : (ka_wI σ (12, 0, 0) 3 (nI (tl (mt_lay M W y k) + 1))).1 (12, 0, 0) 4 = nI (tr (mt_lay M W y k)) := by
          simp only [st_I, st_L, st_I2, st_L1, Prod.mk.injEq, Nat.reduceEqDiff, false_and, and_false, true_and, and_true, and_self, if_false, if_true, reduceIte]
          exact hr.1.2
        rw [hr.1.1, forall_eq, show (nI (tl (mt_lay M W y k)) + 1 : Int32) = nI (tl (mt_lay M W y k) + 1) from nI_1 _, e4, forall_eq, show (nI (tr (mt_lay M W y k)) + 2 : Int32) = nI (tr (mt_lay M W y k) + 2) from nI_add _ 2]
        have a2 := ag_I (k := (12, 0, 0)) (j := 4) (x := nI (tr (mt_lay M W y k) + 2)) (ag_I (k := (12, 0, 0)) (j := 3) (x := nI (tl (mt_lay M W y k) + 1)) ha (xa_k (by decide) (by decide))) (xa_k (by decide) (by decide))
        refine sp_X1_wrap_80 (σ0 := σ0) (y := y) (c := 0) ok (rc_P_xa hp a2) hW hk a2 (fun j hj => ?_) (fun j hj => ?_) ?_ ?_ (if_neg z).symm (fun σ1 a1 b1 r1 => ih (k + 1) σ1 (by omega) (by omega) a1 b1 r1)
        · simp only [st_I, st_L, st_I2, st_L1, Prod.mk.injEq, Nat.reduceEqDiff, false_and, and_false, true_and, and_true, and_self, if_false, if_true, reduceIte]
          exact hb j hj
        · simp only [st_I, st_L, st_I2, st_L1, Prod.mk.injEq, Nat.reduceEqDiff, false_and, and_false, true_and, and_true, and_self, if_false, if_true, reduceIte]
          exact hr.2 j hj
        · simp only [st_I, st_L, st_I2, st_L1, Prod.mk.injEq, Nat.reduceEqDiff, false_and, and_false, true_and, and_true, and_self, if_false, if_true, reduceIte]
          show nI _ = nI (if mf_fit M W y (mt_lay M W y k) k then tl (mt_lay M W y k) else tl (mt_lay M W y k) + 1)
          rw [if_neg z]
        · simp only [st_I, st_L, st_I2, st_L1, Prod.mk.injEq, Nat.reduceEqDiff, false_and, and_false, true_and, and_true, and_self, if_false, if_true, reduceIte]
          rw [if_neg z]
      rw [forall_eq, nI_add]
      refine ⟨fun z => ⟨hi, ?_⟩, fun z => ?_⟩
      · simp (disch := omega) only [nI_leI, nI_ltI, nI_eq, nI_add, nI_clamp, kI_in, pk_mul, pk_sub, kI_lit, kI_litL, nI_l, lN_i, lN_add, pk_lEQ, forall_eq, kI_m1, Nat.reduceAdd, Nat.reduceMul, Nat.reduceSub, Nat.reduceLT, Nat.reduceLeDiff, Nat.reduceEqDiff, Nat.reducePow, Nat.reduceMod, Nat.reduceDiv, true_implies, false_implies, and_true, true_and, not_true_eq_false, not_false_eq_true, implies_true, Nat.zero_add, Nat.add_zero] at z
        rw [nI_clamp (by omega), hb k hk, nI_add, nI_leI (by omega) (by omega)]
        refine ⟨fun z2 => ?_, fun z2 => no (fun c => z2 c.2)⟩
        have c : mf_fit M W y (mt_lay M W y k) k := ⟨z, z2⟩
        refine sp_X1_wrap_80 (σ0 := σ0) (y := y) ok hp' hW hk ha hb hr.2 ?_ ?_ (if_pos c).symm (fun σ1 a1 b1 r1 => ih (k + 1) σ1 (by omega) (by omega) a1 b1 r1)
        · refine hr.1.1.trans ?_
          show nI _ = nI (if mf_fit M W y (mt_lay M W y k) k then tl (mt_lay M W y k) else tl (mt_lay M W y k) + 1)
          rw [if_pos c]
        · rw [if_pos c]
          exact hr.1.2
      · simp (disch := omega) only [nI_leI, nI_ltI, nI_eq, nI_add, nI_clamp, kI_in, pk_mul, pk_sub, kI_lit, kI_litL, nI_l, lN_i, lN_add, pk_lEQ, forall_eq, kI_m1, Nat.reduceAdd, Nat.reduceMul, Nat.reduceSub, Nat.reduceLT, Nat.reduceLeDiff, Nat.reduceEqDiff, Nat.reducePow, Nat.reduceMod, Nat.reduceDiv, true_implies, false_implies, and_true, true_and, not_true_eq_false, not_false_eq_true, implies_true, Nat.zero_add, Nat.add_zero] at z
        exact no (fun c => z c.1)
theorem sp_X1_wrap {σ : ka_S} {o W y : Nat} {M : ma_P} {Q : ka_S → Prop} (ok : mp_ok M) (hp : rc_P σ o M) (hW : 10 ≤ W ∧ W ≤ 60) (hb : rc_B σ M y) (h : ∀ σ', ag xa σ σ' → rc_A σ' M W y → Q σ') : kw_X1_wrap σ o (nI W) Q := by
  unfold kw_X1_wrap
  rw [forall_eq, forall_eq]
  refine ⟨13, sp_X1_wrap_21 (y := y) ok hp hW h 13 0 _ (Nat.zero_le _) (by have := ok.1; omega) (ag_I (ag_I ag_refl (xa_k (by decide) (by decide))) (xa_k (by decide) (by decide))) (fun j hj => ?_) ⟨⟨?_, ?_⟩, fun j hj => absurd hj (Nat.not_lt_zero j)⟩⟩
  · simp only [st_I, st_L, st_I2, st_L1, Prod.mk.injEq, Nat.reduceEqDiff, false_and, and_false, true_and, and_true, and_self, if_false, if_true, reduceIte]
    exact hb j hj
  · simp only [st_I, st_L, st_I2, st_L1, Prod.mk.injEq, Nat.reduceEqDiff, false_and, and_false, true_and, and_true, and_self, if_false, if_true, reduceIte]
    rfl
  · simp only [st_I, st_L, st_I2, st_L1, Prod.mk.injEq, Nat.reduceEqDiff, false_and, and_false, true_and, and_true, and_self, if_false, if_true, reduceIte]
    rfl
theorem sp_X8_arranged {σ : ka_S} {o : Nat} {M : ma_P} {Q : ka_S → Prop} (ok : mp_ok M) (hp : rc_P σ o M) (h : ∀ σ', ag xa σ σ' → rc_A σ' M (mp_W M) (mp_Y M) → Q σ') : kw_X8_arranged σ o Q := by
  unfold kw_X8_arranged
  rw [hp.1.2.2.2]
  refine sp_X1_measure ok hp ok.2.2.2.2.1 (fun σ1 a1 b1 => ?_)
  have hp1 := rc_P_xa hp a1
  rw [hp1.1.2.1]
  exact sp_X1_wrap (y := mp_Y M) ok hp1 ok.2.2.1 b1 (fun σ2 a2 r2 => h σ2 (ag_trans a1 a2) r2)
