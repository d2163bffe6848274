/-! ===== what a word shows (numbers) ===== -/
def mw_sg (w : ma_W) (p : Nat) : List Nat := if mw_G w p = [] then [42] else mw_G w p
def mf_gap (w : ma_W) (p : Nat) : Nat := if mw_G w p = [] then 1 else 0
def mf_p (w : ma_W) (p : Nat) : Nat := (mw_P w p).length
def mf_s (w : ma_W) (p : Nat) : Nat := (mw_sg w p).length
def mf_x (w : ma_W) (p : Nat) : Nat := max (mf_p w p) (mf_s w p)
def mt_gaps (w : ma_W) : Nat := ma_sum (mf_gap w) (mw_S w)
def mt_width (w : ma_W) (y : Nat) : Nat := (mw_S w - 1) + if y = 1 then ma_sum (mf_x w) (mw_S w) else max (ma_sum (mf_p w) (mw_S w)) (ma_sum (mf_s w) (mw_S w))
def mf_txt (w : ma_W) (line p : Nat) : List Nat := if line = 0 then mw_P w p else mw_sg w p
def mf_wid (w : ma_W) (line y p : Nat) : Nat := if y = 1 then mf_x w p else (mf_txt w line p).length
def mt_shown (w : ma_W) (line y : Nat) : Nat → Nat → Nat → Nat
  | 0, _, _ => 32
  | n + 1, c, p => if c < mf_wid w line y p then (if c < (mf_txt w line p).length then (mf_txt w line p).getD c 0 else 32)
      else if c = mf_wid w line y p then (if p + 1 < mw_S w then mw_M w (p + 1) else 32) else (if p + 1 < mw_S w then mt_shown w line y n (c - (mf_wid w line y p + 1)) (p + 1) else 32)
theorem ma_C_z {l : List Nat} (h : ma_g l) : lN (ma_C l) = (0 : Int64) ↔ l = [] := by
  have hb := ma_C_lt h
  rw [kI_litL, pk_lEQ (by omega) (by decide)]
  exact ⟨fun e => ma_C_zero h e, fun e => by rw [e]; rfl⟩
theorem ma_M_z {l : List Nat} (h : ma_g l) : lN (ma_M l) = (0 : Int64) ↔ l = [] := by
  have hb := ma_M_lt h
  rw [kI_litL, pk_lEQ (by omega) (by decide)]
  exact ⟨fun e => ma_M_zero h e, fun e => by rw [e]; rfl⟩
theorem kI_max {a b : Nat} (ha : a < 2 ^ 31) (hb : b < 2 ^ 31) : (if nI a < nI b then nI b else nI a) = nI (max a b) := by
  by_cases h : a < b
  · rw [if_pos ((nI_ltI ha hb).mpr h), Nat.max_eq_right (by omega)]
  · rw [if_neg (fun q => h ((nI_ltI ha hb).mp q)), Nat.max_eq_left (by omega)]
theorem mf_s_le {w : ma_W} (ok : mw_ok w) {p : Nat} (hp : p < mw_S w) : 1 ≤ mf_s w p ∧ mf_s w p ≤ 8 := by
  have h := (ok.2.2.2.2.1 p hp).2.1
  show 1 ≤ (if mw_G w p = [] then [42] else mw_G w p).length ∧ (if mw_G w p = [] then [42] else mw_G w p).length ≤ 8
  by_cases q : mw_G w p = []
  · rw [if_pos q]; exact ⟨by decide, by decide⟩
  · rw [if_neg q]
    refine ⟨?_, h.1⟩
    exact Nat.pos_of_ne_zero (fun e => q (List.length_eq_zero_iff.mp e))
theorem mf_p_le {w : ma_W} (ok : mw_ok w) {p : Nat} (hp : p < mw_S w) : 1 ≤ mf_p w p ∧ mf_p w p ≤ 8 := by
  have h := (ok.2.2.2.2.1 p hp).1
  exact ⟨Nat.pos_of_ne_zero (fun e => h.1 (List.length_eq_zero_iff.mp e)), h.2.1⟩
theorem mf_x_le {w : ma_W} (ok : mw_ok w) {p : Nat} (hp : p < mw_S w) : 1 ≤ mf_x w p ∧ mf_x w p ≤ 8 := by
  have h1 := mf_p_le ok hp
  have h2 := mf_s_le ok hp
  show 1 ≤ max _ _ ∧ max _ _ ≤ 8
  omega
theorem mf_sum_le {w : ma_W} (ok : mw_ok w) : ma_sum (mf_p w) (mw_S w) ≤ 32 ∧ ma_sum (mf_s w) (mw_S w) ≤ 32 ∧ ma_sum (mf_x w) (mw_S w) ≤ 32 := by
  have hS := ok.1.2
  have a := ma_sum_le (f := mf_p w) (c := 8) (mw_S w) (fun k hk => (mf_p_le ok hk).2)
  have b := ma_sum_le (f := mf_s w) (c := 8) (mw_S w) (fun k hk => (mf_s_le ok hk).2)
  have c := ma_sum_le (f := mf_x w) (c := 8) (mw_S w) (fun k hk => (mf_x_le ok hk).2)
  omega
theorem mf_sum_ge {f : Nat → Nat} : ∀ (n : Nat), (∀ k, k < n → 1 ≤ f k) → n ≤ ma_sum f n := by
  intro n
  induction n with
  | zero => intro _; exact Nat.zero_le _
  | succ n ih =>
    intro h
    have h1 := ih (fun k hk => h k (Nat.lt_succ_of_lt hk))
    have h2 := h n (Nat.lt_succ_self n)
    show n + 1 ≤ ma_sum f n + f n
    omega
theorem mt_width_le {w : ma_W} (ok : mw_ok w) (y : Nat) : 1 ≤ mt_width w y ∧ mt_width w y ≤ 35 := by
  have hS := ok.1
  have h := mf_sum_le ok
  have h2 := mf_sum_ge (f := mf_p w) (mw_S w) (fun k hk => (mf_p_le ok hk).1)
  have h3 := mf_sum_ge (f := mf_x w) (mw_S w) (fun k hk => (mf_x_le ok hk).1)
  unfold mt_width
  by_cases q : y = 1
  · rw [if_pos q]; omega
  · rw [if_neg q]; omega
/-- letters that may be shown: of the page, or the one sign for a gap -/
def ma_s (l : List Nat) : Prop := ma_g l ∨ l = [42]
theorem mw_sg_s {w : ma_W} (ok : mw_ok w) {p : Nat} (hp : p < mw_S w) : ma_s (mw_sg w p) := by
  unfold mw_sg
  by_cases q : mw_G w p = []
  · rw [if_pos q]; exact Or.inr rfl
  · rw [if_neg q]; exact Or.inl (ok.2.2.2.2.1 p hp).2.1
theorem mf_txt_s {w : ma_W} (ok : mw_ok w) {line p : Nat} (hp : p < mw_S w) : ma_s (mf_txt w line p) := by
  unfold mf_txt
  by_cases q : line = 0
  · rw [if_pos q]; exact Or.inl (ok.2.2.2.2.1 p hp).1.g
  · rw [if_neg q]; exact mw_sg_s ok hp
theorem ma_s_len {l : List Nat} (h : ma_s l) : l.length ≤ 8 := by
  rcases h with h | h
  · exact h.1
  · rw [h]; decide
theorem sp_X2_lengthS {σ : ka_S} {l : List Nat} {Q : Int32 → ka_S → Prop} (hl : ma_s l) (h : Q (nI l.length) σ) : kw_X2_length σ (lN (ma_C l)) Q := by
  rcases hl with hl | hl
  · exact sp_X2_length hl h
  · subst hl
    unfold kw_X2_length
    rw [show (lN (ma_C [42]) &&& (15 : Int64)).toInt32 = nI 1 by decide]
    exact h
theorem sp_X2_codeS {σ : ka_S} {l : List Nat} {k : Nat} {Q : Int32 → ka_S → Prop} (hl : ma_s l) (hk : k < l.length) (h : Q (nI (l.getD k 0)) σ) : kw_X2_code σ (lN (ma_C l)) (nI k) Q := by
  rcases hl with hl | hl
  · exact sp_X2_code hl hk h
  · have h0 : k = 0 := by subst hl; exact Nat.lt_one_iff.mp hk
    subst h0
    unfold kw_X2_code
    refine ⟨fun hc => absurd hc (by decide), fun _ => sp_X2_lengthS (Or.inr hl) ⟨fun _ => sp_X2_placeOf (by omega) ?_, fun hc => absurd (nI_lt hk (by subst hl; decide)) hc⟩⟩
    subst hl
    exact h
/-! ===== the class's words ===== -/
theorem rc_p {σ : ka_S} {o i p : Nat} {w : ma_W} (hw : rc_W σ o i w) (hp : p < mw_S w) : σ.2 (6, o, i) p = lN (ma_C (mw_P w p)) := (hw.2.1 p hp).1
theorem rc_g {σ : ka_S} {o i p : Nat} {w : ma_W} (hw : rc_W σ o i w) (hp : p < mw_S w) : σ.2 (7, o, i) p = lN (ma_C (mw_G w p)) := (hw.2.1 p hp).2.1
theorem sp_X7_countGaps_4 {σ : ka_S} {o i : Nat} {w : ma_W} {Q : Int32 → ka_S → Prop} (hw : rc_W σ o i w) (ok : mw_ok w) (h : Q (nI (mt_gaps w)) σ) :
    ∀ (n k : Nat), k ≤ mw_S w → mw_S w < k + n → kw_X7_countGaps_4 o i Q n σ (nI (ma_sum (mf_gap w) k)) (nI k) := by
  intro n
  induction n with
  | zero => intro k h1 h2; omega
  | succ n ih =>
    intro k h1 h2
    have hS := ok.1.2
    rw [kw_X7_countGaps_4, hw.1.1]
    refine ⟨fun hc => ?_, fun hc => ?_⟩
    · simp (disch := omega) only [nI_leI, nI_ltI, nI_eq, nI_add, nI_clamp, kI_in, pk_mul, pk_sub, kI_lit, kI_litL, nI_l, lN_i, lN_add, pk_lEQ, forall_eq, kI_m1, Nat.reduceAdd, Nat.reduceMul, Nat.reduceSub, Nat.reduceLT, Nat.reduceLeDiff, Nat.reduceEqDiff, Nat.reducePow, Nat.reduceMod, Nat.reduceDiv, true_implies, false_implies, and_true, true_and, not_true_eq_false, not_false_eq_true, implies_true, Nat.zero_add, Nat.add_zero] at hc
      rw [show k = mw_S w by omega]; exact h
    · simp (disch := omega) only [nI_leI, nI_ltI, nI_eq, nI_add, nI_clamp, kI_in, pk_mul, pk_sub, kI_lit, kI_litL, nI_l, lN_i, lN_add, pk_lEQ, forall_eq, kI_m1, Nat.reduceAdd, Nat.reduceMul, Nat.reduceSub, Nat.reduceLT, Nat.reduceLeDiff, Nat.reduceEqDiff, Nat.reducePow, Nat.reduceMod, Nat.reduceDiv, true_implies, false_implies, and_true, true_and, not_true_eq_false, not_false_eq_true, implies_true, Nat.zero_add, Nat.add_zero] at hc
      have hk : k < mw_S w := by omega
      have hg := (ok.2.2.2.2.1 k hk).2.1
      have e : ma_sum (mf_gap w) (k + 1) = ma_sum (mf_gap w) k + mf_gap w k := rfl
      have f : mf_gap w k = if mw_G w k = [] then 1 else 0 := rfl
      refine ⟨(kI_in (by omega)).mpr (by omega), ?_⟩
      rw [nI_clamp (by omega), rc_g hw hk, ma_C_z hg]
      refine ⟨fun hz => ?_, fun hz => ?_⟩
      · rw [if_pos hz] at f
        simp (disch := omega) only [nI_leI, nI_ltI, nI_eq, nI_add, nI_clamp, kI_in, pk_mul, pk_sub, kI_lit, kI_litL, nI_l, lN_i, lN_add, pk_lEQ, forall_eq, kI_m1, Nat.reduceAdd, Nat.reduceMul, Nat.reduceSub, Nat.reduceLT, Nat.reduceLeDiff, Nat.reduceEqDiff, Nat.reducePow, Nat.reduceMod, Nat.reduceDiv, true_implies, false_implies, and_true, true_and, not_true_eq_false, not_false_eq_true, implies_true, Nat.zero_add, Nat.add_zero]
        have := ih (k + 1) (by omega) (by omega)
        rw [e, f] at this
        exact this
      · rw [if_neg hz] at f
        simp (disch := omega) only [nI_leI, nI_ltI, nI_eq, nI_add, nI_clamp, kI_in, pk_mul, pk_sub, kI_lit, kI_litL, nI_l, lN_i, lN_add, pk_lEQ, forall_eq, kI_m1, Nat.reduceAdd, Nat.reduceMul, Nat.reduceSub, Nat.reduceLT, Nat.reduceLeDiff, Nat.reduceEqDiff, Nat.reducePow, Nat.reduceMod, Nat.reduceDiv, true_implies, false_implies, and_true, true_and, not_true_eq_false, not_false_eq_true, implies_true, Nat.zero_add, Nat.add_zero]
        have := ih (k + 1) (by omega) (by omega)
        rw [e, f] at this
        exact this
theorem sp_X7_countGaps {σ : ka_S} {o i : Nat} {w : ma_W} {Q : Int32 → ka_S → Prop} (hw : rc_W σ o i w) (ok : mw_ok w) (h : Q (nI (mt_gaps w)) σ) : kw_X7_countGaps σ o i Q :=
  ⟨5, sp_X7_countGaps_4 hw ok h 5 0 (Nat.zero_le _) (by have := ok.1.2; omega)⟩
theorem sp_X7_shownGloss {σ : ka_S} {o i p : Nat} {w : ma_W} {Q : Int64 → ka_S → Prop} (hw : rc_W σ o i w) (ok : mw_ok w) (hp : p < mw_S w) (h : Q (lN (ma_C (mw_sg w p))) σ) : kw_X7_shownGloss σ o i (nI p) Q := by
  have hS := ok.1.2
  have hg := (ok.2.2.2.2.1 p hp).2.1
  unfold kw_X7_shownGloss
  refine ⟨(kI_in (by omega)).mpr (by omega), ?_⟩
  rw [nI_clamp (by omega), rc_g hw hp, ma_C_z hg]
  unfold mw_sg at h
  refine ⟨fun hz => ?_, fun hz => ⟨(kI_in (by omega)).mpr (by omega), ?_⟩⟩
  · rw [if_pos hz] at h
    exact sp_X2_with (l := []) ⟨by decide, fun c hc => absurd hc List.not_mem_nil⟩ (by decide) (x := 42) (by decide) h
  · rw [if_neg hz] at h
    exact h
theorem sp_X7_width_10 {σ : ka_S} {o i y : Nat} {w : ma_W} {Q : Int32 → ka_S → Prop} (hw : rc_W σ o i w) (ok : mw_ok w) (hy : y ≤ 1) (h : Q (nI (mt_width w y)) σ) :
    ∀ (n k : Nat), k ≤ mw_S w → mw_S w < k + n → kw_X7_width_10 o i Q n σ (nI y) (nI (ma_sum (mf_p w) k)) (nI (ma_sum (mf_s w) k)) (nI (ma_sum (mf_x w) k)) (nI k) := by
  intro n
  induction n with
  | zero => intro k h1 h2; omega
  | succ n ih =>
    intro k h1 h2
    have hS := ok.1
    rw [kw_X7_width_10, hw.1.1]
    refine ⟨fun hc => ?_, fun hc => ?_⟩
    · simp (disch := omega) only [nI_leI, nI_ltI, nI_eq, nI_add, nI_clamp, kI_in, pk_mul, pk_sub, kI_lit, kI_litL, nI_l, lN_i, lN_add, pk_lEQ, forall_eq, kI_m1, Nat.reduceAdd, Nat.reduceMul, Nat.reduceSub, Nat.reduceLT, Nat.reduceLeDiff, Nat.reduceEqDiff, Nat.reducePow, Nat.reduceMod, Nat.reduceDiv, true_implies, false_implies, and_true, true_and, not_true_eq_false, not_false_eq_true, implies_true, Nat.zero_add, Nat.add_zero] at hc
      have hk : k = mw_S w := by omega
      subst hk
      have hb := mf_sum_le ok
      unfold mt_width at h
      refine ⟨fun q => ?_, fun q => ?_⟩
      · simp (disch := omega) only [nI_leI, nI_ltI, nI_eq, nI_add, nI_clamp, kI_in, pk_mul, pk_sub, kI_lit, kI_litL, nI_l, lN_i, lN_add, pk_lEQ, forall_eq, kI_m1, Nat.reduceAdd, Nat.reduceMul, Nat.reduceSub, Nat.reduceLT, Nat.reduceLeDiff, Nat.reduceEqDiff, Nat.reducePow, Nat.reduceMod, Nat.reduceDiv, true_implies, false_implies, and_true, true_and, not_true_eq_false, not_false_eq_true, implies_true, Nat.zero_add, Nat.add_zero] at q
        rw [if_pos q] at h
        simp (disch := omega) only [nI_leI, nI_ltI, nI_eq, nI_add, nI_clamp, kI_in, pk_mul, pk_sub, kI_lit, kI_litL, nI_l, lN_i, lN_add, pk_lEQ, forall_eq, kI_m1, Nat.reduceAdd, Nat.reduceMul, Nat.reduceSub, Nat.reduceLT, Nat.reduceLeDiff, Nat.reduceEqDiff, Nat.reducePow, Nat.reduceMod, Nat.reduceDiv, true_implies, false_implies, and_true, true_and, not_true_eq_false, not_false_eq_true, implies_true, Nat.zero_add, Nat.add_zero]
        exact h
      · simp (disch := omega) only [nI_leI, nI_ltI, nI_eq, nI_add, nI_clamp, kI_in, pk_mul, pk_sub, kI_lit, kI_litL, nI_l, lN_i, lN_add, pk_lEQ, forall_eq, kI_m1, Nat.reduceAdd, Nat.reduceMul, Nat.reduceSub, Nat.reduceLT, Nat.reduceLeDiff, Nat.reduceEqDiff, Nat.reducePow, Nat.reduceMod, Nat.reduceDiv, true_implies, false_implies, and_true, true_and, not_true_eq_false, not_false_eq_true, implies_true, Nat.zero_add, Nat.add_zero] at q
        rw [if_neg q] at h
        rw [kI_max (by omega) (by omega)]
        simp (disch := omega) only [nI_leI, nI_ltI, nI_eq, nI_add, nI_clamp, kI_in, pk_mul, pk_sub, kI_lit, kI_litL, nI_l, lN_i, lN_add, pk_lEQ, forall_eq, kI_m1, Nat.reduceAdd, Nat.reduceMul, Nat.reduceSub, Nat.reduceLT, Nat.reduceLeDiff, Nat.reduceEqDiff, Nat.reducePow, Nat.reduceMod, Nat.reduceDiv, true_implies, false_implies, and_true, true_and, not_true_eq_false, not_false_eq_true, implies_true, Nat.zero_add, Nat.add_zero]
        exact h
    · simp (disch := omega) only [nI_leI, nI_ltI, nI_eq, nI_add, nI_clamp, kI_in, pk_mul, pk_sub, kI_lit, kI_litL, nI_l, lN_i, lN_add, pk_lEQ, forall_eq, kI_m1, Nat.reduceAdd, Nat.reduceMul, Nat.reduceSub, Nat.reduceLT, Nat.reduceLeDiff, Nat.reduceEqDiff, Nat.reducePow, Nat.reduceMod, Nat.reduceDiv, true_implies, false_implies, and_true, true_and, not_true_eq_false, not_false_eq_true, implies_true, Nat.zero_add, Nat.add_zero] at hc
      have hk : k < mw_S w := by omega
      have hp := (ok.2.2.2.2.1 k hk).1
      have b1 := mf_p_le ok hk
      have b2 := mf_s_le ok hk
      refine ⟨(kI_in (by omega)).mpr (by omega), ?_⟩
      rw [nI_clamp (by omega), rc_p hw hk]
      refine sp_X2_length hp.g (sp_X7_shownGloss hw ok hk (sp_X2_lengthS (mw_sg_s ok hk) ?_))
      have := ih (k + 1) (by omega) (by omega)
      rw [show nI (mw_P w k).length = nI (mf_p w k) from rfl, show nI (mw_sg w k).length = nI (mf_s w k) from rfl, kI_max (by omega) (by omega)]
      simp (disch := omega) only [nI_leI, nI_ltI, nI_eq, nI_add, nI_clamp, kI_in, pk_mul, pk_sub, kI_lit, kI_litL, nI_l, lN_i, lN_add, pk_lEQ, forall_eq, kI_m1, Nat.reduceAdd, Nat.reduceMul, Nat.reduceSub, Nat.reduceLT, Nat.reduceLeDiff, Nat.reduceEqDiff, Nat.reducePow, Nat.reduceMod, Nat.reduceDiv, true_implies, false_implies, and_true, true_and, not_true_eq_false, not_false_eq_true, implies_true, Nat.zero_add, Nat.add_zero]
      exact this
theorem sp_X7_width {σ : ka_S} {o i y : Nat} {w : ma_W} {Q : Int32 → ka_S → Prop} (hw : rc_W σ o i w) (ok : mw_ok w) (hy : y ≤ 1) (h : Q (nI (mt_width w y)) σ) : kw_X7_width σ o i (nI y) Q :=
  ⟨5, sp_X7_width_10 hw ok hy h 5 0 (Nat.zero_le _) (by have := ok.1.2; omega)⟩
