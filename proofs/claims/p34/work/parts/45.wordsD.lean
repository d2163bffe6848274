/-! ===== the class's words: a code that is shown, a copy ===== -/
theorem mf_wid_le {w : ma_W} (ok : mw_ok w) {line y p : Nat} (hp : p < mw_S w) : mf_wid w line y p ≤ 8 := by
  unfold mf_wid
  by_cases q : y = 1
  · rw [if_pos q]; exact (mf_x_le ok hp).2
  · rw [if_neg q]; exact ma_s_len (mf_txt_s ok hp)
theorem sp_X7_codeShown_73 {σ : ka_S} {o i y line p c m : Nat} {w : ma_W} {Q : Int32 → ka_S → Prop} {K : ka_S → Int32 → Int32 → Int32 → Int32 → Prop} (hw : rc_W σ o i w) (ok : mw_ok w) (hc : c < 2 ^ 31) (hp : p < mw_S w)
    (h : Q (nI (mt_shown w line y (m + 1) c p)) σ) (hK : mf_wid w line y p < c → (p + 1 < mw_S w → Q (nI (mt_shown w line y m (c - (mf_wid w line y p + 1)) (p + 1))) σ) → (p + 1 = mw_S w → Q 32 σ) → K σ (nI line) (nI y) (nI (c - (mf_wid w line y p + 1))) (nI (p + 1))) :
    kw_X7_codeShown_73 o i K Q σ (nI line) (nI y) (nI c) (nI p) (lN (ma_C (mf_txt w line p))) (nI (mf_wid w line y p)) := by
  have hS := ok.1
  have hwd := mf_wid_le ok (line := line) (y := y) hp
  have hts := mf_txt_s ok (line := line) hp
  have htl := ma_s_len hts
  unfold kw_X7_codeShown_73
  unfold mt_shown at h
  rw [hw.1.1]
  refine ⟨fun q1 => ⟨fun q2 => ⟨fun q3 => ?_, fun q3 => ⟨?_, ?_⟩⟩, fun q2 => ?_⟩, fun q1 => sp_X2_lengthS hts ⟨fun q => ?_, fun q => ?_⟩⟩
  · simp (disch := omega) only [nI_leI, nI_ltI, nI_eq, nI_add, nI_clamp, kI_in, pk_mul, pk_sub, kI_lit, kI_litL, nI_l, lN_i, lN_add, pk_lEQ, forall_eq, kI_m1, Nat.reduceAdd, Nat.reduceMul, Nat.reduceSub, Nat.reduceLT, Nat.reduceLeDiff, Nat.reduceEqDiff, Nat.reducePow, Nat.reduceMod, Nat.reduceDiv, true_implies, false_implies, and_true, true_and, not_true_eq_false, not_false_eq_true, implies_true, Nat.zero_add, Nat.add_zero] at q1 q2 q3
    rw [if_neg (by omega), if_pos (by omega), if_neg (by omega)] at h
    exact h
  · simp (disch := omega) only [nI_leI, nI_ltI, nI_eq, nI_add, nI_clamp, kI_in, pk_mul, pk_sub, kI_lit, kI_litL, nI_l, lN_i, lN_add, pk_lEQ, forall_eq, kI_m1, Nat.reduceAdd, Nat.reduceMul, Nat.reduceSub, Nat.reduceLT, Nat.reduceLeDiff, Nat.reduceEqDiff, Nat.reducePow, Nat.reduceMod, Nat.reduceDiv, true_implies, false_implies, and_true, true_and, not_true_eq_false, not_false_eq_true, implies_true, Nat.zero_add, Nat.add_zero] at q1 q2 q3 ⊢
    omega
  · simp (disch := omega) only [nI_leI, nI_ltI, nI_eq, nI_add, nI_clamp, kI_in, pk_mul, pk_sub, kI_lit, kI_litL, nI_l, lN_i, lN_add, pk_lEQ, forall_eq, kI_m1, Nat.reduceAdd, Nat.reduceMul, Nat.reduceSub, Nat.reduceLT, Nat.reduceLeDiff, Nat.reduceEqDiff, Nat.reducePow, Nat.reduceMod, Nat.reduceDiv, true_implies, false_implies, and_true, true_and, not_true_eq_false, not_false_eq_true, implies_true, Nat.zero_add, Nat.add_zero] at q1 q2 q3
    rw [if_neg (by omega), if_pos (by omega), if_pos (by omega)] at h
    simp (disch := omega) only [nI_leI, nI_ltI, nI_eq, nI_add, nI_clamp, kI_in, pk_mul, pk_sub, kI_lit, kI_litL, nI_l, lN_i, lN_add, pk_lEQ, forall_eq, kI_m1, Nat.reduceAdd, Nat.reduceMul, Nat.reduceSub, Nat.reduceLT, Nat.reduceLeDiff, Nat.reduceEqDiff, Nat.reducePow, Nat.reduceMod, Nat.reduceDiv, true_implies, false_implies, and_true, true_and, not_true_eq_false, not_false_eq_true, implies_true, Nat.zero_add, Nat.add_zero]
    rw [(hw.2.1 (p + 1) (by omega)).2.2, if_neg (by omega)]
    exact h
  · simp (disch := omega) only [nI_leI, nI_ltI, nI_eq, nI_add, nI_clamp, kI_in, pk_mul, pk_sub, kI_lit, kI_litL, nI_l, lN_i, lN_add, pk_lEQ, forall_eq, kI_m1, Nat.reduceAdd, Nat.reduceMul, Nat.reduceSub, Nat.reduceLT, Nat.reduceLeDiff, Nat.reduceEqDiff, Nat.reducePow, Nat.reduceMod, Nat.reduceDiv, true_implies, false_implies, and_true, true_and, not_true_eq_false, not_false_eq_true, implies_true, Nat.zero_add, Nat.add_zero] at q1 q2
    rw [if_neg (by omega), if_neg (by omega)] at h
    simp (disch := omega) only [nI_leI, nI_ltI, nI_eq, nI_add, nI_clamp, kI_in, pk_mul, pk_sub, kI_lit, kI_litL, nI_l, lN_i, lN_add, pk_lEQ, forall_eq, kI_m1, Nat.reduceAdd, Nat.reduceMul, Nat.reduceSub, Nat.reduceLT, Nat.reduceLeDiff, Nat.reduceEqDiff, Nat.reducePow, Nat.reduceMod, Nat.reduceDiv, true_implies, false_implies, and_true, true_and, not_true_eq_false, not_false_eq_true, implies_true, Nat.zero_add, Nat.add_zero]
    refine hK (by omega) (fun q => ?_) (fun q => ?_)
    · rw [if_pos q] at h; exact h
    · rw [if_neg (by omega)] at h; exact h
  · simp (disch := omega) only [nI_leI, nI_ltI, nI_eq, nI_add, nI_clamp, kI_in, pk_mul, pk_sub, kI_lit, kI_litL, nI_l, lN_i, lN_add, pk_lEQ, forall_eq, kI_m1, Nat.reduceAdd, Nat.reduceMul, Nat.reduceSub, Nat.reduceLT, Nat.reduceLeDiff, Nat.reduceEqDiff, Nat.reducePow, Nat.reduceMod, Nat.reduceDiv, true_implies, false_implies, and_true, true_and, not_true_eq_false, not_false_eq_true, implies_true, Nat.zero_add, Nat.add_zero] at q1 q
    rw [if_pos (by omega), if_neg (by omega)] at h
    exact h
  · simp (disch := omega) only [nI_leI, nI_ltI, nI_eq, nI_add, nI_clamp, kI_in, pk_mul, pk_sub, kI_lit, kI_litL, nI_l, lN_i, lN_add, pk_lEQ, forall_eq, kI_m1, Nat.reduceAdd, Nat.reduceMul, Nat.reduceSub, Nat.reduceLT, Nat.reduceLeDiff, Nat.reduceEqDiff, Nat.reducePow, Nat.reduceMod, Nat.reduceDiv, true_implies, false_implies, and_true, true_and, not_true_eq_false, not_false_eq_true, implies_true, Nat.zero_add, Nat.add_zero] at q1 q
    rw [if_pos (by omega), if_pos (by omega)] at h
    exact sp_X2_codeS hts (by omega) h
theorem sp_X7_codeShown_6 {σ : ka_S} {o i y line : Nat} {w : ma_W} {Q : Int32 → ka_S → Prop} (hw : rc_W σ o i w) (ok : mw_ok w) (hl : line ≤ 1) (hy : y ≤ 1) :
    ∀ (n m p c : Nat), p ≤ mw_S w → mw_S w < p + n → mw_S w ≤ p + m → c < 2 ^ 31 → (p < mw_S w → Q (nI (mt_shown w line y m c p)) σ) → (p = mw_S w → Q 32 σ) → kw_X7_codeShown_6 o i Q n σ (nI line) (nI y) (nI c) (nI p) := by
  intro n
  induction n with
  | zero => intro m p c h1 h2; omega
  | succ n ih =>
    intro m p c h1 h2 h3 hc hq hq2
    have hS := ok.1
    rw [kw_X7_codeShown_6, hw.1.1]
    refine ⟨fun q => ?_, fun q => ?_⟩
    · simp (disch := omega) only [nI_leI, nI_ltI, nI_eq, nI_add, nI_clamp, kI_in, pk_mul, pk_sub, kI_lit, kI_litL, nI_l, lN_i, lN_add, pk_lEQ, forall_eq, kI_m1, Nat.reduceAdd, Nat.reduceMul, Nat.reduceSub, Nat.reduceLT, Nat.reduceLeDiff, Nat.reduceEqDiff, Nat.reducePow, Nat.reduceMod, Nat.reduceDiv, true_implies, false_implies, and_true, true_and, not_true_eq_false, not_false_eq_true, implies_true, Nat.zero_add, Nat.add_zero] at q
      exact hq2 (by omega)
    · simp (disch := omega) only [nI_leI, nI_ltI, nI_eq, nI_add, nI_clamp, kI_in, pk_mul, pk_sub, kI_lit, kI_litL, nI_l, lN_i, lN_add, pk_lEQ, forall_eq, kI_m1, Nat.reduceAdd, Nat.reduceMul, Nat.reduceSub, Nat.reduceLT, Nat.reduceLeDiff, Nat.reduceEqDiff, Nat.reducePow, Nat.reduceMod, Nat.reduceDiv, true_implies, false_implies, and_true, true_and, not_true_eq_false, not_false_eq_true, implies_true, Nat.zero_add, Nat.add_zero] at q
      have hp : p < mw_S w := by omega
      have hpp := (ok.2.2.2.2.1 p hp).1
      have b1 := mf_p_le ok hp
      have b2 := mf_s_le ok hp
      obtain ⟨m, rfl⟩ : ∃ m', m = m' + 1 := ⟨m - 1, by omega⟩
      have t73 : kw_X7_codeShown_73 o i (kw_X7_codeShown_6 o i Q n) Q σ (nI line) (nI y) (nI c) (nI p) (lN (ma_C (mf_txt w line p))) (nI (mf_wid w line y p)) :=
        sp_X7_codeShown_73 hw ok hc hp (hq hp) (fun _ k1 k2 => ih m (p + 1) _ (by omega) (by omega) (by omega) (by omega) k1 k2)
      have main : kw_X7_codeShown_35 o i (kw_X7_codeShown_6 o i Q n) Q σ (nI line) (nI y) (nI c) (nI p) (lN (ma_C (mf_txt w line p))) := by
        unfold kw_X7_codeShown_35
        unfold mf_wid at t73
        refine sp_X2_lengthS (mf_txt_s ok hp) ⟨fun q => ⟨(kI_in (by omega)).mpr (by omega), ?_⟩, fun q => ?_⟩
        · simp (disch := omega) only [nI_leI, nI_ltI, nI_eq, nI_add, nI_clamp, kI_in, pk_mul, pk_sub, kI_lit, kI_litL, nI_l, lN_i, lN_add, pk_lEQ, forall_eq, kI_m1, Nat.reduceAdd, Nat.reduceMul, Nat.reduceSub, Nat.reduceLT, Nat.reduceLeDiff, Nat.reduceEqDiff, Nat.reducePow, Nat.reduceMod, Nat.reduceDiv, true_implies, false_implies, and_true, true_and, not_true_eq_false, not_false_eq_true, implies_true, Nat.zero_add, Nat.add_zero] at q
          rw [if_pos q] at t73
          rw [nI_clamp (by omega), rc_p hw hp]
          refine sp_X2_length hpp.g (sp_X7_shownGloss hw ok hp (sp_X2_lengthS (mw_sg_s ok hp) ?_))
          rw [show nI (mw_P w p).length = nI (mf_p w p) from rfl, show nI (mw_sg w p).length = nI (mf_s w p) from rfl, kI_max (by omega) (by omega)]
          simp (disch := omega) only [nI_leI, nI_ltI, nI_eq, nI_add, nI_clamp, kI_in, pk_mul, pk_sub, kI_lit, kI_litL, nI_l, lN_i, lN_add, pk_lEQ, forall_eq, kI_m1, Nat.reduceAdd, Nat.reduceMul, Nat.reduceSub, Nat.reduceLT, Nat.reduceLeDiff, Nat.reduceEqDiff, Nat.reducePow, Nat.reduceMod, Nat.reduceDiv, true_implies, false_implies, and_true, true_and, not_true_eq_false, not_false_eq_true, implies_true, Nat.zero_add, Nat.add_zero]
          exact t73
        · simp (disch := omega) only [nI_leI, nI_ltI, nI_eq, nI_add, nI_clamp, kI_in, pk_mul, pk_sub, kI_lit, kI_litL, nI_l, lN_i, lN_add, pk_lEQ, forall_eq, kI_m1, Nat.reduceAdd, Nat.reduceMul, Nat.reduceSub, Nat.reduceLT, Nat.reduceLeDiff, Nat.reduceEqDiff, Nat.reducePow, Nat.reduceMod, Nat.reduceDiv, true_implies, false_implies, and_true, true_and, not_true_eq_false, not_false_eq_true, implies_true, Nat.zero_add, Nat.add_zero] at q
          rw [if_neg q] at t73
          exact t73
      refine ⟨fun q => ⟨(kI_in (by omega)).mpr (by omega), ?_⟩, fun q => sp_X7_shownGloss hw ok hp ?_⟩
      · simp (disch := omega) only [nI_leI, nI_ltI, nI_eq, nI_add, nI_clamp, kI_in, pk_mul, pk_sub, kI_lit, kI_litL, nI_l, lN_i, lN_add, pk_lEQ, forall_eq, kI_m1, Nat.reduceAdd, Nat.reduceMul, Nat.reduceSub, Nat.reduceLT, Nat.reduceLeDiff, Nat.reduceEqDiff, Nat.reducePow, Nat.reduceMod, Nat.reduceDiv, true_implies, false_implies, and_true, true_and, not_true_eq_false, not_false_eq_true, implies_true, Nat.zero_add, Nat.add_zero] at q
        rw [nI_clamp (by omega), rc_p hw hp]
        unfold mf_txt at main
        rw [if_pos q] at main
        exact main
      · simp (disch := omega) only [nI_leI, nI_ltI, nI_eq, nI_add, nI_clamp, kI_in, pk_mul, pk_sub, kI_lit, kI_litL, nI_l, lN_i, lN_add, pk_lEQ, forall_eq, kI_m1, Nat.reduceAdd, Nat.reduceMul, Nat.reduceSub, Nat.reduceLT, Nat.reduceLeDiff, Nat.reduceEqDiff, Nat.reducePow, Nat.reduceMod, Nat.reduceDiv, true_implies, false_implies, and_true, true_and, not_true_eq_false, not_false_eq_true, implies_true, Nat.zero_add, Nat.add_zero] at q
        unfold mf_txt at main
        rw [if_neg q] at main
        exact main
theorem sp_X7_codeShown {σ : ka_S} {o i y line c : Nat} {w : ma_W} {Q : Int32 → ka_S → Prop} (hw : rc_W σ o i w) (ok : mw_ok w) (hl : line ≤ 1) (hy : y ≤ 1) (hc : c < 2 ^ 31) (h : Q (nI (mt_shown w line y 4 c 0)) σ) : kw_X7_codeShown σ o i (nI line) (nI y) (nI c) Q :=
  ⟨5, sp_X7_codeShown_6 hw ok hl hy 5 4 0 c (Nat.zero_le _) (by have := ok.1.2; omega) (by have := ok.1.2; omega) hc (fun _ => h) (fun e => by have := ok.1.1; omega)⟩
theorem sp_X7_codeOfFree {σ : ka_S} {o i k : Nat} {w : ma_W} {Q : Int32 → ka_S → Prop} (hw : rc_W σ o i w) (ok : mw_ok w) (hk : k < mw_F w) (h : Q (nI (mw_R w k)) σ) : kw_X7_codeOfFree σ o i (nI k) Q := by
  have hF := ok.2.2.1
  unfold kw_X7_codeOfFree
  rw [hw.1.2.1]
  refine ⟨fun q => ?_, fun _ => ⟨fun q => ?_, fun _ => ⟨(kI_in (by omega)).mpr (by omega), ?_⟩⟩⟩
  · exact absurd q (nI_pos (by omega))
  · simp (disch := omega) only [nI_leI, nI_ltI, nI_eq, nI_add, nI_clamp, kI_in, pk_mul, pk_sub, kI_lit, kI_litL, nI_l, lN_i, lN_add, pk_lEQ, forall_eq, kI_m1, Nat.reduceAdd, Nat.reduceMul, Nat.reduceSub, Nat.reduceLT, Nat.reduceLeDiff, Nat.reduceEqDiff, Nat.reducePow, Nat.reduceMod, Nat.reduceDiv, true_implies, false_implies, and_true, true_and, not_true_eq_false, not_false_eq_true, implies_true, Nat.zero_add, Nat.add_zero] at q
    omega
  · rw [nI_clamp (by omega), hw.2.2 k hk]
    exact h
theorem xw_k {κ o i n : Nat} (h5 : 5 ≤ κ) (h9 : κ ≤ 9) : xw o i (κ, o, i) n := ⟨rfl, rfl, h5, h9⟩
theorem sp_X7_copyFrom_78 {σ0 : ka_S} {o i o2 i2 : Nat} {w : ma_W} {Q : ka_S → Prop} (hne : ¬ (o2 = o ∧ i2 = i)) (hw : rc_W σ0 o2 i2 w) (ok : mw_ok w) (h : ∀ σ', ag (xw o i) σ0 σ' → rc_W σ' o i w → Q σ') :
    ∀ (n k : Nat) (σ : ka_S), k ≤ mw_F w → mw_F w < k + n → ag (xw o i) σ0 σ → rc_Wn σ o i w (mw_S w) k → kw_X7_copyFrom_78 o i o2 i2 Q n σ (nI k) := by
  intro n
  induction n with
  | zero => intro k σ h1 h2; omega
  | succ n ih =>
    intro k σ h1 h2 ha hr
    have hF := ok.2.2.1
    have hw' := rc_W_ag hw ha (fun κ n _ _ q => hne ⟨q.1, q.2.1⟩)
    rw [kw_X7_copyFrom_78, hr.1.2.1]
    refine ⟨fun q => ?_, fun q => ⟨(kI_in (by omega)).mpr ?_, (kI_in (by omega)).mpr ?_, ?_⟩⟩
    · simp (disch := omega) only [nI_leI, nI_ltI, nI_eq, nI_add, nI_clamp, kI_in, pk_mul, pk_sub, kI_lit, kI_litL, nI_l, lN_i, lN_add, pk_lEQ, forall_eq, kI_m1, Nat.reduceAdd, Nat.reduceMul, Nat.reduceSub, Nat.reduceLT, Nat.reduceLeDiff, Nat.reduceEqDiff, Nat.reducePow, Nat.reduceMod, Nat.reduceDiv, true_implies, false_implies, and_true, true_and, not_true_eq_false, not_false_eq_true, implies_true, Nat.zero_add, Nat.add_zero] at q
      rw [show k = mw_F w by omega] at hr
      exact h σ ha hr
    · simp (disch := omega) only [nI_leI, nI_ltI, nI_eq, nI_add, nI_clamp, kI_in, pk_mul, pk_sub, kI_lit, kI_litL, nI_l, lN_i, lN_add, pk_lEQ, forall_eq, kI_m1, Nat.reduceAdd, Nat.reduceMul, Nat.reduceSub, Nat.reduceLT, Nat.reduceLeDiff, Nat.reduceEqDiff, Nat.reducePow, Nat.reduceMod, Nat.reduceDiv, true_implies, false_implies, and_true, true_and, not_true_eq_false, not_false_eq_true, implies_true, Nat.zero_add, Nat.add_zero] at q; omega
    · simp (disch := omega) only [nI_leI, nI_ltI, nI_eq, nI_add, nI_clamp, kI_in, pk_mul, pk_sub, kI_lit, kI_litL, nI_l, lN_i, lN_add, pk_lEQ, forall_eq, kI_m1, Nat.reduceAdd, Nat.reduceMul, Nat.reduceSub, Nat.reduceLT, Nat.reduceLeDiff, Nat.reduceEqDiff, Nat.reducePow, Nat.reduceMod, Nat.reduceDiv, true_implies, false_implies, and_true, true_and, not_true_eq_false, not_false_eq_true, implies_true, Nat.zero_add, Nat.add_zero] at q; omega
    · simp (disch := omega) only [nI_leI, nI_ltI, nI_eq, nI_add, nI_clamp, kI_in, pk_mul, pk_sub, kI_lit, kI_litL, nI_l, lN_i, lN_add, pk_lEQ, forall_eq, kI_m1, Nat.reduceAdd, Nat.reduceMul, Nat.reduceSub, Nat.reduceLT, Nat.reduceLeDiff, Nat.reduceEqDiff, Nat.reducePow, Nat.reduceMod, Nat.reduceDiv, true_implies, false_implies, and_true, true_and, not_true_eq_false, not_false_eq_true, implies_true, Nat.zero_add, Nat.add_zero] at q
      simp (disch := omega) only [nI_leI, nI_ltI, nI_eq, nI_add, nI_clamp, kI_in, pk_mul, pk_sub, kI_lit, kI_litL, nI_l, lN_i, lN_add, pk_lEQ, forall_eq, kI_m1, Nat.reduceAdd, Nat.reduceMul, Nat.reduceSub, Nat.reduceLT, Nat.reduceLeDiff, Nat.reduceEqDiff, Nat.reducePow, Nat.reduceMod, Nat.reduceDiv, true_implies, false_implies, and_true, true_and, not_true_eq_false, not_false_eq_true, implies_true, Nat.zero_add, Nat.add_zero]
      refine ih (k + 1) _ (by omega) (by omega) (ag_I ha (xw_k (by decide) (by decide))) (rc_Wn_free hr (hw'.2.2 k (by omega)))
theorem sp_X7_copyFrom_26 {σ0 : ka_S} {o i o2 i2 : Nat} {w : ma_W} {Q : ka_S → Prop} (hne : ¬ (o2 = o ∧ i2 = i)) (hw : rc_W σ0 o2 i2 w) (ok : mw_ok w) (h : ∀ σ', ag (xw o i) σ0 σ' → rc_W σ' o i w → Q σ') :
    ∀ (n k : Nat) (σ : ka_S), k ≤ mw_S w → mw_S w < k + n → ag (xw o i) σ0 σ → rc_Wn σ o i w k 0 → kw_X7_copyFrom_26 o i o2 i2 Q n σ (nI k) := by
  intro n
  induction n with
  | zero => intro k σ h1 h2; omega
  | succ n ih =>
    intro k σ h1 h2 ha hr
    have hS := ok.1
    have hw' := rc_W_ag hw ha (fun κ n _ _ q => hne ⟨q.1, q.2.1⟩)
    rw [kw_X7_copyFrom_26, hr.1.1]
    refine ⟨fun q => ?_, fun q => ?_⟩
    · simp (disch := omega) only [nI_leI, nI_ltI, nI_eq, nI_add, nI_clamp, kI_in, pk_mul, pk_sub, kI_lit, kI_litL, nI_l, lN_i, lN_add, pk_lEQ, forall_eq, kI_m1, Nat.reduceAdd, Nat.reduceMul, Nat.reduceSub, Nat.reduceLT, Nat.reduceLeDiff, Nat.reduceEqDiff, Nat.reducePow, Nat.reduceMod, Nat.reduceDiv, true_implies, false_implies, and_true, true_and, not_true_eq_false, not_false_eq_true, implies_true, Nat.zero_add, Nat.add_zero] at q
      rw [show k = mw_S w by omega] at hr
      exact ⟨25, sp_X7_copyFrom_78 hne hw ok h 25 0 σ (Nat.zero_le _) (by have := ok.2.2.1; omega) ha hr⟩
    · simp (disch := omega) only [nI_leI, nI_ltI, nI_eq, nI_add, nI_clamp, kI_in, pk_mul, pk_sub, kI_lit, kI_litL, nI_l, lN_i, lN_add, pk_lEQ, forall_eq, kI_m1, Nat.reduceAdd, Nat.reduceMul, Nat.reduceSub, Nat.reduceLT, Nat.reduceLeDiff, Nat.reduceEqDiff, Nat.reducePow, Nat.reduceMod, Nat.reduceDiv, true_implies, false_implies, and_true, true_and, not_true_eq_false, not_false_eq_true, implies_true, Nat.zero_add, Nat.add_zero] at q
      have hk : k < mw_S w := by omega
      have hi : vp_in (nI k) 4 := (kI_in (by omega)).mpr (by omega)
      refine ⟨hi, hi, ?_⟩
      rw [forall_eq]
      refine ⟨hi, hi, ?_⟩
      rw [forall_eq]
      refine ⟨hi, hi, ?_⟩
      simp (disch := omega) only [nI_leI, nI_ltI, nI_eq, nI_add, nI_clamp, kI_in, pk_mul, pk_sub, kI_lit, kI_litL, nI_l, lN_i, lN_add, pk_lEQ, forall_eq, kI_m1, Nat.reduceAdd, Nat.reduceMul, Nat.reduceSub, Nat.reduceLT, Nat.reduceLeDiff, Nat.reduceEqDiff, Nat.reducePow, Nat.reduceMod, Nat.reduceDiv, true_implies, false_implies, and_true, true_and, not_true_eq_false, not_false_eq_true, implies_true, Nat.zero_add, Nat.add_zero]
      refine ih (k + 1) _ (by omega) (by omega) (ag_I (ag_L (ag_L ha (xw_k (by decide) (by decide))) (xw_k (by decide) (by decide))) (xw_k (by decide) (by decide))) (rc_Wn_part hr ?_ ?_ ?_)
      · exact (hw'.2.1 k hk).1
      · simp only [st_I, st_L, st_I2, st_L1, Prod.mk.injEq, Nat.reduceEqDiff, false_and, and_false, true_and, and_true, and_self, if_false, if_true, reduceIte]
        exact (hw'.2.1 k hk).2.1
      · simp only [st_I, st_L, st_I2, st_L1, Prod.mk.injEq, Nat.reduceEqDiff, false_and, and_false, true_and, and_true, and_self, if_false, if_true, reduceIte]
        exact (hw'.2.1 k hk).2.2
theorem sp_X7_copyFrom {σ : ka_S} {o i o2 i2 : Nat} {w : ma_W} {Q : ka_S → Prop} (hne : ¬ (o2 = o ∧ i2 = i)) (hw : rc_W σ o2 i2 w) (ok : mw_ok w) (h : ∀ σ', ag (xw o i) σ σ' → rc_W σ' o i w → Q σ') : kw_X7_copyFrom σ o i o2 i2 Q := by
  have hE := ok.2.1
  unfold kw_X7_copyFrom
  rw [forall_eq, forall_eq]
  have n1 : ∀ j, ((5, o2, i2) : ka_K) = (5, o, i) ∧ j = 4 ↔ False := fun j => ⟨fun q => hne ⟨congrArg (fun k : ka_K => k.2.1) q.1, congrArg (fun k : ka_K => k.2.2) q.1⟩, fun q => q.elim⟩
  have n2 : (o2 = o ∧ i2 = i) ↔ False := ⟨hne, fun q => q.elim⟩
  have e5 : (ka_wI σ (5, o, i) 4 (σ.1 (5, o2, i2) 4)).1 (5, o2, i2) 5 = nI (mw_F w) := by
    simp only [st_I, st_L, st_I2, st_L1, Prod.mk.injEq, Nat.reduceEqDiff, false_and, and_false, true_and, and_true, and_self, if_false, if_true, reduceIte, n2]
    exact hw.1.2.1
  rw [e5, hw.1.1]
  have e6 : (ka_wI (ka_wI σ (5, o, i) 4 (nI (mw_S w))) (5, o, i) 5 (nI (mw_F w))).1 (5, o2, i2) 6 = nI (mw_E w) := by
    simp only [st_I, st_L, st_I2, st_L1, Prod.mk.injEq, Nat.reduceEqDiff, false_and, and_false, true_and, and_true, and_self, if_false, if_true, reduceIte, n2]
    exact hw.1.2.2
  rw [e6]
  refine ⟨?_, ?_⟩
  · rcases Nat.lt_or_ge 0 (mw_E w) with q | q
    · right; rw [show mw_E w = 1 by omega]; rfl
    · left; rw [show mw_E w = 0 by omega]; rfl
  · rw [forall_eq]
    refine ⟨5, sp_X7_copyFrom_26 hne hw ok h 5 0 _ (Nat.zero_le _) (by have := ok.1.2; omega) (ag_I (ag_I (ag_I ag_refl (xw_k (by decide) (by decide))) (xw_k (by decide) (by decide))) (xw_k (by decide) (by decide))) ⟨⟨?_, ?_, ?_⟩, fun p hp => absurd hp (Nat.not_lt_zero p), fun k hk => absurd hk (Nat.not_lt_zero k)⟩⟩
    · simp only [st_I, st_L, st_I2, st_L1, Prod.mk.injEq, Nat.reduceEqDiff, false_and, and_false, true_and, and_true, and_self, if_false, if_true, reduceIte]
    · simp only [st_I, st_L, st_I2, st_L1, Prod.mk.injEq, Nat.reduceEqDiff, false_and, and_false, true_and, and_true, and_self, if_false, if_true, reduceIte]
    · simp only [st_I, st_L, st_I2, st_L1, Prod.mk.injEq, Nat.reduceEqDiff, false_and, and_false, true_and, and_true, and_self, if_false, if_true, reduceIte]
