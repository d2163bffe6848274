/-! ===== numbers in one form ===== -/
theorem kI_lit (n : Nat) : (OfNat.ofNat n : Int32) = nI (OfNat.ofNat n) := rfl
theorem kI_litL (n : Nat) : (OfNat.ofNat n : Int64) = lN (OfNat.ofNat n) := rfl
theorem kI_in {k n : Nat} (h : k < 2 ^ 31) : vp_in (nI k) n ↔ k < n := by
  rw [vp_in_iff, nI_toInt h]
  omega
theorem kI_m1 (n : Nat) : nI (n + 1) + (-1) = nI n := pk_m1 n
theorem kI_andL {a k : Nat} (m : Nat) (ha : a < 2 ^ 64) (hk : k < 64) (hm : m = 2 ^ k - 1) : lN a &&& lN m = lN (a % 2 ^ k) := by
  rw [hm]; exact wb_mask ha hk
theorem kI_shr {a k : Nat} (ha : a < 2 ^ 62) (hk : k < 64) : lN a >>> ((nI k).toInt64 &&& 63) = lN (a / 2 ^ k) := by
  refine pf_shr ?_ ha
  rw [wb_c k hk, wb_tb, wb_sm k hk, BitVec.toNat_ofNat, Nat.mod_eq_of_lt (by omega)]
/-! ===== the letters of the class ===== -/
theorem sp_X2_length {σ : ka_S} {l : List Nat} {Q : Int32 → ka_S → Prop} (hl : ma_g l) (h : Q (nI l.length) σ) : kw_X2_length σ (lN (ma_C l)) Q := by
  unfold kw_X2_length
  have e : (lN (ma_C l) &&& (15 : Int64)).toInt32 = nI l.length := by
    have := ma_C_lt hl
    rw [kI_litL, kI_andL (k := 4) 15 (by omega) (by decide) rfl, lN_i, show (2 : Nat) ^ 4 = 16 from rfl, ma_C_len hl]
  rw [e]
  exact h
theorem sp_X2_placeOf {σ : ka_S} {k : Nat} {Q : Int32 → ka_S → Prop} (hk : k ≤ 7) (h : Q (nI (4 + 7 * (7 - k))) σ) : kw_X2_placeOf σ (nI k) Q := by
  unfold kw_X2_placeOf
  simp (disch := omega) only [nI_leI, nI_ltI, nI_eq, nI_add, nI_clamp, kI_in, pk_mul, pk_sub, kI_lit, kI_litL, nI_l, lN_i, lN_add, pk_lEQ, forall_eq, kI_m1, Nat.reduceAdd, Nat.reduceMul, Nat.reduceSub, Nat.reduceLT, Nat.reduceLeDiff, Nat.reduceEqDiff, Nat.reducePow, Nat.reduceMod, Nat.reduceDiv, true_implies, false_implies, and_true, true_and, not_true_eq_false, not_false_eq_true, implies_true, Nat.zero_add, Nat.add_zero]
  exact h
theorem sp_X2_code {σ : ka_S} {l : List Nat} {k : Nat} {Q : Int32 → ka_S → Prop} (hl : ma_g l) (hk : k < l.length) (h : Q (nI (l.getD k 0)) σ) : kw_X2_code σ (lN (ma_C l)) (nI k) Q := by
  unfold kw_X2_code
  have h8 := hl.1
  refine ⟨fun hc => absurd hc (nI_pos (by omega)), fun _ => sp_X2_length hl ⟨fun _ => sp_X2_placeOf (by omega) ?_, fun hc => absurd (nI_lt hk (by omega)) hc⟩⟩
  have hb := ma_C_lt hl
  have hd := ma_C_code hl (show k < 8 by omega)
  rw [wb_shr (by omega) (by omega), lN_i]
  have e : nI (ma_C l / 2 ^ (4 + 7 * (7 - k))) &&& (127 : Int32) = nI (l.getD k 0) := by
    rw [show (127 : Int32) = nI (2 ^ 7 - 1) from rfl]
    have := pk_and (nI (ma_C l / 2 ^ (4 + 7 * (7 - k)))) (m := nI (2 ^ 7 - 1)) 7 rfl
    rw [this]
    have e2 : (nI (ma_C l / 2 ^ (4 + 7 * (7 - k)))).toBitVec.toNat % 2 ^ 7 = l.getD k 0 := by
      show (BitVec.ofNat 32 (ma_C l / 2 ^ (4 + 7 * (7 - k)))).toNat % 2 ^ 7 = _
      rw [BitVec.toNat_ofNat, ← hd]
      omega
    rw [e2]
  rw [e]
  exact h
theorem sp_X2_codeN {σ : ka_S} {l : List Nat} {v : Int32} {Q : Int32 → ka_S → Prop} (hl : ma_g l) (hv : v < 0 ∨ nI l.length ≤ v) (h : Q (-9) σ) : kw_X2_code σ (lN (ma_C l)) v Q := by
  unfold kw_X2_code
  refine ⟨fun _ => h, fun hn => sp_X2_length hl ⟨fun hc => ?_, fun _ => h⟩⟩
  rcases hv with hv | hv
  · exact absurd hv hn
  · rw [Int32.lt_iff_toInt_lt] at hc
    rw [Int32.le_iff_toInt_le] at hv
    omega
theorem sp_X2_with {σ : ka_S} {l : List Nat} {x : Nat} {Q : Int64 → ka_S → Prop} (hl : ma_g l) (h8 : l.length < 8) (hx : x < 256) (h : Q (lN (ma_C (l ++ [x]))) σ) : kw_X2_with σ (lN (ma_C l)) (nI x) Q := by
  unfold kw_X2_with
  refine sp_X2_length hl ⟨fun _ => sp_X2_placeOf (by omega) ?_, fun hc => absurd (show nI l.length < 8 from nI_lt h8 (by decide)) hc⟩
  rw [nI_l (by omega), wb_shl _ (by omega), kI_litL, lN_add, lN_add, ma_C_with x h8]
  exact h
theorem sp_X2_isLetter {σ : ka_S} {t : Nat} {Q : Int32 → ka_S → Prop} (ht : t < 2 ^ 31) (h1 : 97 ≤ t ∧ t ≤ 122 → Q 1 σ) (h0 : ¬ (97 ≤ t ∧ t ≤ 122) → Q 0 σ) : kw_X2_isLetter σ (nI t) Q := by
  unfold kw_X2_isLetter
  simp (disch := omega) only [nI_leI, nI_ltI, nI_eq, nI_add, nI_clamp, kI_in, pk_mul, pk_sub, kI_lit, kI_litL, nI_l, lN_i, lN_add, pk_lEQ, forall_eq, kI_m1, Nat.reduceAdd, Nat.reduceMul, Nat.reduceSub, Nat.reduceLT, Nat.reduceLeDiff, Nat.reduceEqDiff, Nat.reducePow, Nat.reduceMod, Nat.reduceDiv, true_implies, false_implies, and_true, true_and, not_true_eq_false, not_false_eq_true, implies_true, Nat.zero_add, Nat.add_zero]
  refine ⟨fun h => h0 (by omega), fun h => ⟨fun h2 => h0 (by omega), fun h2 => h1 (by omega)⟩⟩
theorem sp_X2_isGlossLetter {σ : ka_S} {t : Nat} {Q : Int32 → ka_S → Prop} (ht : t < 2 ^ 31) (h1 : (97 ≤ t ∧ t ≤ 122) ∨ t = 46 → Q 1 σ) (h0 : ¬ ((97 ≤ t ∧ t ≤ 122) ∨ t = 46) → Q 0 σ) : kw_X2_isGlossLetter σ (nI t) Q := by
  unfold kw_X2_isGlossLetter
  refine sp_X2_isLetter ht (fun h => ⟨fun h2 => absurd h2 (by decide), fun _ => h1 (Or.inl h)⟩) (fun h => ⟨fun _ => ?_, fun h2 => absurd rfl h2⟩)
  simp (disch := omega) only [nI_leI, nI_ltI, nI_eq, nI_add, nI_clamp, kI_in, pk_mul, pk_sub, kI_lit, kI_litL, nI_l, lN_i, lN_add, pk_lEQ, forall_eq, kI_m1, Nat.reduceAdd, Nat.reduceMul, Nat.reduceSub, Nat.reduceLT, Nat.reduceLeDiff, Nat.reduceEqDiff, Nat.reducePow, Nat.reduceMod, Nat.reduceDiv, true_implies, false_implies, and_true, true_and, not_true_eq_false, not_false_eq_true, implies_true, Nat.zero_add, Nat.add_zero]
  exact ⟨fun h2 => h1 (Or.inr h2), fun h2 => h0 (by omega)⟩
theorem sp_X2_isMark {σ : ka_S} {t : Nat} {Q : Int32 → ka_S → Prop} (ht : t < 2 ^ 31) (h1 : t = 45 ∨ t = 61 → Q 1 σ) (h0 : ¬ (t = 45 ∨ t = 61) → Q 0 σ) : kw_X2_isMark σ (nI t) Q := by
  unfold kw_X2_isMark
  simp (disch := omega) only [nI_leI, nI_ltI, nI_eq, nI_add, nI_clamp, kI_in, pk_mul, pk_sub, kI_lit, kI_litL, nI_l, lN_i, lN_add, pk_lEQ, forall_eq, kI_m1, Nat.reduceAdd, Nat.reduceMul, Nat.reduceSub, Nat.reduceLT, Nat.reduceLeDiff, Nat.reduceEqDiff, Nat.reducePow, Nat.reduceMod, Nat.reduceDiv, true_implies, false_implies, and_true, true_and, not_true_eq_false, not_false_eq_true, implies_true, Nat.zero_add, Nat.add_zero]
  refine ⟨fun h => h1 (by omega), fun h => ⟨fun h2 => h1 (by omega), fun h2 => h0 (by omega)⟩⟩
/-! ===== the letters of the reference ===== -/
theorem ma_getD_map {l : List Nat} {k : Nat} (hk : k < l.length) : (l.map ma_f).getD k 0 = ma_f (l.getD k 0) := by
  rw [List.getD_eq_getElem?_getD, List.getD_eq_getElem?_getD, List.getElem?_map, List.getElem?_eq_getElem hk]
  rfl
theorem ma_getD_out {l : List Nat} {k : Nat} (hk : l.length ≤ k) : (l.map ma_f).getD k 0 = 0 := by
  rw [List.getD_eq_getElem?_getD, List.getElem?_eq_none (by rw [List.length_map]; exact hk)]
  rfl
theorem ma_getD_mem {l : List Nat} {k : Nat} (hk : k < l.length) : l.getD k 0 ∈ l := by
  rw [List.getD_eq_getElem?_getD, List.getElem?_eq_getElem hk]
  exact List.getElem_mem hk
/-- one letter out of the reference's number -/
theorem ma_dig {l : List Nat} {k : Nat} (hl : ma_g l) (hk : k < 8) : (lN (ma_M l) >>> (((35 : Int32) - (5 : Int32) * nI k).toInt64 &&& 63)) &&& (31 : Int64) = lN ((l.map ma_f).getD k 0) := by
  have hb := ma_M_lt hl
  have e : (35 : Int32) - (5 : Int32) * nI k = nI (35 - 5 * k) := by simp (disch := omega) only [nI_leI, nI_ltI, nI_eq, nI_add, nI_clamp, kI_in, pk_mul, pk_sub, kI_lit, kI_litL, nI_l, lN_i, lN_add, pk_lEQ, forall_eq, kI_m1, Nat.reduceAdd, Nat.reduceMul, Nat.reduceSub, Nat.reduceLT, Nat.reduceLeDiff, Nat.reduceEqDiff, Nat.reducePow, Nat.reduceMod, Nat.reduceDiv, true_implies, false_implies, and_true, true_and, not_true_eq_false, not_false_eq_true, implies_true, Nat.zero_add, Nat.add_zero]
  have h2 : ma_M l / 2 ^ (35 - 5 * k) ≤ ma_M l := Nat.div_le_self _ _
  rw [e, kI_shr (by omega) (by omega), kI_litL, kI_andL (k := 5) 31 (by omega) (by decide) rfl, show (2 : Nat) ^ 5 = 32 from rfl, ma_M_dig hl hk]
theorem ma_or {l : List Nat} {x : Nat} (hl : ma_g l) (h8 : l.length < 8) (hx : (97 ≤ x ∧ x ≤ 122) ∨ x = 46) : lN (ma_M l) ||| (lN (ma_f x) <<< (((35 : Int32) - (5 : Int32) * nI l.length).toInt64 &&& 63)) = lN (ma_M (l ++ [x])) := by
  have e : (35 : Int32) - (5 : Int32) * nI l.length = nI (35 - 5 * l.length) := by simp (disch := omega) only [nI_leI, nI_ltI, nI_eq, nI_add, nI_clamp, kI_in, pk_mul, pk_sub, kI_lit, kI_litL, nI_l, lN_i, lN_add, pk_lEQ, forall_eq, kI_m1, Nat.reduceAdd, Nat.reduceMul, Nat.reduceSub, Nat.reduceLT, Nat.reduceLeDiff, Nat.reduceEqDiff, Nat.reducePow, Nat.reduceMod, Nat.reduceDiv, true_implies, false_implies, and_true, true_and, not_true_eq_false, not_false_eq_true, implies_true, Nat.zero_add, Nat.add_zero]
  have hb := ma_M_lt hl
  obtain ⟨q, hq⟩ := ma_M_low (l := l) (by omega)
  have hf := ma_f_d hx
  rw [e, wb_shl _ (by omega), ← ma_M_with x h8, hq]
  have e2 : 2 ^ (40 - 5 * l.length) = 32 * 2 ^ (35 - 5 * l.length) := by
    rw [show 40 - 5 * l.length = (35 - 5 * l.length) + 5 by omega, Nat.pow_add, Nat.mul_comm]
  have h3 : ma_f x * 2 ^ (35 - 5 * l.length) < 2 ^ (40 - 5 * l.length) := by
    rw [e2]
    exact Nat.mul_lt_mul_of_pos_right (by omega) (Nat.pow_pos (by decide))
  refine g_or rfl h3 ?_
  rw [← hq]
  have h4 : 2 ^ (40 - 5 * l.length) ≤ 2 ^ 40 := Nat.pow_le_pow_right (by decide) (by omega)
  omega
