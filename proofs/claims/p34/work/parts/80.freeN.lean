/-! ===== the reference takes a free line, a gloss ===== -/
theorem ma_sum_cut {f : Nat → Nat} {m : Nat} : ∀ d, (∀ i, m ≤ i → i < m + d → f i = 0) → ma_sum f (m + d) = ma_sum f m := by
  intro d
  induction d with
  | zero => intro _; rfl
  | succ d ih =>
    intro h
    show ma_sum f (m + d) + f (m + d) = _
    rw [ih (fun i h1 h2 => h i h1 (by omega)), h (m + d) (by omega) (by omega), Nat.add_zero]
theorem mk_pack_low {t : Nat → Nat} {k : Nat} (h : ∀ j, j < k → t j < 128) : mk_pack t k (k / 8) < 128 ^ (k % 8) := by
  have hm : k % 8 < 8 := Nat.mod_lt _ (by decide)
  have e := ma_sum_cut (f := fun i => (if 8 * (k / 8) + i < k then t (8 * (k / 8) + i) else 0) * 128 ^ i) (m := k % 8) (8 - k % 8) (fun i h1 h2 => by
    show (if 8 * (k / 8) + i < k then t (8 * (k / 8) + i) else 0) * 128 ^ i = 0
    rw [if_neg (by omega), Nat.zero_mul])
  rw [show k % 8 + (8 - k % 8) = 8 by omega] at e
  rw [mk_pack_d, e]
  refine mk_lt (d := fun i => if 8 * (k / 8) + i < k then t (8 * (k / 8) + i) else 0) _ (fun i hi => ?_)
  show (if 8 * (k / 8) + i < k then t (8 * (k / 8) + i) else 0) < 128
  by_cases q : 8 * (k / 8) + i < k
  · rw [if_pos q]; exact h _ q
  · rw [if_neg q]; decide
theorem mk_pw7 (m : Nat) : 2 ^ (7 * m) = 128 ^ m := by rw [Nat.pow_mul]
theorem mk_or {t : Nat → Nat} {k : Nat} (hk : k < 24) (h : ∀ j, j < k + 1 → t j < 128) : lN (mk_pack t k (k / 8)) ||| ((nI (t k)).toInt64 <<< (((7 : Int32) * (nI k - nI k / (8 : Int32) * (8 : Int32))).toInt64 &&& 63)) = lN (mk_pack t (k + 1) (k / 8)) := by
  have hm : k % 8 < 8 := Nat.mod_lt _ (by decide)
  have h1 := h k (Nat.lt_succ_self k)
  have e1 : (nI k - nI k / (8 : Int32) * (8 : Int32)) = nI (k % 8) := kI_rem (a := k) (b := 8) (by omega) (by decide) (by decide)
  have e2 : (7 : Int32) * nI (k % 8) = nI (7 * (k % 8)) := by rw [kI_lit, pk_mul]
  have hl := mk_pack_low (t := t) (k := k) (fun j hj => h j (by omega))
  have h3 : t k * 128 ^ (k % 8) + 128 ^ (k % 8) ≤ 128 ^ 8 := by
    have : (t k + 1) * 128 ^ (k % 8) ≤ 128 * 128 ^ (k % 8) := Nat.mul_le_mul_right _ (by omega)
    rw [Nat.succ_mul] at this
    have h4 : 128 * 128 ^ (k % 8) = 128 ^ (k % 8 + 1) := by rw [Nat.pow_succ, Nat.mul_comm]
    have h5 : (128 : Nat) ^ (k % 8 + 1) ≤ 128 ^ 8 := Nat.pow_le_pow_right (by decide) (by omega)
    omega
  have h6 : (128 : Nat) ^ 8 < 2 ^ 64 := by decide
  rw [e1, e2, nI_l (by omega), wb_shl _ (by omega), mk_pw7, mk_pack_step, if_pos rfl]
  exact g_or' (mk_pw7 (k % 8)) hl (by omega)
