/-! ===== the reference reads a code of a free line ===== -/
theorem sp_X9_freeChar {σ : ka_S} {a : ka_K} {M : ma_P} {i k : Nat} {Q : Int32 → ka_S → Prop} (hn : ka_n a = 253) (ok : mp_ok M) (hp : rd_P σ a M) (hi : i < mp_N M) (hk : k < mw_F (mp_D M i)) (h : Q (nI (mw_R (mp_D M i) k)) σ) : kw_X9_freeChar σ a (nI i) (nI k) Q := by
  have hN := ok.1
  have okw := ok.2.2.2.2.2.1 i hi
  have hF := okw.2.2.1
  have hR : ∀ j, j < mw_F (mp_D M i) → mw_R (mp_D M i) j < 128 := fun j hj => by
    have := okw.2.2.2.2.2 j hj
    omega
  have e1 : (3 : Int32) + nI k / 8 = nI (3 + k / 8) := by
    rw [show (8 : Int32) = nI 8 from rfl, pk_div (by omega) (by decide) (by decide), kI_lit, nI_add]
  have e2 : (7 : Int32) * (nI k - nI k / 8 * 8) = nI (7 * (k % 8)) := by
    rw [show nI k - nI k / 8 * 8 = nI (k % 8) from kI_rem (b := 8) (by omega) (by decide) (by decide), kI_lit, pk_mul]
  have e3 := mk_pack_lt (j := k / 8) hR
  have e4 := mk_pack_dig hR hk
  have e5 : (2 : Nat) ^ (7 * (k % 8)) = 128 ^ (k % 8) := by rw [Nat.pow_mul]
  have c := (hp.2.1 i hi).2.1 (k / 8) (by omega)
  have c' : σ.2 a (5 + 18 * i + (3 + k / 8)) = lN (mk_pack (mw_R (mp_D M i)) (mw_F (mp_D M i)) (k / 8)) := c
  have hq : mk_pack (mw_R (mp_D M i)) (mw_F (mp_D M i)) (k / 8) / 2 ^ (7 * (k % 8)) ≤ mk_pack (mw_R (mp_D M i)) (mw_F (mp_D M i)) (k / 8) := Nat.div_le_self _ _
  unfold kw_X9_freeChar
  rw [e1, e2, hn]
  refine sp_X9_cell ⟨(kI_in (by omega)).mpr (by omega), ?_⟩
  rw [nI_clamp (by omega), c', kI_shr (by omega) (by omega), show (127 : Int64) = lN 127 from rfl, kI_andL (k := 7) 127 (by omega) (by decide) rfl, lN_i, show (2 : Nat) ^ 7 = 128 from rfl, e5, e4]
  exact h
