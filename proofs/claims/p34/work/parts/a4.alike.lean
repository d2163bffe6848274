/-! ===== alike: two objects of which the same holds ===== -/
def mi_at (M : ma_P) (r c : Nat) : Int64 := if r < mt_rows M then (mr_code M (mp_W M) (mp_Y M) r c).toInt64 else (-9000000000000000001 : Int64)
def mi_row (M : ma_P) (r k : Nat) : Int64 := if r < mt_rows M then lN (mt_row M r k) else (-9000000000000000001 : Int64)
theorem l_at {σ : ka_S} {A : ma_X} {r c : Nat} {Q : Int64 → ka_S → Prop} (hv : kv σ A) (hr : r < 2 ^ 31) (hc : c < 2 ^ 31) (h : ∀ σ1, kv σ1 A → Q (mi_at (kx_M A) r c) σ1) : kw_L_at σ (nI r) (nI c) Q := by
  have hR := mt_rows_le hv.1.2.2.1
  unfold mi_at at h
  by_cases q : r < mt_rows (kx_M A)
  · rw [if_pos q] at h
    exact l1_at hv q hc h
  · rw [if_neg q] at h
    refine x_at hv (fun j hj e => ?_) h
    rw [nI_eq (by omega) (by omega)] at e
    omega
theorem l_row {σ : ka_S} {A : ma_X} {r k : Nat} {Q : Int64 → ka_S → Prop} (hv : kv σ A) (hr : r < 2 ^ 31) (hk : k < 3) (h : ∀ σ1, kv σ1 A → Q (mi_row (kx_M A) r k) σ1) : kw_L_row σ (nI r) (nI k) Q := by
  have hR := mt_rows_le hv.1.2.2.1
  unfold mi_row at h
  by_cases q : r < mt_rows (kx_M A)
  · rw [if_pos q] at h
    exact l1_row hv q hk h
  · rw [if_neg q] at h
    refine x_row hv (fun j hj e => ?_) h
    rw [nI_eq (by omega) (by omega)] at e
    omega
theorem la_192 {A : ma_X} {v2 v4 : Int32} {r : Nat} {K134 : ka_S → ka_S → Int32 → Int32 → Int32 → Int32 → Prop} {Q : Int32 → ka_S → ka_S → Prop} (hr : r < 2 ^ 20) (h : ∀ σ1 τ1, kv σ1 A → kv τ1 A → K134 σ1 τ1 v2 1 v4 (nI (r + 1))) :
    ∀ (m k : Nat), 64 ≤ k + 4 * m → k < 2 ^ 20 → ∀ (σ τ : ka_S), kv σ A → kv τ A → kw_L_alike_192 K134 Q (m + 1) σ τ v2 1 v4 (nI r) (nI k) := by
  intro m
  induction m with
  | zero =>
    intro k hk hk2 σ τ hp hq
    rw [kw_L_alike_192]
    refine kb_le 64 k (fun _ => ?_) (fun q => absurd q (by omega))
    intro x ex
    subst ex
    rw [nI_1]
    exact h σ τ hp hq
  | succ m ih =>
    intro k hk hk2 σ τ hp hq
    rw [kw_L_alike_192]
    refine kb_le 64 k (fun _ => ?_) (fun q => ?_)
    · intro x ex
      subst ex
      rw [nI_1]
      exact h σ τ hp hq
    · refine kb_ne (by decide) ?_
      refine l_at hp (by omega) (by omega) (fun σ1 h1 => l_at hq (by omega) (by omega) (fun τ1 h2 => kb_eq rfl ?_))
      intro x ex
      subst ex
      rw [show nI k + (4 : Int32) = nI (k + 4) from nI_add k 4]
      exact ih (k + 4) (by omega) (by omega) σ1 τ1 h1 h2
theorem la_241 {A : ma_X} {x : Nat} {σ τ : ka_S} {Q : Int32 → ka_S → ka_S → Prop} (hx : x < 2 ^ 31) (hp : kv σ A) (hq : kv τ A) (h : ∀ σ1 τ1, kv σ1 A → kv τ1 A → Q 1 σ1 τ1) : kw_L_alike_241 Q σ τ (nI x) 1 := by
  unfold kw_L_alike_241
  have m9 : x % 9 < 9 := Nat.mod_lt _ (by decide)
  have m1000 : x / 8 % 1000 < 1000 := Nat.mod_lt _ (by decide)
  have m10000 : x % 10000 < 10000 := Nat.mod_lt _ (by decide)
  have m30 : x % 30 < 30 := Nat.mod_lt _ (by decide)
  have e9 : nI x - nI x / (9 : Int32) * (9 : Int32) = nI (x % 9) := pk_rem (d := 9) hx (by decide) (by decide)
  have e8 : nI x / (8 : Int32) = nI (x / 8) := pk_div (d := 8) hx (by decide) (by decide)
  have e1000 : nI (x / 8) - nI (x / 8) / (1000 : Int32) * (1000 : Int32) = nI (x / 8 % 1000) := pk_rem (d := 1000) (by omega) (by decide) (by decide)
  have e10000 : nI x - nI x / (10000 : Int32) * (10000 : Int32) = nI (x % 10000) := pk_rem (d := 10000) hx (by decide) (by decide)
  have e30 : nI x - nI x / (30 : Int32) * (30 : Int32) = nI (x % 30) := pk_rem (d := 30) hx (by decide) (by decide)
  rw [e9, e8, e1000, e10000, e30]
  intro y ey
  have e : y = lN (10000 * (1000 * (1 + x % 9) + x / 8 % 1000) + x % 10000) := by
    rw [ey, show (1 : Int32) + nI (x % 9) = nI (1 + x % 9) from nI_add 1 _, show (1000 : Int32) * nI (1 + x % 9) = nI (1000 * (1 + x % 9)) from pk_mul 1000 _, nI_add, nI_l (by omega), nI_l (by omega), show (10000 : Int64) * lN (1000 * (1 + x % 9) + x / 8 % 1000) = lN (10000 * (1000 * (1 + x % 9) + x / 8 % 1000)) from lN_mul 10000 _, lN_add]
  subst e
  rw [show (1 : Int32) + nI (x % 30) = nI (1 + x % 30) from nI_add 1 _]
  refine kb_ne (by decide) ?_
  have hs : 10000 * (1000 * (1 + x % 9) + x / 8 % 1000) + x % 10000 < 10000 ^ 2 := by
    show _ < 100000000
    omega
  refine l0_script (n := 2) hp (by decide) hs (fun σ1 h1 => l0_script (n := 2) hq (by decide) hs (fun τ1 h2 => kb_eq rfl ?_))
  exact l0_simulate h1 (by omega) (fun σ2 h3 => l0_simulate h2 (by omega) (fun τ2 h4 => kb_eq rfl (h σ2 τ2 h3 h4)))
theorem la_134 {A : ma_X} {x : Nat} {Q : Int32 → ka_S → ka_S → Prop} (hx : x < 2 ^ 31) (h : ∀ σ1 τ1, kv σ1 A → kv τ1 A → Q 1 σ1 τ1) :
    ∀ (m r : Nat), r + m = mt_rows (kx_M A) + 1 → ∀ (σ τ : ka_S), kv σ A → kv τ A → kw_L_alike_134 Q (m + 1) σ τ (nI x) 1 (nI (mt_rows (kx_M A))) (nI r) := by
  have e4 : nI x - nI x / (4 : Int32) * (4 : Int32) = nI (x % 4) := pk_rem (d := 4) hx (by decide) (by decide)
  have m4 : x % 4 < 4 := Nat.mod_lt _ (by decide)
  intro m
  induction m with
  | zero =>
    intro r hr σ τ hp hq
    have hR := mt_rows_le hp.1.2.2.1
    rw [kw_L_alike_134]
    exact kb_lt (mt_rows (kx_M A)) r (fun _ => la_241 hx hp hq h) (fun q => absurd q (by omega))
  | succ m ih =>
    intro r hr σ τ hp hq
    have hR := mt_rows_le hp.1.2.2.1
    rw [kw_L_alike_134]
    refine kb_lt (mt_rows (kx_M A)) r (fun q => absurd q (by omega)) (fun q => kb_ne (by decide) ?_)
    rw [e4]
    refine l_row (k := 0) hp (by omega) (by decide) (fun σ1 h1 => l_row (k := 0) hq (by omega) (by decide) (fun τ1 h2 => kb_eq rfl ?_))
    refine l_row (k := 1) h1 (by omega) (by decide) (fun σ2 h3 => l_row (k := 1) h2 (by omega) (by decide) (fun τ2 h4 => kb_eq rfl ?_))
    intro y ey
    subst ey
    exact ⟨17, Nat.le_refl _, la_192 (by omega) (fun σ3 τ3 h5 h6 => ih (r + 1) (by omega) σ3 τ3 h5 h6) 16 (x % 4) (by omega) (by omega) σ2 τ2 h3 h4⟩
theorem l_alike {A : ma_X} {x : Nat} {σ τ : ka_S} {Q : Int32 → ka_S → ka_S → Prop} (hx : x < 2 ^ 31) (hp : kv σ A) (hq : kv τ A) (h : ∀ σ1 τ1, kv σ1 A → kv τ1 A → Q 1 σ1 τ1) : kw_L_alike σ τ (nI x) Q := by
  unfold kw_L_alike
  have m9 : x % 9 < 9 := Nat.mod_lt _ (by decide)
  have m40 : x % 40 < 40 := Nat.mod_lt _ (by decide)
  have m51 : x % 51 < 51 := Nat.mod_lt _ (by decide)
  have m2 : x % 2 < 2 := Nat.mod_lt _ (by decide)
  have e9 : nI x - nI x / (9 : Int32) * (9 : Int32) = nI (x % 9) := pk_rem (d := 9) hx (by decide) (by decide)
  have e40 : nI x - nI x / (40 : Int32) * (40 : Int32) = nI (x % 40) := pk_rem (d := 40) hx (by decide) (by decide)
  have e51 : nI x - nI x / (51 : Int32) * (51 : Int32) = nI (x % 51) := pk_rem (d := 51) hx (by decide) (by decide)
  have e2 : nI x - nI x / (2 : Int32) * (2 : Int32) = nI (x % 2) := pk_rem (d := 2) hx (by decide) (by decide)
  rw [e9]
  refine l_now hp (fun σ1 h1 => l_now hq (fun τ1 g1 => kb_eq rfl ?_))
  refine s_errorPosition h1 (fun σ2 h2 => s_errorPosition g1 (fun τ2 g2 => kb_eq rfl ?_))
  refine l0_gap h2 (by omega) (fun σ3 h3 => l0_gap g2 (by omega) (fun τ3 g3 => kb_eq rfl ?_))
  refine s_mostUsed h3 (fun σ4 h4 => s_mostUsed g3 (fun τ4 g4 => kb_eq rfl ?_))
  unfold kw_L_alike_54
  rw [e40, e51, e2, show (10 : Int32) + nI (x % 51) = nI (10 + x % 51) from nI_add 10 _]
  refine l0_widthFor h4 (by omega) (fun σ5 h5 => l0_widthFor g4 (by omega) (fun τ5 g5 => kb_eq rfl ?_))
  refine s_empty h5 (fun σ6 h6 => s_empty g5 (fun τ6 g6 => kb_eq rfl ?_))
  refine l0_rowsWith h6 (by omega) (by omega) (fun σ7 h7 => l0_rowsWith g6 (by omega) (by omega) (fun τ7 g7 => kb_eq rfl ?_))
  unfold kw_L_alike_122
  refine l0_about (k := 5) h7 (by decide) (fun σ8 h8 => ?_)
  intro y ey
  rw [lN_i] at ey
  subst ey
  have hR := mt_rows_le h8.1.2.2.1
  exact ⟨mt_rows (kx_M A) + 2, by omega, la_134 hx h (mt_rows (kx_M A) + 1) 0 (Nat.zero_add _) σ8 τ7 h8 g7⟩
