/-! ===== the law ===== -/
theorem kf_nI (L : Nat) (xs : Nat → Int32) (k : Int32) : ∃ n, n < 2 ^ 31 ∧ kf_draw L xs k = nI n := by
  unfold kf_draw
  obtain ⟨j, hj, e⟩ := pk_andE (if nI L ≤ k then (15593203 : Int32) * k + (10313 : Int32) else xs k.toNatClampNeg) (m := 2147483647) 31 (by decide)
  exact ⟨j, hj, e⟩
theorem kv_H {σ : ka_S} {A : ma_X} {H H' : Nat → ma_P} (hv : kv σ (kx_setH A 0 H)) : kv σ (kx_setH A 0 H') := by
  obtain ⟨⟨h1, h2, h3, h4, h5, h6⟩, c1, c2, ⟨od, c3, c4⟩, c5⟩ := hv
  exact ⟨⟨h1, h2, h3, h4, fun j hj => absurd hj (Nat.not_lt_zero j), h6⟩, c1, c2, ⟨od, c3, c4.1, fun j hj => absurd hj (Nat.not_lt_zero j)⟩, c5⟩
theorem kz_H {A : ma_X} (h : kz A) (H : Nat → ma_P) : kz (kx_setH (kx_save A 1) 0 H) := ⟨h.1, fun j hj => absurd hj (Nat.not_lt_zero j), (kz_save (s := 1) h).2.2⟩
def kq (σ τ : ka_S) : Prop := ∃ A, kz A ∧ kv σ A ∧ kv τ A
theorem ll_242 {L : Nat} {xs : Nat → Int32} {K52 : ka_S → ka_S → Int32 → Int32 → Prop} {σ τ : ka_S} {j x : Nat} (hj : j < 36) (hx : x < 2 ^ 31) (hq : kq σ τ) (h : ∀ σ1 τ1, kq σ1 τ1 → K52 σ1 τ1 1 (nI (j + 1))) : kw_L_law_242 L xs K52 σ τ 1 (nI j) (nI x) := by
  unfold kw_L_law_242
  refine kb_ne (by decide) ?_
  have e : nI j - nI j / (6 : Int32) * (6 : Int32) = nI (j % 6) := pk_rem (d := 6) (by omega) (by decide) (by decide)
  refine kb_lt 0 (j % 6) (fun _ y ey => ?_) (fun _ => ?_) rfl e
  · rw [nI_1] at ey
    subst ey
    exact h σ τ hq
  · obtain ⟨A, z, hp, hr⟩ := hq
    refine l_alike hx hp hr (fun σ1 τ1 h1 h2 => kb_ne (by decide) (fun y ey => ?_))
    rw [nI_1] at ey
    subst ey
    exact h σ1 τ1 ⟨A, z, h1, h2⟩
theorem ll_193 {L : Nat} {xs : Nat → Int32} {K52 : ka_S → ka_S → Int32 → Int32 → Prop} {σ τ : ka_S} {j x : Nat} (hj : j < 36) (hx : x < 2 ^ 31) (hq : kq σ τ) (h : ∀ σ1 τ1, kq σ1 τ1 → K52 σ1 τ1 1 (nI (j + 1))) : kw_L_law_193 L xs K52 σ τ 1 (nI j) (nI x) := by
  unfold kw_L_law_193
  have e : nI j - nI j / (18 : Int32) * (18 : Int32) = nI (j % 18) := pk_rem (d := 18) (by omega) (by decide) (by decide)
  refine kb_i (j % 18) 17 (fun _ => kb_ne (by decide) ?_) (fun _ => ll_242 hj hx hq h) e
  obtain ⟨A, z, hp, hr⟩ := hq
  have hN := hp.1.2.2.1.1
  refine l_follows hx hr z.1 (fun H τ1 h1 => kb_ne (by decide) ?_)
  refine l0_save (s := 1) hp (by decide) (fun σ1 h2 => ?_)
  refine kb_lLT (mp_N (kx_M A)) 0 (fun q => absurd q (Nat.not_lt_zero _)) (fun _ => ?_)
  refine l0_restore (s := 1) h2 (by decide) rfl (fun σ2 h3 => ?_)
  refine kb_lLT (mp_N (kx_M A)) 0 (fun q => absurd q (Nat.not_lt_zero _)) (fun _ => ?_)
  unfold kw_L_law_241
  exact ll_242 hj hx ⟨kx_setH (kx_save A 1) 0 (kx_H A), kz_H z _, h3, kv_H h1⟩ h
theorem ll_161 {L : Nat} {xs : Nat → Int32} {K52 : ka_S → ka_S → Int32 → Int32 → Prop} {σ τ : ka_S} {j x : Nat} (hj : j < 36) (hx : x < 2 ^ 31) (hq : kq σ τ) (h : ∀ σ1 τ1, kq σ1 τ1 → K52 σ1 τ1 1 (nI (j + 1))) : kw_L_law_161 L xs K52 σ τ (nI j) (nI x) 1 := by
  unfold kw_L_law_161
  have e : nI j - nI j / (4 : Int32) * (4 : Int32) = nI (j % 4) := pk_rem (d := 4) (by omega) (by decide) (by decide)
  refine kb_i (j % 4) 0 (fun _ => kb_ne (by decide) ?_) (fun _ => ll_193 hj hx hq h) e
  obtain ⟨A, z, hp, hr⟩ := hq
  refine l_errors hr (fun τ1 h1 => kb_ne (by decide) ?_)
  refine l_built h1 z.1 (fun τ2 h2 => kb_ne (by decide) ?_)
  unfold kw_L_law_192
  exact ll_193 hj hx ⟨A, z, hp, h2⟩ h
theorem ll_276 {L : Nat} {xs : Nat → Int32} {σ τ : ka_S} (hq : kq σ τ) : kw_L_law_276 L xs σ τ 1 := by
  unfold kw_L_law_276
  refine kb_ne (by decide) ?_
  obtain ⟨A, z, hp, hr⟩ := hq
  exact l_alike (x := 83003) (by decide) hp hr (fun σ1 τ1 h1 h2 => kb_ne (by decide) rfl)
theorem ll_52 {L : Nat} {xs : Nat → Int32} : ∀ (m j : Nat), j + m = 36 → ∀ (σ τ : ka_S), kq σ τ → kw_L_law_52 L xs (m + 1) σ τ 1 (nI j) := by
  intro m
  induction m with
  | zero =>
    intro j hj σ τ hq
    obtain rfl : j = 36 := by omega
    rw [kw_L_law_52]
    exact kb_le 36 36 (fun _ => ll_276 hq) (fun q => absurd q (by omega))
  | succ m ih =>
    intro j hj σ τ hq
    have nx := fun σ1 τ1 h1 => ih (j + 1) (by omega) σ1 τ1 h1
    have e2 : (2 : Int32) * nI j = nI (2 * j) := pk_mul 2 j
    have e21 : (2 : Int32) * nI j + (1 : Int32) = nI (2 * j + 1) := by rw [e2]; exact nI_1 _
    rw [kw_L_law_52]
    refine kb_le 36 j (fun q => absurd q (by omega)) (fun _ => kb_ne (by decide) ⟨?_, ?_⟩)
    · rw [e2]
      exact nI_pos (by omega)
    intro x14 e14
    refine ⟨?_, ?_⟩
    · rw [e21]
      exact nI_pos (by omega)
    intro x16 e16
    obtain ⟨x, hx, ex⟩ := kf_nI L xs ((2 : Int32) * nI j)
    obtain ⟨y, hy, ey⟩ := kf_nI L xs ((2 : Int32) * nI j + (1 : Int32))
    obtain rfl : x14 = nI x := e14.trans ex
    obtain rfl : x16 = nI y := e16.trans ey
    have e18 : nI j - nI j / (18 : Int32) * (18 : Int32) = nI (j % 18) := pk_rem (d := 18) (by omega) (by decide) (by decide)
    obtain ⟨A, z, hp, hr⟩ := hq
    refine kb_i (j % 18) 0 (fun _ => ?_) (fun _ => ?_) e18
    · obtain ⟨A', r, t1, t2, t3⟩ := lt_tells (nI x) (nI y) A
      obtain ⟨er, ee⟩ := t2 x hx rfl
      subst er
      refine t3 hp (fun σ1 h1 => kb_ne (by decide) ?_)
      refine t3 hr (fun τ1 h2 => kb_ne (by decide) ?_)
      refine l0_load h1 ee (fun σ2 h3 => l0_load h2 ee (fun τ2 h4 => kb_eq rfl (fun w ew => ?_)))
      rw [nI_1] at ew
      subst ew
      exact nx σ2 τ2 ⟨kx_load A', kz_load, h3, h4⟩
    · obtain ⟨r, A', t1, t2⟩ := l_act A hx hy
      refine t2 hp (fun σ1 h1 => t2 hr (fun τ1 h2 => kb_eq rfl ?_))
      exact ll_161 (by omega) hy ⟨A', t1 hp.1.2.2.1 z, h1, h2⟩ nx
theorem kx_new_kv : kv kn_σ kx_new := ⟨ko_new, rc_T_0 rfl, ⟨⟨rfl, rfl, rfl, rfl⟩, ⟨rfl, fun e he => absurd he (Nat.not_lt_zero e)⟩, fun i hi => absurd hi (Nat.not_lt_zero i)⟩,
  ⟨0, by decide, ⟨rfl, rfl⟩, fun j hj => absurd hj (Nat.not_lt_zero j)⟩, fun s hs => ⟨rfl, fun h => absurd (show (0 : Nat) = 1 from h) (by decide)⟩⟩
theorem kx_new_kz : kz kx_new := ⟨fun e he => absurd (show e + 1 < 0 from he) (Nat.not_lt_zero _), fun j hj => absurd hj (Nat.not_lt_zero j), fun s hs hb => absurd (show (0 : Nat) = 1 from hb) (by decide)⟩
theorem l_law (L : Nat) (xs : Nat → Int32) : kw_L_law kn_σ kn_σ L xs := by
  unfold kw_L_law
  refine ⟨by decide, ?_⟩
  obtain ⟨x, hx, ex⟩ := kf_nI L xs 0
  rw [ex]
  refine l_alike hx kx_new_kv kx_new_kv (fun σ1 τ1 h1 h2 => kb_ne (by decide) ?_)
  refine l_errors h1 (fun σ2 h3 => kb_ne (by decide) ?_)
  refine l_built h3 kx_new_kz.1 (fun σ3 h4 => kb_ne (by decide) ?_)
  exact ⟨37, Nat.le_refl _, ll_52 36 0 rfl σ3 τ1 ⟨kx_new, kx_new_kz, h4, h2⟩⟩
