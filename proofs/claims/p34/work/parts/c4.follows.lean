/-! ===== follows: widths; the whole ===== -/
theorem mt_rows_set9 {M : ma_P} {v : Nat} : mt_rows (mp_set M 9 v) = tr (mt_lay M v (mp_Y M) (mp_N M)) := by
  show tr (mt_lay (mp_setW M v) v (mp_Y M) (mp_N M)) = _
  rw [mt_lay_same (M := M) (M' := mp_setW M v) (fun _ => rfl) rfl]
theorem mt_rows_set911 {M : ma_P} {v y : Nat} : mt_rows (mp_set (mp_set M 9 v) 11 y) = tr (mt_lay M v y (mp_N M)) := by
  show tr (mt_lay (mp_setY (mp_setW M v) y) v y (mp_N M)) = _
  rw [mt_lay_same (M := M) (M' := mp_setY (mp_setW M v) y) (fun _ => rfl) rfl]
theorem lf_248 {σ : ka_S} {A : ma_X} {x : Nat} {Q : Int32 → ka_S → Prop} (hx : x < 2 ^ 31) (hb : kx_b A 1 = 1) (hB : kx_B A 1 = kx_M A) (k : ∀ H σ1, kv σ1 (kx_setH A 0 H) → Q 1 σ1) (so : mp_so (kx_M A)) (hg : kg A σ) : kw_L_follows_248 Q σ (nI x) (mf_now (kx_M A)) (nI (mp_N (kx_M A))) := by
  unfold kw_L_follows_248
  exact l_nowp hg (fun _ σ1 h1 => lf_264 hx hb hB k so h1)
theorem lf_133 {σ : ka_S} {A : ma_X} {x : Nat} {Q : Int32 → ka_S → Prop} (hx : x < 2 ^ 31) (hb : kx_b A 1 = 1) (hB : kx_B A 1 = kx_M A) (k : ∀ H σ1, kv σ1 (kx_setH A 0 H) → Q 1 σ1) (so : mp_so (kx_M A)) (hg : kg A σ) : kw_L_follows_133 Q σ (nI x) (mf_now (kx_M A)) (nI (mp_N (kx_M A))) 1 := by
  have ok := kg_ok hg
  have hW := ok.2.2.1
  have h40 : x % 40 < 40 := Nat.mod_lt _ (by decide)
  unfold kw_L_follows_133
  intro x1 ex1
  rw [show nI x - nI x / (40 : Int32) * (40 : Int32) = nI (x % 40) from pk_rem (d := 40) hx (by decide) (by decide)] at ex1
  subst ex1
  obtain ⟨h, H, hv⟩ := hg
  refine l0_widthFor (r := x % 40) hv (by omega) (fun σ1 h1 => ?_)
  rcases mt_wf_spec (M := kx_M A) (r := x % 40) 51 10 with e | ⟨v, v1, v2, e, t1, t2⟩
  · exact kb_eq (show (mt_wf (kx_M A) (x % 40) 51 10).toInt64 = -9 by rw [e]; rfl) (lf_264 hx hb hB k so ⟨h, H, h1⟩)
  · have ee : (mt_wf (kx_M (kx_setH A h H)) (x % 40) 51 10).toInt64 = lN v := (congrArg Int32.toInt64 e).trans (nI_l (by omega))
    rw [ee]
    refine kb_ne (kI_9l (by omega)) (kb_ne (by decide) ?_)
    rw [lN_i]
    refine l0_set (k := 9) (x := v) h1 (Or.inl ⟨rfl, v1, by omega⟩) (fun σ2 h2 => ?_)
    refine kb_lLT (mp_W (kx_M A)) 10 (fun q => absurd q (by omega)) (fun _ => ?_)
    refine l0_about (k := 5) h2 (by decide) (fun σ3 h3 => ?_)
    have er := mt_rows_set9 (M := kx_M A) (v := v)
    refine kb_lLT (x % 40) (mt_rows (mp_set (kx_M A) 9 v)) (fun q => absurd q (by omega)) (fun _ => ?_) (nI_l (by omega)) rfl
    refine l_undop h3 kx_act_h (fun _ σ4 h4 => ?_)
    have hg4 : kg A σ4 := kg_un1 h4
    refine kb_l v 10 (fun _ => lf_248 hx hb hB k so hg4) (fun q => ?_)
    rw [show nI v - (1 : Int32) = nI (v - 1) from pk_sub (b := 1) (by omega)]
    obtain ⟨h', H', hv4⟩ := hg4
    refine l0_set (k := 9) (x := v - 1) hv4 (Or.inl ⟨rfl, by omega, by omega⟩) (fun σ5 h5 => ?_)
    refine kb_lLT (mp_W (kx_M A)) 10 (fun q => absurd q (by omega)) (fun _ => ?_)
    refine l0_about (k := 5) h5 (by decide) (fun σ6 h6 => ?_)
    have er2 := mt_rows_set9 (M := kx_M A) (v := v - 1)
    have bR : mt_rows (mp_set (kx_M A) 9 (v - 1)) < 2 ^ 20 := mt_about_lt h6.1.2.2.1 5
    refine kb_lLE (mt_rows (mp_set (kx_M A) 9 (v - 1))) (x % 40) (fun q => absurd q (by omega)) (fun _ => ?_) rfl (nI_l (by omega))
    refine l_undop h6 kx_act_h (fun _ σ7 h7 => ?_)
    exact lf_248 hx hb hB k so (kg_un1 h7)
theorem lf_45 {σ : ka_S} {A : ma_X} {x a y : Nat} {Q : Int32 → ka_S → Prop} (hx : x < 2 ^ 31) (ha : 10 ≤ a ∧ a ≤ 60) (hy : y ≤ 1) (hb : kx_b A 1 = 1) (hB : kx_B A 1 = kx_M A) (k : ∀ H σ1, kv σ1 (kx_setH A 0 H) → Q 1 σ1) (so : mp_so (kx_M A)) (hg : kg A σ) : kw_L_follows_45 Q σ (nI x) (mf_now (kx_M A)) (nI (mp_N (kx_M A))) (nI a) (nI y) 1 := by
  have ok := kg_ok hg
  have hW := ok.2.2.1
  have hY := ok.2.2.2.2.1
  obtain ⟨h, H, hv⟩ := hg
  have hh : h ≤ 14 := hv.1.2.2.2.1
  unfold kw_L_follows_45
  refine l0_rowsWith hv ha hy (fun σ1 h1 => kb_ne (by decide) ?_)
  refine l0_set (k := 9) (x := a) h1 (Or.inl ⟨rfl, ha⟩) (fun σ2 h2 => ?_)
  refine kb_lLT (mp_W (kx_M A)) 10 (fun q => absurd q (by omega)) (fun _ => ?_)
  refine l0_set (k := 11) (x := y) h2 (Or.inr (Or.inr ⟨rfl, hy⟩)) (fun σ3 h3 => ?_)
  refine kb_lLT (mp_Y (kx_M A)) 0 (fun q => absurd q (Nat.not_lt_zero _)) (fun _ => ?_)
  refine l0_about (k := 5) h3 (by decide) (fun σ4 h4 => kb_eq ?_ ?_)
  · show lN (mt_rows (mp_set (mp_set (kx_M A) 9 a) 11 y)) = lN (tr (mt_lay (kx_M A) a y (mp_N (kx_M A))))
    rw [mt_rows_set911]
  refine l_undop h4 kx_act_h (fun _ σ5 h5 => ?_)
  refine l_undop h5 kx_act_h2 (fun _ σ6 h6 => ?_)
  exact l_nowp (kg_un2 hh h6) (fun _ σ7 h7 => lf_133 hx hb hB k so h7)
theorem l_follows {σ : ka_S} {A : ma_X} {x : Nat} {Q : Int32 → ka_S → Prop} (hx : x < 2 ^ 31) (hv : kv σ A) (so : mp_so (kx_M A)) (k : ∀ H σ1, kv σ1 (kx_setH (kx_save A 1) 0 H) → Q 1 σ1) : kw_L_follows σ (nI x) Q := by
  have ok := hv.1.2.2.1
  have hN := ok.1
  unfold kw_L_follows
  refine l_now hv (fun σ1 h1 => l_words h1 (fun σ2 h2 => ?_))
  intro x5 e5 x6 e6
  have m51 : x % 51 < 51 := Nat.mod_lt _ (by decide)
  have m2 : x / 51 % 2 < 2 := Nat.mod_lt _ (by decide)
  rw [show nI x - nI x / (51 : Int32) * (51 : Int32) = nI (x % 51) from pk_rem (d := 51) hx (by decide) (by decide), show (10 : Int32) + nI (x % 51) = nI (10 + x % 51) from nI_add 10 _] at e5
  rw [show nI x / (51 : Int32) = nI (x / 51) from pk_div (d := 51) hx (by decide) (by decide), show nI (x / 51) - nI (x / 51) / (2 : Int32) * (2 : Int32) = nI (x / 51 % 2) from pk_rem (d := 2) (by omega) (by decide) (by decide)] at e6
  subst e5 e6
  refine l0_save (s := 1) h2 (by decide) (fun σ3 h3 => kb_eq (nI_l (by omega)).symm ?_)
  exact lf_45 (A := kx_save A 1) hx ⟨by omega, by omega⟩ (by omega) rfl rfl k so ⟨kx_h A, kx_H A, h3⟩
