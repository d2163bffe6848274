/-! ===== built: a word ===== -/
theorem lb_331 {σ : ka_S} {A : ma_X} {i : Nat} {v1 : Int32} {v2 v4 v6 v8 v10 v12 : Int64} {K38 : ka_S → Int32 → Int64 → Int64 → Int64 → Int64 → Int64 → Int64 → Int32 → Int32 → Prop} {Q : Int32 → ka_S → Prop} (hv : kv σ A) (hi : i < mp_N (kx_M A)) (h : ∀ σ1, kv σ1 A → K38 σ1 v1 v2 v4 v6 v8 v10 v12 1 (nI (i + 1))) : kw_L_built_331 K38 Q σ v1 v2 v4 v6 v8 v10 v12 (nI i) (lN (mt_width (mp_D (kx_M A) i) (mp_Y (kx_M A)))) := by
  have okw := hv.1.2.2.1.2.2.2.2.2.1 i hi
  have hS := okw.1
  have hE := okw.2.1
  have hF := okw.2.2.1
  have h356 : ∀ σ1, kv σ1 A → kw_L_built_356 K38 Q σ1 v1 v2 v4 v6 v8 v10 v12 (nI i) (lN (mt_width (mp_D (kx_M A) i) (mp_Y (kx_M A)))) := fun σ1 h1 => by
    unfold kw_L_built_356 kw_L_built_361
    refine l0_word (k := 0) h1 hi (by decide) (fun σ2 h2 => ?_)
    intro x ex
    exact ⟨_, lb_381 hi h (mw_S (mp_D (kx_M A) i)) 0 (Nat.zero_add _) σ2 h2 x x (ex.trans (lN_m1 hS.1)) (ex.trans (lN_m1 hS.1))⟩
  unfold kw_L_built_331
  refine l0_word (k := 7) hv hi (by decide) (fun σ1 h1 => ?_)
  refine kb_l (mw_F (mp_D (kx_M A) i)) 0 (fun _ => h356 σ1 h1) (fun q => ?_)
  refine l0_word (k := 5) h1 hi (by decide) (fun σ2 h2 => ?_)
  exact kb_l (mw_E (mp_D (kx_M A) i)) 1 (fun _ => h356 σ2 h2) (fun q2 => absurd (okw.2.2.2.1 (by omega)) q2)
theorem lb_284 {σ : ka_S} {A : ma_X} {i : Nat} {v1 : Int32} {v4 v6 v8 v10 v12 t1 : Int64} {K38 : ka_S → Int32 → Int64 → Int64 → Int64 → Int64 → Int64 → Int64 → Int32 → Int32 → Prop} {Q : Int32 → ka_S → Prop} (hv : kv σ A) (hi : i < mp_N (kx_M A)) (e : t1 = lN (ml_col (kx_M A) (mp_W (kx_M A)) (mp_Y (kx_M A)) i)) (h : ∀ σ1, kv σ1 A → K38 σ1 v1 (lN (mp_W (kx_M A))) v4 v6 v8 v10 v12 1 (nI (i + 1))) : kw_L_built_284 K38 Q σ v1 (lN (mp_W (kx_M A))) v4 v6 v8 v10 v12 (nI i) (lN (mt_width (mp_D (kx_M A) i) (mp_Y (kx_M A)))) (lN (ml_col (kx_M A) (mp_W (kx_M A)) (mp_Y (kx_M A)) i)) (lN (ml_line (kx_M A) (mp_W (kx_M A)) (mp_Y (kx_M A)) i)) (lN (ml_sent (kx_M A) (mp_W (kx_M A)) (mp_Y (kx_M A)) i)) (lN (ml_col (kx_M A) (mp_W (kx_M A)) (mp_Y (kx_M A)) i)) t1 := by
  have ok := hv.1.2.2.1
  have b1 : (mt_width (mp_D (kx_M A) i) (mp_Y (kx_M A))) < 2 ^ 20 := mt_word_lt ok hi 1
  have b3 : (ml_col (kx_M A) (mp_W (kx_M A)) (mp_Y (kx_M A)) i) < 2 ^ 20 := mt_word_lt ok hi 3
  have hW := ok.2.2.1
  have hS := ok.2.2.2.1
  have hc : (ml_col (kx_M A) (mp_W (kx_M A)) (mp_Y (kx_M A)) i) ≠ 0 → (ml_col (kx_M A) (mp_W (kx_M A)) (mp_Y (kx_M A)) i) + (mt_width (mp_D (kx_M A) i) (mp_Y (kx_M A))) ≤ (mp_W (kx_M A)) := fun q => by
    unfold ml_col at q ⊢
    by_cases f : mf_fit (kx_M A) (mp_W (kx_M A)) (mp_Y (kx_M A)) (mt_lay (kx_M A) (mp_W (kx_M A)) (mp_Y (kx_M A)) i) i
    · rw [if_pos f] at q ⊢
      exact f.2
    · rw [if_neg f] at q
      exact absurd rfl q
  unfold kw_L_built_284
  refine kb_eq e.symm ?_
  refine l0_word (k := 2) hv hi (by decide) (fun σ1 h1 => kb_eq rfl ?_)
  refine l0_word (k := 4) h1 hi (by decide) (fun σ2 h2 => kb_eq rfl ?_)
  refine kb_l (ml_col (kx_M A) (mp_W (kx_M A)) (mp_Y (kx_M A)) i) 0 (fun _ => lb_331 h2 hi h) (fun q => ?_)
  have := hc q
  exact kb_lLT (mp_W (kx_M A)) ((ml_col (kx_M A) (mp_W (kx_M A)) (mp_Y (kx_M A)) i) + (mt_width (mp_D (kx_M A) i) (mp_Y (kx_M A)))) (fun z => by omega) (fun _ => lb_331 h2 hi h) rfl (lN_add _ _)
theorem lb_249 {σ : ka_S} {A : ma_X} {i : Nat} {v1 v23 : Int32} {v4 v6 v8 v21 t1 : Int64} {a b f : Nat} {K38 : ka_S → Int32 → Int64 → Int64 → Int64 → Int64 → Int64 → Int64 → Int32 → Int32 → Prop} {Q : Int32 → ka_S → Prop} (hv : kv σ A) (hi : i < mp_N (kx_M A)) (e : t1 = lN b)
    (hf : (v23 = 0 ∧ (ml_col (kx_M A) (mp_W (kx_M A)) (mp_Y (kx_M A)) i) = 0) ∨ (v23 = 1 ∧ v21 = lN (ml_col (kx_M A) (mp_W (kx_M A)) (mp_Y (kx_M A)) i))) (h : ∀ σ1, kv σ1 A → K38 σ1 v1 (lN (mp_W (kx_M A))) v4 v6 v8 (lN (a + b)) (lN (f + mf_fr (kx_M A) (mp_W (kx_M A)) i)) 1 (nI (i + 1))) :
    kw_L_built_249 K38 Q σ v1 (lN (mp_W (kx_M A))) v4 v6 v8 (lN f) (nI i) (lN (mt_width (mp_D (kx_M A) i) (mp_Y (kx_M A)))) (lN (ml_col (kx_M A) (mp_W (kx_M A)) (mp_Y (kx_M A)) i)) v21 v23 (lN (ml_line (kx_M A) (mp_W (kx_M A)) (mp_Y (kx_M A)) i)) (lN (ml_sent (kx_M A) (mp_W (kx_M A)) (mp_Y (kx_M A)) i)) (lN a) t1 := by
  have ok := hv.1.2.2.1
  have hW := ok.2.2.1
  have hF := (ok.2.2.2.2.2.1 i hi).2.2.1
  unfold kw_L_built_249
  intro x ex
  rw [e, lN_add] at ex
  subst ex
  refine l0_word (k := 7) hv hi (by decide) (fun σ1 h1 => ?_)
  refine ⟨fun q => ?_, ?_⟩
  · have := (pk_lEQ (a := (mp_W (kx_M A))) (b := 0) (by omega) (by decide)).mp q
    omega
  intro x2 ex2
  have e2 : x2 = lN (f + mf_fr (kx_M A) (mp_W (kx_M A)) i) := by
    rw [ex2]
    show lN f + ((lN (mw_F (mp_D (kx_M A) i)) + lN (mp_W (kx_M A))) - 1) / lN (mp_W (kx_M A)) = _
    rw [lN_add, lN_m1 (by omega), pk_lDiv (by omega) (by omega) (by omega), lN_add]
    rfl
  subst e2
  rcases hf with ⟨g1, g2⟩ | ⟨g1, g2⟩
  · exact kb_eq g1 (lb_284 h1 hi (by rw [g2]; rfl) h)
  · exact kb_ne (by rw [g1]; decide) (lb_284 h1 hi g2 h)
theorem lb_208 {σ : ka_S} {A : ma_X} {i : Nat} {v1 v23 : Int32} {v4 v21 t0 v24 : Int64} {a6 a8 a10 a12 : Nat} {K38 : ka_S → Int32 → Int64 → Int64 → Int64 → Int64 → Int64 → Int64 → Int32 → Int32 → Prop} {Q : Int32 → ka_S → Prop} (hv : kv σ A) (hi : i < mp_N (kx_M A))
    (hf : (v23 = 0 ∧ (ml_col (kx_M A) (mp_W (kx_M A)) (mp_Y (kx_M A)) i) = 0) ∨ (v23 = 1 ∧ v21 = lN (ml_col (kx_M A) (mp_W (kx_M A)) (mp_Y (kx_M A)) i))) (e24 : v24 = lN (ml_line (kx_M A) (mp_W (kx_M A)) (mp_Y (kx_M A)) i)) (e0 : t0 = lN (ml_sent (kx_M A) (mp_W (kx_M A)) (mp_Y (kx_M A)) i))
    (h : ∀ σ1, kv σ1 A → K38 σ1 v1 (lN (mp_W (kx_M A))) v4 (lN (a6 + mw_S (mp_D (kx_M A) i))) (lN (a8 + mt_gaps (mp_D (kx_M A) i))) (lN (a10 + mf_wide (kx_M A) (mp_W (kx_M A)) (mp_Y (kx_M A)) i)) (lN (a12 + mf_fr (kx_M A) (mp_W (kx_M A)) i)) 1 (nI (i + 1))) :
    kw_L_built_208 K38 Q σ v1 (lN (mp_W (kx_M A))) v4 (lN a6) (lN a8) (lN a10) (lN a12) (nI i) (lN (mt_width (mp_D (kx_M A) i) (mp_Y (kx_M A)))) (lN (ml_col (kx_M A) (mp_W (kx_M A)) (mp_Y (kx_M A)) i)) v21 v23 v24 t0 := by
  have ok := hv.1.2.2.1
  have b1 : (mt_width (mp_D (kx_M A) i) (mp_Y (kx_M A))) < 2 ^ 20 := mt_word_lt ok hi 1
  have hW := ok.2.2.1
  subst e24 e0
  unfold kw_L_built_208
  refine l0_word (k := 0) hv hi (by decide) (fun σ1 h1 => ?_)
  intro x ex
  rw [show lN (mt_word (kx_M A) i 0) = lN (mw_S (mp_D (kx_M A) i)) from rfl, lN_add] at ex
  subst ex
  refine l0_word (k := 6) h1 hi (by decide) (fun σ2 h2 => ?_)
  intro x ex
  rw [show lN (mt_word (kx_M A) i 6) = lN (mt_gaps (mp_D (kx_M A) i)) from rfl, lN_add] at ex
  subst ex
  refine kb_lLE (mt_width (mp_D (kx_M A) i) (mp_Y (kx_M A))) (mp_W (kx_M A)) (fun q => ?_) (fun q => ?_)
  · refine lb_249 (b := 0) h2 hi rfl hf ?_
    have e : mf_wide (kx_M A) (mp_W (kx_M A)) (mp_Y (kx_M A)) i = 0 := if_pos q
    rw [e] at h
    exact h
  · refine lb_249 (b := 1) h2 hi rfl hf ?_
    have e : mf_wide (kx_M A) (mp_W (kx_M A)) (mp_Y (kx_M A)) i = 1 := if_neg (by omega)
    rw [e] at h
    exact h
