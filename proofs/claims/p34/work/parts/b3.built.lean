/-! ===== built: where a word stands, all words ===== -/
theorem pk_p1 (j : Nat) : nI (j + 1) - (1 : Int32) = nI j := pk_sub (b := 1) (by omega)
theorem lb_177 {σ : ka_S} {A : ma_X} {i : Nat} {v1 v20 v23 : Int32} {v4 v21 v24 : Int64} {a6 a8 a10 a12 : Nat} {K38 : ka_S → Int32 → Int64 → Int64 → Int64 → Int64 → Int64 → Int64 → Int32 → Int32 → Prop} {Q : Int32 → ka_S → Prop} (hv : kv σ A) (hi : i < mp_N (kx_M A))
    (hf : (v23 = 0 ∧ (ml_col (kx_M A) (mp_W (kx_M A)) (mp_Y (kx_M A)) i) = 0) ∨ (v23 = 1 ∧ v21 = lN (ml_col (kx_M A) (mp_W (kx_M A)) (mp_Y (kx_M A)) i))) (e24 : v24 = lN (ml_line (kx_M A) (mp_W (kx_M A)) (mp_Y (kx_M A)) i)) (e20 : v20 = nI (te (mt_lay (kx_M A) (mp_W (kx_M A)) (mp_Y (kx_M A)) i)))
    (h : ∀ σ1, kv σ1 A → K38 σ1 v1 (lN (mp_W (kx_M A))) v4 (lN (a6 + mw_S (mp_D (kx_M A) i))) (lN (a8 + mt_gaps (mp_D (kx_M A) i))) (lN (a10 + mf_wide (kx_M A) (mp_W (kx_M A)) (mp_Y (kx_M A)) i)) (lN (a12 + mf_fr (kx_M A) (mp_W (kx_M A)) i)) 1 (nI (i + 1))) :
    kw_L_built_177 K38 Q σ v1 (lN (mp_W (kx_M A))) v4 (lN a6) (lN a8) (lN a10) (lN a12) (nI i) (lN (mt_width (mp_D (kx_M A) i) (mp_Y (kx_M A)))) (lN (ml_col (kx_M A) (mp_W (kx_M A)) (mp_Y (kx_M A)) i)) v20 v21 v23 v24 := by
  have ok := hv.1.2.2.1
  have hN := ok.1
  unfold kw_L_built_177
  refine kb_i i 0 (fun q => ?_) (fun q => ?_)
  · subst q
    exact lb_208 hv hi hf e24 rfl h
  · obtain ⟨j, rfl⟩ : ∃ j, i = j + 1 := ⟨i - 1, by omega⟩
    have hE := (ok.2.2.2.2.2.1 j (by omega)).2.1
    have et : te (mt_lay (kx_M A) (mp_W (kx_M A)) (mp_Y (kx_M A)) (j + 1)) = mw_E (mp_D (kx_M A) j) := rfl
    have es : ml_sent (kx_M A) (mp_W (kx_M A)) (mp_Y (kx_M A)) (j + 1) = if mw_E (mp_D (kx_M A) j) = 0 then ml_sent (kx_M A) (mp_W (kx_M A)) (mp_Y (kx_M A)) j else ml_sent (kx_M A) (mp_W (kx_M A)) (mp_Y (kx_M A)) j + 1 := rfl
    rw [pk_p1]
    refine l0_word (k := 4) hv (show j < _ by omega) (by decide) (fun σ1 h1 => ?_)
    subst e20
    rw [et]
    refine kb_i (mw_E (mp_D (kx_M A) j)) 0 (fun q2 => ?_) (fun q2 => ?_)
    · unfold kw_L_built_207
      refine lb_208 h1 hi hf e24 ?_ h
      rw [es, if_pos q2]
      exact lN_add _ 0
    · unfold kw_L_built_207
      refine lb_208 h1 hi hf e24 ?_ h
      rw [es, if_neg q2]
      exact lN_add _ 1
theorem lb_146 {σ : ka_S} {A : ma_X} {i : Nat} {v1 v20 v23 : Int32} {v4 v21 : Int64} {a6 a8 a10 a12 : Nat} {K38 : ka_S → Int32 → Int64 → Int64 → Int64 → Int64 → Int64 → Int64 → Int32 → Int32 → Prop} {Q : Int32 → ka_S → Prop} (hv : kv σ A) (hi : i < mp_N (kx_M A))
    (hf : (v23 = 0 ∧ ¬ mf_fit (kx_M A) (mp_W (kx_M A)) (mp_Y (kx_M A)) (mt_lay (kx_M A) (mp_W (kx_M A)) (mp_Y (kx_M A)) i) i) ∨ (v23 = 1 ∧ mf_fit (kx_M A) (mp_W (kx_M A)) (mp_Y (kx_M A)) (mt_lay (kx_M A) (mp_W (kx_M A)) (mp_Y (kx_M A)) i) i ∧ v21 = lN (ml_col (kx_M A) (mp_W (kx_M A)) (mp_Y (kx_M A)) i))) (e20 : v20 = nI (te (mt_lay (kx_M A) (mp_W (kx_M A)) (mp_Y (kx_M A)) i)))
    (h : ∀ σ1, kv σ1 A → K38 σ1 v1 (lN (mp_W (kx_M A))) v4 (lN (a6 + mw_S (mp_D (kx_M A) i))) (lN (a8 + mt_gaps (mp_D (kx_M A) i))) (lN (a10 + mf_wide (kx_M A) (mp_W (kx_M A)) (mp_Y (kx_M A)) i)) (lN (a12 + mf_fr (kx_M A) (mp_W (kx_M A)) i)) 1 (nI (i + 1))) :
    kw_L_built_146 K38 Q σ v1 (lN (mp_W (kx_M A))) v4 (lN a6) (lN a8) (lN a10) (lN a12) (nI i) (lN (mt_width (mp_D (kx_M A) i) (mp_Y (kx_M A)))) (lN (ml_col (kx_M A) (mp_W (kx_M A)) (mp_Y (kx_M A)) i)) v20 v21 v23 := by
  have ok := hv.1.2.2.1
  have hN := ok.1
  have hg : (v23 = 0 ∧ (ml_col (kx_M A) (mp_W (kx_M A)) (mp_Y (kx_M A)) i) = 0) ∨ (v23 = 1 ∧ v21 = lN (ml_col (kx_M A) (mp_W (kx_M A)) (mp_Y (kx_M A)) i)) := by
    rcases hf with ⟨g1, g2⟩ | ⟨g1, _, g3⟩
    · exact Or.inl ⟨g1, if_neg g2⟩
    · exact Or.inr ⟨g1, g3⟩
  unfold kw_L_built_146
  refine kb_i i 0 (fun q => ?_) (fun q => ?_)
  · subst q
    refine lb_177 hv hi hg ?_ e20 h
    have : ml_line (kx_M A) (mp_W (kx_M A)) (mp_Y (kx_M A)) 0 = 0 := by
      show (if mf_fit (kx_M A) (mp_W (kx_M A)) (mp_Y (kx_M A)) (mt_lay (kx_M A) (mp_W (kx_M A)) (mp_Y (kx_M A)) 0) 0 then 0 else 0 + 1) - 1 = 0
      split <;> rfl
    rw [this]
    rfl
  · obtain ⟨j, rfl⟩ : ∃ j, i = j + 1 := ⟨i - 1, by omega⟩
    have t := ml_tl (W := (mp_W (kx_M A))) (y := (mp_Y (kx_M A))) ok ok.2.2.1 (show j < mp_N (kx_M A) by omega)
    have el : ml_line (kx_M A) (mp_W (kx_M A)) (mp_Y (kx_M A)) (j + 1) = (if mf_fit (kx_M A) (mp_W (kx_M A)) (mp_Y (kx_M A)) (mt_lay (kx_M A) (mp_W (kx_M A)) (mp_Y (kx_M A)) (j + 1)) (j + 1) then tl (mt_lay (kx_M A) (mp_W (kx_M A)) (mp_Y (kx_M A)) (j + 1)) else tl (mt_lay (kx_M A) (mp_W (kx_M A)) (mp_Y (kx_M A)) (j + 1)) + 1) - 1 := rfl
    rw [pk_p1]
    refine l0_word (k := 2) hv (show j < _ by omega) (by decide) (fun σ1 h1 => ?_)
    rcases hf with ⟨g1, g2⟩ | ⟨g1, g2, g3⟩
    · subst g1
      refine kb_eq rfl ?_
      unfold kw_L_built_176
      refine lb_177 h1 hi hg ?_ e20 h
      rw [el, if_neg g2, Nat.add_sub_cancel, t]
      exact lN_add _ 1
    · subst g1
      refine kb_ne (by decide) ?_
      unfold kw_L_built_176
      refine lb_177 h1 hi hg ?_ e20 h
      rw [el, if_pos g2, t, Nat.add_sub_cancel]
      exact lN_add _ 0
theorem lb_124 {σ : ka_S} {A : ma_X} {i : Nat} {v1 v20 : Int32} {v4 t0 : Int64} {a6 a8 a10 a12 : Nat} {K38 : ka_S → Int32 → Int64 → Int64 → Int64 → Int64 → Int64 → Int64 → Int32 → Int32 → Prop} {Q : Int32 → ka_S → Prop} (hv : kv σ A) (hi : i < mp_N (kx_M A))
    (e20 : v20 = nI (te (mt_lay (kx_M A) (mp_W (kx_M A)) (mp_Y (kx_M A)) i))) (e21 : te (mt_lay (kx_M A) (mp_W (kx_M A)) (mp_Y (kx_M A)) i) = 0 → t0 = lN (tx (mt_lay (kx_M A) (mp_W (kx_M A)) (mp_Y (kx_M A)) i) + mp_S (kx_M A)))
    (h : ∀ σ1, kv σ1 A → K38 σ1 v1 (lN (mp_W (kx_M A))) v4 (lN (a6 + mw_S (mp_D (kx_M A) i))) (lN (a8 + mt_gaps (mp_D (kx_M A) i))) (lN (a10 + mf_wide (kx_M A) (mp_W (kx_M A)) (mp_Y (kx_M A)) i)) (lN (a12 + mf_fr (kx_M A) (mp_W (kx_M A)) i)) 1 (nI (i + 1))) :
    kw_L_built_124 K38 Q σ v1 (lN (mp_W (kx_M A))) v4 (lN a6) (lN a8) (lN a10) (lN a12) (nI i) (lN (mt_width (mp_D (kx_M A) i) (mp_Y (kx_M A)))) (lN (ml_col (kx_M A) (mp_W (kx_M A)) (mp_Y (kx_M A)) i)) v20 t0 := by
  have ok := hv.1.2.2.1
  have hW := ok.2.2.1
  have hS := ok.2.2.2.1
  have b1 : (mt_width (mp_D (kx_M A) i) (mp_Y (kx_M A))) < 2 ^ 20 := mt_word_lt ok hi 1
  have l := mt_lay_le (W := (mp_W (kx_M A))) (y := (mp_Y (kx_M A))) ok ok.2.2.1 i (by omega)
  unfold kw_L_built_124
  have no : ¬ te (mt_lay (kx_M A) (mp_W (kx_M A)) (mp_Y (kx_M A)) i) = 0 → kw_L_built_145 K38 Q σ v1 (lN (mp_W (kx_M A))) v4 (lN a6) (lN a8) (lN a10) (lN a12) (nI i) (lN (mt_width (mp_D (kx_M A) i) (mp_Y (kx_M A)))) (lN (ml_col (kx_M A) (mp_W (kx_M A)) (mp_Y (kx_M A)) i)) v20 t0 := fun q => by
    unfold kw_L_built_145
    exact lb_146 hv hi (Or.inl ⟨rfl, fun f => q f.1⟩) e20 h
  rw [e20] at no ⊢
  refine kb_i (te (mt_lay (kx_M A) (mp_W (kx_M A)) (mp_Y (kx_M A)) i)) 0 (fun q => ?_) no
  have e := e21 q
  subst e
  refine kb_lLT (mp_W (kx_M A)) (tx (mt_lay (kx_M A) (mp_W (kx_M A)) (mp_Y (kx_M A)) i) + mp_S (kx_M A) + (mt_width (mp_D (kx_M A) i) (mp_Y (kx_M A)))) (fun z => ?_) (fun z => ?_) rfl (lN_add _ _)
  · unfold kw_L_built_145
    exact lb_146 hv hi (Or.inl ⟨rfl, fun f => by have := f.2; omega⟩) rfl h
  · exact lb_146 hv hi (Or.inr ⟨rfl, ⟨q, z⟩, congrArg lN (if_pos ⟨q, z⟩ : (ml_col (kx_M A) (mp_W (kx_M A)) (mp_Y (kx_M A)) i) = _).symm⟩) rfl h
theorem lb_91 {σ : ka_S} {A : ma_X} {i : Nat} {v1 v20 : Int32} {a6 a8 a10 a12 : Nat} {K38 : ka_S → Int32 → Int64 → Int64 → Int64 → Int64 → Int64 → Int64 → Int32 → Int32 → Prop} {Q : Int32 → ka_S → Prop} (hv : kv σ A) (hi : i < mp_N (kx_M A))
    (e20 : v20 = nI (te (mt_lay (kx_M A) (mp_W (kx_M A)) (mp_Y (kx_M A)) i)))
    (h : ∀ σ1, kv σ1 A → K38 σ1 v1 (lN (mp_W (kx_M A))) (lN (mp_S (kx_M A))) (lN (a6 + mw_S (mp_D (kx_M A) i))) (lN (a8 + mt_gaps (mp_D (kx_M A) i))) (lN (a10 + mf_wide (kx_M A) (mp_W (kx_M A)) (mp_Y (kx_M A)) i)) (lN (a12 + mf_fr (kx_M A) (mp_W (kx_M A)) i)) 1 (nI (i + 1))) :
    kw_L_built_91 K38 Q σ v1 (lN (mp_W (kx_M A))) (lN (mp_S (kx_M A))) (lN a6) (lN a8) (lN a10) (lN a12) (nI i) (lN (mt_width (mp_D (kx_M A) i) (mp_Y (kx_M A)))) (lN (ml_col (kx_M A) (mp_W (kx_M A)) (mp_Y (kx_M A)) i)) v20 := by
  have ok := hv.1.2.2.1
  have hN := ok.1
  unfold kw_L_built_91
  refine kb_i i 0 (fun q => ?_) (fun q => ?_)
  · subst q
    exact lb_124 hv hi e20 (fun q => absurd (show (1 : Nat) = 0 from q) (by decide)) h
  · obtain ⟨j, rfl⟩ : ∃ j, i = j + 1 := ⟨i - 1, by omega⟩
    rw [pk_p1]
    refine l0_word (k := 3) hv (show j < _ by omega) (by decide) (fun σ1 h1 => ?_)
    refine l0_word (k := 1) h1 (show j < _ by omega) (by decide) (fun σ2 h2 => ?_)
    refine lb_124 h2 hi e20 (fun _ => ?_) h
    rw [lN_add, lN_add]
    rfl
theorem lb_38 {A : ma_X} {Q : Int32 → ka_S → Prop} (h : ∀ σ1, kv σ1 A → ∃ n, kw_L_built_676 Q n σ1 (nI (mp_N (kx_M A))) (lN (mp_W (kx_M A))) (lN (mt_parts (kx_M A))) (lN (mt_gapsP (kx_M A))) (lN (ma_sum (mf_wide (kx_M A) (mp_W (kx_M A)) (mp_Y (kx_M A))) (mp_N (kx_M A)))) (lN (ma_sum (mf_fr (kx_M A) (mp_W (kx_M A))) (mp_N (kx_M A)))) 1 1) :
    ∀ (m i : Nat), i + m = mp_N (kx_M A) → ∀ (σ : ka_S), kv σ A → kw_L_built_38 Q (m + 1) σ (nI (mp_N (kx_M A))) (lN (mp_W (kx_M A))) (lN (mp_S (kx_M A))) (lN (ma_sum (fun i => mw_S (mp_D (kx_M A) i)) i)) (lN (ma_sum (fun i => mt_gaps (mp_D (kx_M A) i)) i)) (lN (ma_sum (mf_wide (kx_M A) (mp_W (kx_M A)) (mp_Y (kx_M A))) i)) (lN (ma_sum (mf_fr (kx_M A) (mp_W (kx_M A))) i)) 1 (nI i) := by
  intro m
  induction m with
  | zero =>
    intro i hi σ hv
    have hN := hv.1.2.2.1.1
    obtain rfl : i = mp_N (kx_M A) := by omega
    rw [kw_L_built_38]
    exact kb_le (mp_N (kx_M A)) (mp_N (kx_M A)) (fun _ => h σ hv) (fun q => absurd q (by omega))
  | succ m ih =>
    intro i hi σ hv
    have ok := hv.1.2.2.1
    have hN := ok.1
    have hi2 : i < mp_N (kx_M A) := by omega
    have nx := fun σ1 h1 => ih (i + 1) (by omega) σ1 h1
    rw [kw_L_built_38]
    refine kb_le (mp_N (kx_M A)) i (fun q => absurd q (by omega)) (fun _ => ?_)
    refine kb_ne (by decide) ?_
    refine l0_word (k := 1) hv hi2 (by decide) (fun σ1 h1 => ?_)
    refine l0_word (k := 3) h1 hi2 (by decide) (fun σ2 h2 => ?_)
    refine kb_i i 0 (fun q => ?_) (fun q => ?_)
    · subst q
      unfold kw_L_built_86
      exact lb_91 h2 hi2 rfl nx
    · obtain ⟨j, rfl⟩ : ∃ j, i = j + 1 := ⟨i - 1, by omega⟩
      have hE := (ok.2.2.2.2.2.1 j (by omega)).2.1
      rw [pk_p1]
      refine l0_word (k := 5) h2 (show j < _ by omega) (by decide) (fun σ3 h3 => ?_)
      refine kb_l (mw_E (mp_D (kx_M A) j)) 1 (fun q2 => ?_) (fun q2 => ?_)
      · unfold kw_L_built_86
        exact lb_91 h3 hi2 (show (1 : Int32) = nI (mw_E (mp_D (kx_M A) j)) by rw [q2]; rfl) nx
      · exact lb_91 h3 hi2 (show (0 : Int32) = nI (mw_E (mp_D (kx_M A) j)) by rw [show mw_E (mp_D (kx_M A) j) = 0 by omega]; rfl) nx
