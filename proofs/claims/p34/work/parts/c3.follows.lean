/-! ===== follows: sentences, gaps ===== -/
theorem lf_583 {σ : ka_S} {A X : ma_X} {i : Nat} {v4 v17 : Int32} {t0 t1 t2 : Int64} {Q : Int32 → ka_S → Prop} (hv : kv σ X) (hn : kx_h X ≠ 0) (hu : ∀ σ1, kv σ1 (kx_undo X) → kg A σ1) (hi : i < mp_N (kx_M X)) (h5 : mw_E (mp_D (kx_M X) i) = 0) (h7 : mw_F (mp_D (kx_M X) i) = 0) (e : t0 = t1 - t2)
    (fin : ∀ σ1, kg A σ1 → kw_L_follows_636 Q σ1 (mf_now (kx_M A)) v4 (nI i) v17 1) : kw_L_follows_583 Q σ (mf_now (kx_M A)) v4 (nI i) v17 t0 t1 t2 := by
  unfold kw_L_follows_583
  refine kb_eq e ?_
  refine l0_word (k := 5) hv hi (by decide) (fun σ1 h1 => kb_eq (show lN (mw_E (mp_D (kx_M X) i)) = 0 by rw [h5]; rfl) ?_)
  refine l0_word (k := 7) h1 hi (by decide) (fun σ2 h2 => kb_eq (show lN (mw_F (mp_D (kx_M X) i)) = 0 by rw [h7]; rfl) ?_)
  refine l_undop h2 hn (fun _ σ3 h3 => ?_)
  exact l_nowp (hu σ3 h3) (fun _ σ4 h4 => fin σ4 h4)
theorem lf_534 {σ : ka_S} {A X : ma_X} {i : Nat} {v4 v17 v21 v22 : Int32} {t0 t1 t2 : Int64} {Q : Int32 → ka_S → Prop} (hv : kv σ X) (hn : kx_h X ≠ 0) (hu : ∀ σ1, kv σ1 (kx_undo X) → kg A σ1) (hiX : i < mp_N (kx_M X)) (h5 : mw_E (mp_D (kx_M X) i) = 1) (e : t0 = t1 + t2)
    (hi : i < mp_N (kx_M A)) (hE : mw_E (mp_D (kx_M A) i) ≤ 1) (e21 : v21 = nI (mw_E (mp_D (kx_M A) i))) (e22 : (v22 = 0 ∧ i + 1 ≠ mp_N (kx_M A)) ∨ (v22 = 1 ∧ i + 1 = mp_N (kx_M A)))
    (fin : ∀ σ1, kg A σ1 → kw_L_follows_636 Q σ1 (mf_now (kx_M A)) v4 (nI i) v17 1) : kw_L_follows_534 Q σ (mf_now (kx_M A)) v4 (nI i) v17 (lN (mt_sent (kx_M A))) v21 v22 t0 t1 t2 := by
  unfold kw_L_follows_534
  refine kb_eq e ?_
  refine l0_word (k := 5) hv hiX (by decide) (fun σ1 h1 => kb_eq (show lN (mw_E (mp_D (kx_M X) i)) = 1 by rw [h5]; rfl) ?_)
  refine l_undop h1 hn (fun _ σ2 h2 => ?_)
  obtain ⟨h, H, hv2⟩ := hu σ2 h2
  refine l0_join hv2 hi (fun σ3 h3 => ?_)
  have j := mt_sent_join hi hE
  have key : ∀ t2 : Int64, lN (mt_sent (mp_setD (kx_M A) i (mw_join (mp_D (kx_M A) i)))) = lN (mt_sent (kx_M A)) - t2 → kw_L_follows_583 Q σ3 (mf_now (kx_M A)) v4 (nI i) v17 (lN (mt_sent (mp_setD (kx_M A) i (mw_join (mp_D (kx_M A) i))))) (lN (mt_sent (kx_M A))) t2 := fun t2 e => by
    have ed : mp_D (mp_setD (kx_M A) i (mw_join (mp_D (kx_M A) i))) i = mw_join (mp_D (kx_M A) i) := if_pos rfl
    exact lf_583 (X := kx_act (kx_setH A h H) (mp_setD (kx_M A) i (mw_join (mp_D (kx_M A) i)))) h3 kx_act_h (fun σ4 h4 => kg_un1 h4) hi
      (show mw_E (mp_D (mp_setD (kx_M A) i (mw_join (mp_D (kx_M A) i))) i) = 0 by rw [ed]; rfl) (show mw_F (mp_D (mp_setD (kx_M A) i (mw_join (mp_D (kx_M A) i))) i) = 0 by rw [ed]; rfl) e fin
  subst e21
  refine kb_i (mw_E (mp_D (kx_M A) i)) 0 (fun q => ?_) (fun q => ?_)
  · unfold kw_L_follows_582
    rw [if_neg (fun z => by omega)] at j
    exact key 0 ((congrArg lN (show mt_sent (mp_setD (kx_M A) i (mw_join (mp_D (kx_M A) i))) = mt_sent (kx_M A) - 0 by omega)).trans (lN_sub (Nat.zero_le _)).symm)
  · rcases e22 with ⟨g1, g2⟩ | ⟨g1, g2⟩
    · refine kb_eq g1 ?_
      rw [if_pos ⟨by omega, g2⟩] at j
      exact key 1 ((congrArg lN (show mt_sent (mp_setD (kx_M A) i (mw_join (mp_D (kx_M A) i))) = mt_sent (kx_M A) - 1 by omega)).trans (lN_sub (show 1 ≤ mt_sent (kx_M A) by omega)).symm)
    · refine kb_ne (by rw [g1]; decide) ?_
      unfold kw_L_follows_582
      rw [if_neg (fun z => z.2 g2)] at j
      exact key 0 ((congrArg lN (show mt_sent (mp_setD (kx_M A) i (mw_join (mp_D (kx_M A) i))) = mt_sent (kx_M A) - 0 by omega)).trans (lN_sub (Nat.zero_le _)).symm)
theorem lf_466 {σ : ka_S} {A : ma_X} {i : Nat} {v17 v18 v21 v22 : Int32} {Q : Int32 → ka_S → Prop} (hg : kg A σ) (hi : i < mp_N (kx_M A)) (hm : mk_pl (kx_M A) v18) (e21 : v21 = nI (mw_E (mp_D (kx_M A) i))) (e22 : (v22 = 0 ∧ i + 1 ≠ mp_N (kx_M A)) ∨ (v22 = 1 ∧ i + 1 = mp_N (kx_M A)))
    (fin : ∀ σ1, kg A σ1 → kw_L_follows_636 Q σ1 (mf_now (kx_M A)) (nI (mp_N (kx_M A))) (nI i) v17 1) : kw_L_follows_466 Q σ (mf_now (kx_M A)) (nI (mp_N (kx_M A))) (nI i) v17 v18 (lN (mt_sent (kx_M A))) v21 v22 := by
  have ok := kg_ok hg
  have hN := ok.1
  have hE := (ok.2.2.2.2.2.1 i hi).2.1
  obtain ⟨a, b, ha, hb, em⟩ := hm
  have hSa := (ok.2.2.2.2.2.1 a ha).1
  have ea : nI (10 * a + b) / (10 : Int32) = nI a := (pk_div (d := 10) (by omega) (by decide) (by decide)).trans (congrArg nI (by omega))
  have eb : nI (10 * a + b) - nI (10 * a + b) / (10 : Int32) * (10 : Int32) = nI b := (pk_rem (d := 10) (by omega) (by decide) (by decide)).trans (congrArg nI (by omega))
  subst em
  obtain ⟨h, H, hv⟩ := hg
  unfold kw_L_follows_466
  rw [eb, ea]
  refine l_in a 0 (mp_N (kx_M A) - 1) (Nat.zero_le _) (by omega) (kb_ne (by decide) ?_) (nI_l (by omega)) rfl (by rw [nI_l (by omega), lN_m1 (by omega)])
  refine l0_word (k := 0) hv ha (by decide) (fun σ1 h1 => ?_)
  refine l_in b 0 (mw_S (mp_D (kx_M A) a) - 1) (Nat.zero_le _) (by omega) (kb_ne (by decide) ?_) (nI_l (by omega)) rfl (lN_m1 hSa.1)
  refine l0_end h1 hi (fun σ2 h2 => ?_)
  have j := mt_sent_end hi
  have ed : mp_D (mp_setD (kx_M A) i (mw_end (mp_D (kx_M A) i))) i = mw_end (mp_D (kx_M A) i) := if_pos rfl
  have key : ∀ t2 : Int64, lN (mt_sent (mp_setD (kx_M A) i (mw_end (mp_D (kx_M A) i)))) = lN (mt_sent (kx_M A)) + t2 → kw_L_follows_534 Q σ2 (mf_now (kx_M A)) (nI (mp_N (kx_M A))) (nI i) v17 (lN (mt_sent (kx_M A))) v21 v22 (lN (mt_sent (mp_setD (kx_M A) i (mw_end (mp_D (kx_M A) i))))) (lN (mt_sent (kx_M A))) t2 := fun t2 e =>
    lf_534 (X := kx_act (kx_setH A h H) (mp_setD (kx_M A) i (mw_end (mp_D (kx_M A) i)))) h2 kx_act_h (fun σ4 h4 => kg_un1 h4) hi
      (show mw_E (mp_D (mp_setD (kx_M A) i (mw_end (mp_D (kx_M A) i))) i) = 1 by rw [ed]; rfl) e hi hE e21 e22 fin
  have no : (mw_E (mp_D (kx_M A) i) = 1 ∨ i + 1 = mp_N (kx_M A)) → kw_L_follows_534 Q σ2 (mf_now (kx_M A)) (nI (mp_N (kx_M A))) (nI i) v17 (lN (mt_sent (kx_M A))) v21 v22 (lN (mt_sent (mp_setD (kx_M A) i (mw_end (mp_D (kx_M A) i))))) (lN (mt_sent (kx_M A))) 0 := fun q => by
    rw [if_pos q] at j
    exact key 0 (by rw [j]; exact (lN_add _ 0).symm)
  rw [e21] at key no ⊢
  refine kb_i (mw_E (mp_D (kx_M A) i)) 0 (fun q => ?_) (fun q => ?_)
  · rcases e22 with ⟨g1, g2⟩ | ⟨g1, g2⟩
    · refine kb_eq g1 ?_
      rw [if_neg (fun z => by omega)] at j
      exact key 1 (by rw [j]; exact (lN_add _ 1).symm)
    · refine kb_ne (by rw [g1]; decide) ?_
      unfold kw_L_follows_529
      exact no (Or.inr g2)
  · unfold kw_L_follows_529
    exact no (Or.inl (by omega))
theorem lf_385 {σ : ka_S} {A : ma_X} {x : Nat} {Q : Int32 → ka_S → Prop} (hx : x < 2 ^ 31) (hb : kx_b A 1 = 1) (hB : kx_B A 1 = kx_M A) (k : ∀ H σ1, kv σ1 (kx_setH A 0 H) → Q 1 σ1) (so : mp_so (kx_M A)) (hg : kg A σ) : kw_L_follows_385 Q σ (nI x) (mf_now (kx_M A)) (nI (mp_N (kx_M A))) 1 := by
  have ok := kg_ok hg
  have hN := ok.1
  unfold kw_L_follows_385
  refine kb_le (mp_N (kx_M A)) 0 (fun _ => lf_920 hb hB k hg) (fun z => kb_ne (by decide) ⟨fun q => ?_, fun x1 ex1 => ?_⟩)
  · have := (nI_eq (a := mp_N (kx_M A)) (b := 0) (by omega) (by decide)).mp q
    omega
  have e7 : nI x / (7 : Int32) = nI (x / 7) := pk_div (d := 7) hx (by decide) (by decide)
  have e3 : nI x / (3 : Int32) = nI (x / 3) := pk_div (d := 3) hx (by decide) (by decide)
  rw [e7, pk_rem (by omega) z (by omega)] at ex1
  have hi : x / 7 % mp_N (kx_M A) < mp_N (kx_M A) := Nat.mod_lt _ z
  generalize x / 7 % mp_N (kx_M A) = i at ex1 hi
  subst ex1
  have okw := ok.2.2.2.2.2.1 i hi
  have hS := okw.1
  have hE := okw.2.1
  obtain ⟨h, H, hv⟩ := hg
  refine l0_word (k := 0) hv hi (by decide) (fun σ1 h1 => ?_)
  rw [show (lN (mt_word (kx_M (kx_setH A h H)) i 0)).toInt32 = nI (mw_S (mp_D (kx_M A) i)) from lN_i _]
  refine ⟨fun q => ?_, fun x2 ex2 => ?_⟩
  · have := (nI_eq (a := mw_S (mp_D (kx_M A) i)) (b := 0) (by omega) (by decide)).mp q
    omega
  rw [e3, pk_rem (by omega) hS.1 (by omega)] at ex2
  have hp : x / 3 % mw_S (mp_D (kx_M A) i) < mw_S (mp_D (kx_M A) i) := Nat.mod_lt _ hS.1
  generalize x / 3 % mw_S (mp_D (kx_M A) i) = p at ex2 hp
  subst ex2
  refine s_mostUsed h1 (fun σ2 h2 => ?_)
  refine l0_about (k := 3) h2 (by decide) (fun σ3 h3 => ?_)
  refine l0_word (k := 5) h3 hi (by decide) (fun σ4 h4 => ?_)
  have hg4 : kg A σ4 := ⟨h, H, h4⟩
  have hm := mi_most_pl ok z
  have go : ∀ v21, v21 = nI (mw_E (mp_D (kx_M A) i)) → kw_L_follows_450 Q σ4 (mf_now (kx_M A)) (nI (mp_N (kx_M A))) (nI i) (nI p) (mi_most (kx_M A)) (lN (mt_sent (kx_M A))) v21 := fun v21 e21 => by
    unfold kw_L_follows_450
    rw [show (nI (mp_N (kx_M A))) - (1 : Int32) = nI (mp_N (kx_M A) - 1) from pk_sub (b := 1) z]
    refine kb_i i (mp_N (kx_M A) - 1) (fun q => ?_) (fun q => ?_)
    · exact lf_466 hg4 hi hm e21 (Or.inr ⟨rfl, by omega⟩) (fun σ5 h5 => lf_636 hb hB k so hi hp h5)
    · exact lf_466 hg4 hi hm e21 (Or.inl ⟨rfl, by omega⟩) (fun σ5 h5 => lf_636 hb hB k so hi hp h5)
  refine kb_l (mw_E (mp_D (kx_M A) i)) 1 (fun q => go 1 (by rw [q]; rfl)) (fun q => go 0 (by rw [show mw_E (mp_D (kx_M A) i) = 0 by omega]; rfl))
theorem lf_318 {σ : ka_S} {A : ma_X} {x : Nat} {Q : Int32 → ka_S → Prop} (hx : x < 2 ^ 31) (hb : kx_b A 1 = 1) (hB : kx_B A 1 = kx_M A) (k : ∀ H σ1, kv σ1 (kx_setH A 0 H) → Q 1 σ1) (so : mp_so (kx_M A)) (hg : kg A σ) : kw_L_follows_318 Q σ (nI x) (mf_now (kx_M A)) (nI (mp_N (kx_M A))) (lN (mt_gapsP (kx_M A))) 1 := by
  have ok := kg_ok hg
  have f1 := mt_fill_sum ok
  have f2 := mt_fill_le ok
  have f3 := mt_fill_two ok
  obtain ⟨h, H, hv⟩ := hg
  have hh : h ≤ 14 := hv.1.2.2.2.1
  unfold kw_L_follows_318
  refine s_fillGaps hv (fun σ1 h1 => kb_ne (by decide) ?_)
  refine l0_about (k := 2) h1 (by decide) (fun σ2 h2 => kb_eq ?_ ?_)
  · show lN (mt_gapsP (mt_fill (kx_M A)).1) = lN (mt_gapsP (kx_M A)) - (nI (mt_fill (kx_M A)).2).toInt64
    rw [nI_l (by omega), lN_sub (by omega)]
    exact congrArg lN (by omega)
  refine s_fillGaps h2 (fun σ3 h3 => kb_eq (show nI (mt_fill (mt_fill (kx_M A)).1).2 = 0 by rw [f3]; rfl) ?_)
  refine l_undop h3 kx_act_h (fun _ σ4 h4 => ?_)
  refine l_undop h4 kx_act_h2 (fun _ σ5 h5 => ?_)
  exact l_nowp (kg_un2 hh h5) (fun _ σ6 h6 => lf_385 hx hb hB k so h6)
theorem lf_264 {σ : ka_S} {A : ma_X} {x : Nat} {Q : Int32 → ka_S → Prop} (hx : x < 2 ^ 31) (hb : kx_b A 1 = 1) (hB : kx_B A 1 = kx_M A) (k : ∀ H σ1, kv σ1 (kx_setH A 0 H) → Q 1 σ1) (so : mp_so (kx_M A)) (hg : kg A σ) : kw_L_follows_264 Q σ (nI x) (mf_now (kx_M A)) (nI (mp_N (kx_M A))) 1 := by
  have ok := kg_ok hg
  have hG := mt_gapsP_le ok
  have e0 : ma_sum (fun i => mt_gaps (mp_D (kx_M A) i)) (0 + mp_N (kx_M A)) = mt_gapsP (kx_M A) := by rw [Nat.zero_add]; rfl
  have e00 : ma_sum (fun i => mt_gaps (mp_D (kx_M A) i)) 0 = 0 := rfl
  have g1 := (mt_gapP_spec ok (mp_N (kx_M A)) 0 (mt_gapsP (kx_M A)) (by omega)).1 (by omega)
  have g2 := (mt_gapP_spec ok (mp_N (kx_M A)) 0 (mt_gapsP (kx_M A) - 1) (by omega)).2
  obtain ⟨h, H, hv⟩ := hg
  unfold kw_L_follows_264
  refine l0_about (k := 2) hv (by decide) (fun σ1 h1 => kb_ne (by decide) ?_)
  rw [show (lN (mt_about (kx_M (kx_setH A h H)) 2)).toInt32 = nI (mt_gapsP (kx_M A)) from lN_i _]
  refine l0_gap (g := mt_gapsP (kx_M A)) h1 (by omega) (fun σ2 h2 => kb_eq (show (mt_gapP (kx_M A) (mp_N (kx_M A)) 0 (mt_gapsP (kx_M A))).toInt64 = -9 by rw [g1]; rfl) ?_)
  refine kb_l (mt_gapsP (kx_M A)) 0 (fun _ => ?_) (fun q => ?_)
  · unfold kw_L_follows_313
    exact lf_318 hx hb hB k so ⟨h, H, h2⟩
  · rw [show nI (mt_gapsP (kx_M A)) - (1 : Int32) = nI (mt_gapsP (kx_M A) - 1) from pk_sub (b := 1) (by omega)]
    obtain ⟨q1, hq1, eq1⟩ := g2 (by omega)
    refine l0_gap (g := mt_gapsP (kx_M A) - 1) h2 (by omega) (fun σ3 h3 => kb_ne (show ¬ (mt_gapP (kx_M A) (mp_N (kx_M A)) 0 (mt_gapsP (kx_M A) - 1)).toInt64 = -9 by rw [eq1, nI_l (by omega)]; exact kI_9l (by omega)) ?_)
    unfold kw_L_follows_313
    exact lf_318 hx hb hB k so ⟨h, H, h3⟩
