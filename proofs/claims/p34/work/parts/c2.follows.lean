/-! ===== follows: the last half ===== -/
def kg (A : ma_X) (σ : ka_S) : Prop := ∃ h H, kv σ (kx_setH A h H)
theorem kg_ok {A : ma_X} {σ : ka_S} (hg : kg A σ) : mp_ok (kx_M A) := by
  obtain ⟨h, H, hv⟩ := hg
  exact hv.1.2.2.1
theorem kg_un1 {A : ma_X} {σ : ka_S} {h : Nat} {H : Nat → ma_P} {M' : ma_P} (hv : kv σ (kx_undo (kx_act (kx_setH A h H) M'))) : kg A σ := by
  obtain ⟨h', H', e⟩ := kx_un1 (A := A) (h := h) (H := H) (M' := M')
  rw [e] at hv
  exact ⟨h', H', hv⟩
theorem kg_un2 {A : ma_X} {σ : ka_S} {h : Nat} {H : Nat → ma_P} {M1 M2 : ma_P} (hh : h ≤ 14) (hv : kv σ (kx_undo (kx_undo (kx_act (kx_act (kx_setH A h H) M1) M2)))) : kg A σ := by
  obtain ⟨h', H', e⟩ := kx_un2 (A := A) (h := h) (H := H) (M1 := M1) (M2 := M2) hh
  rw [e] at hv
  exact ⟨h', H', hv⟩
theorem kx_act_h {X : ma_X} {M' : ma_P} : kx_h (kx_act X M') ≠ 0 := fun q => by
  have := mh_n_pos (kx_h X)
  have q' : mh_n (kx_h X) = 0 := q
  omega
theorem kx_act_h2 {X : ma_X} {M1 M2 : ma_P} : kx_h (kx_undo (kx_act (kx_act X M1) M2)) ≠ 0 := fun q => by
  have := mh_n_pos2 (kx_h X)
  have q' : mh_n (mh_n (kx_h X)) - 1 = 0 := q
  omega
theorem l_undop {σ : ka_S} {X : ma_X} {F G : Int64 → ka_S → Prop} (hv : kv σ X) (hn : kx_h X ≠ 0) (h : ∀ r σ1, kv σ1 (kx_undo X) → G r σ1) : kw_L_undo σ (fun r σ1 => (r < (0 : Int64) → F r σ1) ∧ (¬ r < (0 : Int64) → G r σ1)) := by
  have hh := hv.1.2.2.2.1
  refine l1_undo hv hn (fun σ1 h1 => ?_)
  exact kb_lLT (kx_h X - 1) 0 (fun q => absurd q (Nat.not_lt_zero _)) (fun _ => h _ σ1 h1)
theorem l_nowp {σ : ka_S} {A : ma_X} {F G : Int64 → ka_S → Prop} (hg : kg A σ) (h : ∀ r σ1, kg A σ1 → F r σ1) : kw_L_now σ (fun r σ1 => (r = mf_now (kx_M A) → F r σ1) ∧ (¬ r = mf_now (kx_M A) → G r σ1)) := by
  obtain ⟨h', H', hv⟩ := hg
  exact l_now hv (fun σ1 h1 => kb_eq rfl (h _ σ1 ⟨h', H', h1⟩))
theorem lf_920 {σ : ka_S} {A : ma_X} {Q : Int32 → ka_S → Prop} (hb : kx_b A 1 = 1) (hB : kx_B A 1 = kx_M A) (k : ∀ H σ1, kv σ1 (kx_setH A 0 H) → Q 1 σ1) (hg : kg A σ) : kw_L_follows_920 Q σ (mf_now (kx_M A)) (nI (mp_N (kx_M A))) 1 := by
  have hN : mp_N (kx_M A) ≤ 12 := (kg_ok hg).1
  obtain ⟨h, H, hv⟩ := hg
  unfold kw_L_follows_920
  refine kb_ne (by decide) ?_
  refine l0_restore (s := 1) hv (by decide) hb (fun σ1 h1 => kb_eq ?_ ?_)
  · show lN (mp_N (kx_B A 1)) = (nI (mp_N (kx_M A))).toInt64
    rw [hB, nI_l (by omega)]
  have e : kx_rest (kx_setH A h H) 1 = kx_setH A 0 H := by
    show (A.1, kx_B A 1, (0, H), A.2.2.2) = (A.1, A.2.1, (0, H), A.2.2.2)
    rw [hB]
    rfl
  rw [e] at h1
  refine l_now h1 (fun σ2 h2 => kb_eq rfl ?_)
  exact x_undo h2 rfl (fun σ3 h3 => kb_eq rfl (k H σ3 h3))
theorem lf_875 {σ : ka_S} {A : ma_X} {i : Nat} {Q : Int32 → ka_S → Prop} (hb : kx_b A 1 = 1) (hB : kx_B A 1 = kx_M A) (k : ∀ H σ1, kv σ1 (kx_setH A 0 H) → Q 1 σ1) (hi : i < mp_N (kx_M A)) (hg : kg A σ) : kw_L_follows_875 Q σ (mf_now (kx_M A)) (nI (mp_N (kx_M A))) 1 (nI i) := by
  have hN : mp_N (kx_M A) ≤ 12 := (kg_ok hg).1
  obtain ⟨h, H, hv⟩ := hg
  unfold kw_L_follows_875
  refine kb_ne (by decide) ?_
  refine l0_remove hv hi (fun σ1 h1 => kb_eq ?_ ?_)
  · show lN (mp_N (kx_M A) - 1) = (nI (mp_N (kx_M A))).toInt64 - 1
    rw [nI_l (by omega), lN_m1 (by omega)]
  refine l_undop h1 kx_act_h (fun _ σ2 h2 => ?_)
  exact l_nowp (kg_un1 h2) (fun _ σ3 h3 => lf_920 hb hB k h3)
theorem lf_805 {σ : ka_S} {A : ma_X} {i p : Nat} {Q : Int32 → ka_S → Prop} (hb : kx_b A 1 = 1) (hB : kx_B A 1 = kx_M A) (k : ∀ H σ1, kv σ1 (kx_setH A 0 H) → Q 1 σ1) (so : mp_so (kx_M A)) (hi : i < mp_N (kx_M A)) (hp : p < mw_S (mp_D (kx_M A) i)) (hg : kg A σ) :
    kw_L_follows_805 Q σ (mf_now (kx_M A)) (nI (mp_N (kx_M A))) 1 (nI i) (nI p) (mi_part (kx_M A) i p 3).toInt64 (lN (mp_L (kx_M A))) := by
  have ok := kg_ok hg
  have hL := ok.2.1
  unfold kw_L_follows_805
  rcases mi_part_3 (i := i) (p := p) ok with ⟨q, e⟩ | ⟨q, e⟩
  · exact kb_eq e (lf_875 hb hB k hi hg)
  · obtain ⟨h, H, hv⟩ := hg
    rw [e]
    refine kb_ne (kI_9l (by omega)) (kb_ne (by decide) ?_)
    rw [lN_i]
    refine l0_forget hv q (fun σ1 h1 => kb_eq ?_ ?_)
    · exact (lN_m1 (show 1 ≤ mp_L (kx_M A) by omega)).symm
    refine l0_part (k := 3) h1 hi hp (by decide) (fun σ2 h2 => kb_eq ?_ ?_)
    · rcases mi_part_3 (i := i) (p := p) h2.1.2.2.1 with ⟨_, e3⟩ | ⟨q3, _⟩
      · exact e3
      · refine absurd q3 ?_
        have f := mp_forget_find so q
        rw [mq_find_at q] at f
        exact f
    refine l_undop h2 kx_act_h (fun _ σ3 h3 => ?_)
    exact l_nowp (kg_un1 h3) (fun _ σ4 h4 => lf_875 hb hB k hi h4)
theorem lf_718 {σ : ka_S} {A X : ma_X} {i p : Nat} {v4 : Int32} {v23 v25 t0 t1 t2 : Int64} {Q : Int32 → ka_S → Prop} (hv : kv σ X) (hn : kx_h X ≠ 0) (hu : ∀ σ1, kv σ1 (kx_undo X) → kg A σ1) (hi : i < mp_N (kx_M X)) (hp : p < mw_S (mp_D (kx_M X) i))
    (hf : mq_find (kx_M X) (mw_P (mp_D (kx_M X) i) p) < mp_L (kx_M X)) (hB' : mp_B (kx_M X) (mq_find (kx_M X) (mw_P (mp_D (kx_M X) i) p)) = mw_G (mp_D (kx_M X) i) p) (e : t0 = t1 + t2)
    (fin : ∀ σ1, kg A σ1 → kw_L_follows_805 Q σ1 (mf_now (kx_M A)) v4 1 (nI i) (nI p) v23 v25) : kw_L_follows_718 Q σ (mf_now (kx_M A)) v4 (nI i) (nI p) v23 v25 t0 t1 t2 := by
  have ok := hv.1.2.2.1
  have hL := ok.2.1
  have b8 := mt_about_lt ok 8
  unfold kw_L_follows_718
  refine kb_eq e ?_
  rcases mi_part_3 (i := i) (p := p) ok with ⟨q, e3⟩ | ⟨q, e3⟩
  · exact absurd hf q
  refine l0_part (k := 3) hv hi hp (by decide) (fun σ1 h1 => kb_ne ?_ ?_)
  · rw [e3]
    exact kI_9l (by omega)
  refine l0_part (k := 3) h1 hi hp (by decide) (fun σ2 h2 => ?_)
  rw [e3, lN_i]
  refine l0_entry (b := 1) (d := 0) h2 (by decide) q (by decide) (fun σ3 h3 => ?_)
  refine l0_letter (b := 1) (d := 0) h3 (by decide) hi hp (by decide) (fun σ4 h4 => kb_eq ?_ ?_)
  · show (mi_let (mp_B (kx_M X) (mq_find (kx_M X) (mw_P (mp_D (kx_M X) i) p))) 0).toInt64 = (mi_let (mw_G (mp_D (kx_M X) i) p) 0).toInt64
    rw [hB']
  refine l0_about (k := 8) h4 (by decide) (fun σ5 h5 => ?_)
  refine kb_lLT (mt_about (kx_M X) 8) 0 (fun q => absurd q (Nat.not_lt_zero _)) (fun _ => ?_)
  refine l_undop h5 hn (fun _ σ6 h6 => ?_)
  exact l_nowp (hu σ6 h6) (fun _ σ7 h7 => fin σ7 h7)
theorem lf_689 {σ : ka_S} {A : ma_X} {i p : Nat} {Q : Int32 → ka_S → Prop} (hb : kx_b A 1 = 1) (hB : kx_B A 1 = kx_M A) (k : ∀ H σ1, kv σ1 (kx_setH A 0 H) → Q 1 σ1) (so : mp_so (kx_M A)) (hi : i < mp_N (kx_M A)) (hp : p < mw_S (mp_D (kx_M A) i)) (hl : mc_learn (kx_M A) i p) (hg : kg A σ) :
    kw_L_follows_689 Q σ (mf_now (kx_M A)) (nI (mp_N (kx_M A))) 1 (nI i) (nI p) (mi_part (kx_M A) i p 3).toInt64 (lN (mp_L (kx_M A))) := by
  have ok := kg_ok hg
  have hL := ok.2.1
  have okp := (ok.2.2.2.2.2.1 i hi).2.2.2.2.1 p hp
  have eD : mp_D (mp_learn (kx_M A) (mw_P (mp_D (kx_M A) i) p) (mw_G (mp_D (kx_M A) i) p)) i = (mp_D (kx_M A) i) := congrFun mp_learn_D i
  have lB := mp_learn_B (l := mw_P (mp_D (kx_M A) i) p) (g := mw_G (mp_D (kx_M A) i) p) ok so okp.1.g
  have lL := mp_learn_L (M := kx_M A) (l := mw_P (mp_D (kx_M A) i) p) (g := mw_G (mp_D (kx_M A) i) p)
  obtain ⟨h, H, hv⟩ := hg
  unfold kw_L_follows_689
  refine kb_ne (by decide) ?_
  refine l0_learn hv hi hp hl (fun σ1 h1 => ?_)
  have key : ∀ t2 : Int64, lN (mp_L (mp_learn (kx_M A) (mw_P (mp_D (kx_M A) i) p) (mw_G (mp_D (kx_M A) i) p))) = lN (mp_L (kx_M A)) + t2 → kw_L_follows_718 Q σ1 (mf_now (kx_M A)) (nI (mp_N (kx_M A))) (nI i) (nI p) (mi_part (kx_M A) i p 3).toInt64 (lN (mp_L (kx_M A))) (lN (mp_L (mp_learn (kx_M A) (mw_P (mp_D (kx_M A) i) p) (mw_G (mp_D (kx_M A) i) p)))) (lN (mp_L (kx_M A))) t2 := fun t2 e =>
    lf_718 (X := kx_act (kx_setH A h H) (mp_learn (kx_M A) (mw_P (mp_D (kx_M A) i) p) (mw_G (mp_D (kx_M A) i) p))) h1 kx_act_h (fun σ2 h2 => kg_un1 h2)
      (show i < mp_N (mp_learn (kx_M A) (mw_P (mp_D (kx_M A) i) p) (mw_G (mp_D (kx_M A) i) p)) by rw [mp_learn_N]; exact hi)
      (show p < mw_S (mp_D (mp_learn (kx_M A) (mw_P (mp_D (kx_M A) i) p) (mw_G (mp_D (kx_M A) i) p)) i) by rw [eD]; exact hp)
      (show mq_find (mp_learn (kx_M A) (mw_P (mp_D (kx_M A) i) p) (mw_G (mp_D (kx_M A) i) p)) (mw_P (mp_D (mp_learn (kx_M A) (mw_P (mp_D (kx_M A) i) p) (mw_G (mp_D (kx_M A) i) p)) i) p) < mp_L (mp_learn (kx_M A) (mw_P (mp_D (kx_M A) i) p) (mw_G (mp_D (kx_M A) i) p)) by rw [eD]; exact lB.1)
      (show mp_B (mp_learn (kx_M A) (mw_P (mp_D (kx_M A) i) p) (mw_G (mp_D (kx_M A) i) p)) (mq_find (mp_learn (kx_M A) (mw_P (mp_D (kx_M A) i) p) (mw_G (mp_D (kx_M A) i) p)) (mw_P (mp_D (mp_learn (kx_M A) (mw_P (mp_D (kx_M A) i) p) (mw_G (mp_D (kx_M A) i) p)) i) p)) = mw_G (mp_D (mp_learn (kx_M A) (mw_P (mp_D (kx_M A) i) p) (mw_G (mp_D (kx_M A) i) p)) i) p by rw [eD]; exact lB.2)
      e (fun σ2 h2 => lf_805 hb hB k so hi hp h2)
  rcases mi_part_3 (i := i) (p := p) ok with ⟨q, e3⟩ | ⟨q, e3⟩
  · rw [if_neg q] at lL
    exact kb_eq e3 (key 1 (by rw [lL]; exact (lN_add _ 1).symm))
  · rw [if_pos q] at lL
    exact kb_ne (by rw [e3]; exact kI_9l (by omega)) (key 0 (by rw [lL]; exact (lN_add _ 0).symm))
theorem lf_636 {σ : ka_S} {A : ma_X} {i p : Nat} {Q : Int32 → ka_S → Prop} (hb : kx_b A 1 = 1) (hB : kx_B A 1 = kx_M A) (k : ∀ H σ1, kv σ1 (kx_setH A 0 H) → Q 1 σ1) (so : mp_so (kx_M A)) (hi : i < mp_N (kx_M A)) (hp : p < mw_S (mp_D (kx_M A) i)) (hg : kg A σ) :
    kw_L_follows_636 Q σ (mf_now (kx_M A)) (nI (mp_N (kx_M A))) (nI i) (nI p) 1 := by
  have ok := kg_ok hg
  have hL := ok.2.1
  have l2 : (mw_G (mp_D (kx_M A) i) p).length ≤ 8 := ((ok.2.2.2.2.2.1 i hi).2.2.2.2.1 p hp).2.1.1
  obtain ⟨h, H, hv⟩ := hg
  unfold kw_L_follows_636
  refine l0_part (k := 3) hv hi hp (by decide) (fun σ1 h1 => ?_)
  refine l0_about (k := 7) h1 (by decide) (fun σ2 h2 => ?_)
  refine l0_part (k := 1) h2 hi hp (by decide) (fun σ3 h3 => ?_)
  have hg3 : kg A σ3 := ⟨h, H, h3⟩
  refine kb_lLE (mw_G (mp_D (kx_M A) i) p).length 0 (fun _ => lf_805 hb hB k so hi hp hg3) (fun z => ?_) (nI_l (show (mw_G (mp_D (kx_M A) i) p).length < 2 ^ 31 by omega)) rfl
  have hG : mw_G (mp_D (kx_M A) i) p ≠ [] := fun q => by
    rw [q] at z
    exact absurd z (Nat.not_lt_zero _)
  rcases mi_part_3 (i := i) (p := p) ok with ⟨q, e3⟩ | ⟨q, e3⟩
  · refine kb_eq e3 ?_
    refine kb_lLE 16 (mp_L (kx_M A)) (fun _ => lf_805 hb hB k so hi hp hg3) (fun z2 => ?_)
    exact lf_689 hb hB k so hi hp ⟨hG, Or.inl z2⟩ hg3
  · exact kb_ne (fun z2 => kI_9l (show mq_find (kx_M A) (mw_P (mp_D (kx_M A) i) p) < 2 ^ 31 by omega) (e3.symm.trans z2)) (lf_689 hb hB k so hi hp ⟨hG, Or.inr q⟩ hg3)
