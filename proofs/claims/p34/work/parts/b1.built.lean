/-! ===== built: the parts of a word ===== -/
theorem l_in {σ : ka_S} {x y z : Int64} {Q : Int32 → ka_S → Prop} (a b c : Nat) (hb : b ≤ a) (hc : a ≤ c) (h : Q 1 σ) (ex : x = lN a := by rfl) (ey : y = lN b := by rfl) (ez : z = lN c := by rfl) (h2 : c < 2 ^ 63 := by omega) : kw_L_in σ x y z Q := by
  unfold kw_L_in
  exact kb_lLT a b (fun q => absurd q (by omega)) (fun _ => kb_lLT c a (fun q => absurd q (by omega)) (fun _ => h) ez ex) ex ey
theorem mi_part_3 {M : ma_P} {i p : Nat} (ok : mp_ok M) : (¬ mq_find M (mw_P (mp_D M i) p) < mp_L M ∧ (mi_part M i p 3).toInt64 = -9) ∨ (mq_find M (mw_P (mp_D M i) p) < mp_L M ∧ (mi_part M i p 3).toInt64 = lN (mq_find M (mw_P (mp_D M i) p))) := by
  have hL := ok.2.1
  have e : mi_part M i p 3 = mi_find M (mw_P (mp_D M i) p) := rfl
  rw [e]
  by_cases q : mq_find M (mw_P (mp_D M i) p) < mp_L M
  · refine Or.inr ⟨q, ?_⟩
    rw [mi_find_in q]
    exact nI_l (by omega)
  · refine Or.inl ⟨q, ?_⟩
    rw [(mi_find_9 ok).mpr q]
    rfl
theorem lb_570 {σ : ka_S} {A : ma_X} {i p : Nat} {v1 : Int32} {v2 v4 v6 v8 v10 v12 v16 v28 v30 : Int64} {K38 : ka_S → Int32 → Int64 → Int64 → Int64 → Int64 → Int64 → Int64 → Int32 → Int32 → Prop} {K381 : ka_S → Int32 → Int64 → Int64 → Int64 → Int64 → Int64 → Int64 → Int32 → Int32 → Int64 → Int64 → Int64 → Int32 → Prop} {Q : Int32 → ka_S → Prop}
    (hv : kv σ A) (hi : i < mp_N (kx_M A)) (hp : p < mw_S (mp_D (kx_M A) i)) (h : ∀ σ1, kv σ1 A → K381 σ1 v1 v2 v4 v6 v8 v10 v12 1 (nI i) v16 v28 v30 (nI (p + 1))) : kw_L_built_570 K38 K381 Q σ v1 v2 v4 v6 v8 v10 v12 (nI i) v16 v28 v30 (nI p) := by
  have okw := hv.1.2.2.1.2.2.2.2.2.1 i hi
  have hS := okw.1
  unfold kw_L_built_570
  refine kb_i p 0 (fun q => ?_) (fun q => ?_)
  · subst q
    refine l0_part (k := 2) hv hi hp (by decide) (fun σ1 h1 => ?_)
    refine kb_eq rfl (fun x ex => ?_)
    subst ex
    exact h σ1 h1
  · have e : mi_part (kx_M A) i p 2 = nI (mw_M (mp_D (kx_M A) i) p) := if_neg q
    have hm := (okw.2.2.2.2.1 p hp).2.2 (by omega)
    refine l0_part (k := 2) hv hi hp (by decide) (fun σ1 h1 => ?_)
    rw [e]
    rcases hm with hm | hm
    · rw [hm]
      refine kb_eq rfl (fun x ex => ?_)
      rw [nI_1] at ex
      subst ex
      exact h σ1 h1
    · rw [hm]
      refine kb_ne (by decide) ?_
      refine l0_part (k := 2) h1 hi hp (by decide) (fun σ2 h2 => ?_)
      rw [e, hm]
      refine kb_eq rfl (fun x ex => ?_)
      rw [nI_1] at ex
      subst ex
      exact h σ2 h2
theorem lb_524 {σ : ka_S} {A : ma_X} {i p : Nat} {v1 : Int32} {v2 v4 v6 v8 v10 v12 v16 v28 v30 : Int64} {K38 : ka_S → Int32 → Int64 → Int64 → Int64 → Int64 → Int64 → Int64 → Int32 → Int32 → Prop} {K381 : ka_S → Int32 → Int64 → Int64 → Int64 → Int64 → Int64 → Int64 → Int32 → Int32 → Int64 → Int64 → Int64 → Int32 → Prop} {Q : Int32 → ka_S → Prop}
    (hv : kv σ A) (hi : i < mp_N (kx_M A)) (hp : p < mw_S (mp_D (kx_M A) i)) (h : ∀ σ1, kv σ1 A → K381 σ1 v1 v2 v4 v6 v8 v10 v12 1 (nI i) v16 v28 v30 (nI (p + 1))) : kw_L_built_524 K38 K381 Q σ v1 v2 v4 v6 v8 v10 v12 (nI i) v16 v28 v30 (nI p) := by
  have ok := hv.1.2.2.1
  have hL := ok.2.1
  unfold kw_L_built_524
  refine l0_part (k := 3) hv hi hp (by decide) (fun σ1 h1 => ?_)
  rcases mi_part_3 (i := i) (p := p) ok with ⟨q, e⟩ | ⟨q, e⟩
  · exact kb_eq e (lb_570 h1 hi hp h)
  · refine kb_ne (by rw [e]; exact kI_9l (by omega)) ?_
    refine l0_part (k := 3) h1 hi hp (by decide) (fun σ2 h2 => ?_)
    rw [e, lN_i]
    refine l0_entry (b := 0) (d := 0) h2 (by decide) q (by decide) (fun σ3 h3 => ?_)
    refine l0_letter (b := 0) (d := 0) h3 (by decide) hi hp (by decide) (fun σ4 h4 => ?_)
    refine kb_eq ?_ (lb_570 h4 hi hp h)
    show (mi_let (mp_A (kx_M A) (mq_find (kx_M A) (mw_P (mp_D (kx_M A) i) p))) 0).toInt64 = (mi_let (mw_P (mp_D (kx_M A) i) p) 0).toInt64
    rw [mq_find_at q]
theorem lb_639 {σ : ka_S} {i : Nat} {v1 : Int32} {v2 v4 v6 v8 v10 v12 : Int64} {K38 : ka_S → Int32 → Int64 → Int64 → Int64 → Int64 → Int64 → Int64 → Int32 → Int32 → Prop} {Q : Int32 → ka_S → Prop} {a b c : Nat}
    (hi : i < 12) (h1 : b ≤ a) (h2 : a ≤ c) (h3 : c < 2 ^ 31) (h : K38 σ v1 v2 v4 v6 v8 v10 v12 1 (nI (i + 1))) : kw_L_built_639 K38 Q σ v1 v2 v4 v6 v8 v10 v12 1 (nI i) (lN a) (lN b) (lN c) := by
  unfold kw_L_built_639
  refine kb_ne (by decide) ?_
  refine kb_lLT a b (fun q => absurd q (by omega)) (fun _ => kb_lLT c a (fun q => absurd q (by omega)) (fun _ x ex => ?_))
  rw [nI_1] at ex
  subst ex
  exact h
theorem mf_most_le {w : ma_W} (ok : mw_ok w) : ∀ n, n ≤ mw_S w → ma_sum (mf_most w) n ≤ n * 17
  | 0, _ => Nat.le_refl _
  | n + 1, hn => by
    have ih := mf_most_le ok n (by omega)
    have hp := (ok.2.2.2.2.1 n (by omega))
    have h1 : (mw_P w n).length ≤ 8 := hp.1.2.1
    have h2 : (mw_G w n).length ≤ 8 := hp.2.1.1
    show ma_sum (mf_most w) n + ((mw_P w n).length + (mw_G w n).length + 1) ≤ _
    omega
theorem lb_381 {A : ma_X} {i : Nat} {v1 : Int32} {v2 v4 v6 v8 v10 v12 : Int64} {K38 : ka_S → Int32 → Int64 → Int64 → Int64 → Int64 → Int64 → Int64 → Int32 → Int32 → Prop} {Q : Int32 → ka_S → Prop}
    (hi : i < mp_N (kx_M A)) (h : ∀ σ1, kv σ1 A → K38 σ1 v1 v2 v4 v6 v8 v10 v12 1 (nI (i + 1))) : ∀ (m p : Nat), p + m = mw_S (mp_D (kx_M A) i) → ∀ (σ : ka_S), kv σ A → ∀ (v28 v30 : Int64), v28 = lN (mw_S (mp_D (kx_M A) i) - 1 + ma_sum (mf_p (mp_D (kx_M A) i)) p) → v30 = lN (mw_S (mp_D (kx_M A) i) - 1 + ma_sum (mf_most (mp_D (kx_M A) i)) p) →
      kw_L_built_381 K38 Q (m + 1) σ v1 v2 v4 v6 v8 v10 v12 1 (nI i) (lN (mt_width (mp_D (kx_M A) i) (mp_Y (kx_M A)))) v28 v30 (nI p) := by
  intro m
  induction m with
  | zero =>
    intro p hp σ hv v28 v30 e28 e30
    subst e28 e30
    have ok := hv.1.2.2.1
    have hN := ok.1
    have okw := ok.2.2.2.2.2.1 i hi
    have hS := okw.1
    rw [kw_L_built_381]
    refine l0_word (k := 0) hv hi (by decide) (fun σ1 h1 => ?_)
    obtain rfl : p = mw_S (mp_D (kx_M A) i) := by omega
    refine kb_lLE (mw_S (mp_D (kx_M A) i)) (mw_S (mp_D (kx_M A) i)) (fun _ => ?_) (fun q => absurd q (by omega)) rfl (nI_l (by omega))
    have hm := mf_most_le okw (mw_S (mp_D (kx_M A) i)) (Nat.le_refl _)
    exact lb_639 (by omega) (mt_width_ge _) (mt_width_most _) (by omega) (h σ1 h1)
  | succ m ih =>
    intro p hp σ hv v28 v30 e28 e30
    have ok := hv.1.2.2.1
    have hN := ok.1
    have okw := ok.2.2.2.2.2.1 i hi
    have hS := okw.1
    have hps : p < mw_S (mp_D (kx_M A) i) := by omega
    have hpp := okw.2.2.2.2.1 p hps
    have l1 : 1 ≤ (mw_P (mp_D (kx_M A) i) p).length ∧ (mw_P (mp_D (kx_M A) i) p).length ≤ 8 := ⟨by
      have := hpp.1.1
      rcases Nat.eq_zero_or_pos (mw_P (mp_D (kx_M A) i) p).length with z | z
      · exact absurd (List.length_eq_zero_iff.mp z) this
      · exact z, hpp.1.2.1⟩
    have l2 : (mw_G (mp_D (kx_M A) i) p).length ≤ 8 := hpp.2.1.1
    have hm := mf_most_le okw (p + 1) (by omega)
    have hm2 := ma_sum_le2 (f := mf_p (mp_D (kx_M A) i)) (g := mf_most (mp_D (kx_M A) i)) (p + 1) (fun k _ => by unfold mf_most; omega)
    have e0 : (mi_part (kx_M A) i p 0).toInt64 = lN (mw_P (mp_D (kx_M A) i) p).length := nI_l (by omega)
    have e1 : (mi_part (kx_M A) i p 1).toInt64 = lN (mw_G (mp_D (kx_M A) i) p).length := nI_l (by omega)
    have s1 : ma_sum (mf_p (mp_D (kx_M A) i)) (p + 1) = ma_sum (mf_p (mp_D (kx_M A) i)) p + (mw_P (mp_D (kx_M A) i) p).length := rfl
    have s2 : ma_sum (mf_most (mp_D (kx_M A) i)) (p + 1) = ma_sum (mf_most (mp_D (kx_M A) i)) p + ((mw_P (mp_D (kx_M A) i) p).length + (mw_G (mp_D (kx_M A) i) p).length + 1) := rfl
    rw [kw_L_built_381]
    refine l0_word (k := 0) hv hi (by decide) (fun σ1 h1 => ?_)
    refine kb_lLE (mw_S (mp_D (kx_M A) i)) p (fun q => absurd q (by omega)) (fun _ => ?_) rfl (nI_l (by omega))
    refine kb_ne (by decide) ?_
    refine l0_part (k := 0) h1 hi hps (by decide) (fun σ2 h2 => ?_)
    rw [e0]
    refine l0_part (k := 1) h2 hi hps (by decide) (fun σ3 h3 => ?_)
    rw [e1]
    intro y1 ey1 y2 ey2
    have g1 : y1 = lN (mw_S (mp_D (kx_M A) i) - 1 + ma_sum (mf_p (mp_D (kx_M A) i)) (p + 1)) := by
      rw [ey1, e28, lN_add, s1]
      congr 1
      omega
    have g2 : y2 = lN (mw_S (mp_D (kx_M A) i) - 1 + ma_sum (mf_most (mp_D (kx_M A) i)) (p + 1)) := by
      rw [ey2, e30, s2, show (1 : Int64) = lN 1 from rfl, lN_add, lN_add, lN_add]
      congr 1
      omega
    refine l_in _ 1 8 l1.1 l1.2 (kb_ne (by decide) ?_)
    refine l_in _ 0 8 (Nat.zero_le _) l2 (kb_ne (by decide) ?_)
    rw [lN_i]
    refine l0_letter (b := 0) h3 (by decide) hi hps (by omega) (fun σ4 h4 => ?_)
    refine kb_eq (kI_let_n (Nat.le_refl _)) ?_
    rw [show nI (mw_P (mp_D (kx_M A) i) p).length - (1 : Int32) = nI ((mw_P (mp_D (kx_M A) i) p).length - 1) from pk_sub (b := 1) l1.1]
    refine l0_letter (b := 0) h4 (by decide) hi hps (by omega) (fun σ5 h5 => ?_)
    have kl := kI_let (d := (mw_P (mp_D (kx_M A) i) p).length - 1) hpp.1.g (by omega)
    refine kb_ne ?_ ?_
    · show ¬ (mi_let (mw_P (mp_D (kx_M A) i) p) ((mw_P (mp_D (kx_M A) i) p).length - 1)).toInt64 = -9
      rw [kl.1]
      exact kI_9l (by omega)
    rw [lN_i]
    refine l0_letter (b := 1) h5 (by decide) hi hps (by omega) (fun σ6 h6 => ?_)
    refine kb_eq (kI_let_n (Nat.le_refl _)) ?_
    exact lb_524 h6 hi hps (fun σ7 h7 => ih (p + 1) (by omega) σ7 h7 y1 y2 g1 g2)
