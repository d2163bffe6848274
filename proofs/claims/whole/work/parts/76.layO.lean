/-! ===== the reference lays out: a word ===== -/
theorem sp_X9_layOut_211 {σ0 σ : ka_S} {a : ka_K} {W y k c F R : Nat} {v3 v5 v6 : Int32} {M : ma_P} {K : ka_S → Int32 → Int32 → Int32 → Int32 → Int32 → Int32 → Prop} {Q : ka_S → Prop} (hn : ka_n a = 253) (h36 : 36 ≤ a.1) (ok : mp_ok M) (hW : 10 ≤ W ∧ W ≤ 60) (hk : k < mp_N M)
    (g : mg_geo M W y k c F R) (h6 : v6 = nI F) (ha : ag xy σ0 σ) (hp : rd_P σ a M) (hA : rd_An σ M W y (k + 1)) (hJ : rd_J σ M W y c R) (h12 : σ.1 (25, 0, 0) 12 = nI R) (h13 : σ.1 (25, 0, 0) 13 = nI (ma_sum (mf_sent M) k))
    (hend : mw_E (mp_D M k) = 1 ∨ k + 1 = mp_N M)
    (h : ∀ σ', ag xy σ0 σ' → rd_P σ' a M → rd_An σ' M W y (k + 1) → rd_J σ' M W y (k + 1) (tr (mt_lay M W y (k + 1))) → σ'.1 (25, 0, 0) 12 = nI (tr (mt_lay M W y (k + 1))) → σ'.1 (25, 0, 0) 13 = nI (ma_sum (mf_sent M) (k + 1)) → K σ' (nI W) v3 1 v5 v6 (nI (k + 1))) :
    kw_X9_layOut_211 a K Q σ (nI W) v3 v5 v6 (nI k) 1 := by
  have hN := ok.1
  have okw := ok.2.2.2.2.2.1 k hk
  have b := mt_lay_le (y := y) ok hW k (by omega)
  have b1 := mt_lay_le (y := y) ok hW (k + 1) (by omega)
  obtain ⟨s1, s2, s3⟩ := mg_step ok hW hk g
  have hfr : (mw_F (mp_D M k) + W - 1) / W = mf_row (mp_D M k) W := rfl
  have e1 := ml_tl (y := y) ok hW hk
  have ek := s1 k g.1 (Nat.lt_succ_self k)
  unfold kw_X9_layOut_211
  refine ⟨fun q => absurd q (by decide), fun _ => ⟨13, ?_⟩⟩
  rw [h6]
  refine sp_X9_layOut_222 (σ0 := σ) (R := R) (F := F) (L := tl (mt_lay M W y (k + 1))) hn h36 ok hp hk rfl hA.1 (by omega) (by omega) (fun σ1 a1 r1 o1 n1 => ⟨5, ?_⟩) 13 F σ (Nat.le_refl _) (by omega) (by omega) ag_refl ?_ (fun j k o f _ hz => hz) (fun l' h1 h2 => by omega)
  · have e13 : σ1.1 (25, 0, 0) 13 = nI (ma_sum (mf_sent M) k) := (a1 _ _ xrow_13).1.trans h13
    have e0 := sp_X9_layOut_267 (σ0 := σ1) (a := a) (v3 := v3) (v4 := 1) (v5 := v5) (v6 := v6) (k := k) (W := W) (B := R + 2 * (tl (mt_lay M W y (k + 1)) - F)) (G := ma_sum (mf_sent M) k) (F := mw_F (mp_D M k)) (K := K) (Q := Q) rfl hW okw.2.2.1 (by rw [hfr]; omega) e13 (fun σ2 a2 r2 o2 n2 => ?_) 5 0 σ1 (Nat.zero_le _) (by rw [hfr]; have := mf_row_le okw hW.1; omega) ag_refl r1 (fun j k o f _ hz => hz) (fun f hf => absurd hf (Nat.not_lt_zero f))
    · rw [Nat.zero_mul, h6] at e0
      exact e0
    · have a3 : ag xy σ (ka_wI σ2 (25, 0, 0) 13 (nI (ma_sum (mf_sent M) k + 1))) := ag_I (ag_mono (ag_trans a1 a2) xrow_y) (xy_25 (by decide) (by decide))
      have hrw : ∀ r k o f, rd_row σ2 r k o f → rd_row (ka_wI σ2 (25, 0, 0) 13 (nI (ma_sum (mf_sent M) k + 1))) r k o f := by
        intro r k' o f hz
        refine ⟨?_, ?_, ?_⟩
        · simp only [st_I, st_L, st_I2, st_L1, Prod.mk.injEq, Nat.reduceEqDiff, false_and, and_false, true_and, and_true, and_self, if_false, if_true, reduceIte]
          exact hz.1
        · simp only [st_I, st_L, st_I2, st_L1, Prod.mk.injEq, Nat.reduceEqDiff, false_and, and_false, true_and, and_true, and_self, if_false, if_true, reduceIte]
          exact hz.2.1
        · simp only [st_I, st_L, st_I2, st_L1, Prod.mk.injEq, Nat.reduceEqDiff, false_and, and_false, true_and, and_true, and_self, if_false, if_true, reduceIte]
          exact hz.2.2
      rw [hfr] at r2 n2
      refine h _ (ag_trans ha a3) (rd_P_xy h36 ok hp a3) ?_ (fun i hi => ?_) ?_ ?_
      · have hA2 := rd_An_ag hA (ag_trans a1 a2) xrow_11 xrow_27
        refine ⟨?_, fun i hi => ⟨?_, ?_, ?_, ?_⟩, fun l hl => ?_⟩
        · simp only [st_I, st_L, st_I2, st_L1, Prod.mk.injEq, Nat.reduceEqDiff, false_and, and_false, true_and, and_true, and_self, if_false, if_true, reduceIte]
          exact hA2.1
        · simp only [st_I, st_L, st_I2, st_L1, Prod.mk.injEq, Nat.reduceEqDiff, false_and, and_false, true_and, and_true, and_self, if_false, if_true, reduceIte]
          exact (hA2.2.1 i hi).1
        · simp only [st_I, st_L, st_I2, st_L1, Prod.mk.injEq, Nat.reduceEqDiff, false_and, and_false, true_and, and_true, and_self, if_false, if_true, reduceIte]
          exact (hA2.2.1 i hi).2.1
        · simp only [st_I, st_L, st_I2, st_L1, Prod.mk.injEq, Nat.reduceEqDiff, false_and, and_false, true_and, and_true, and_self, if_false, if_true, reduceIte]
          exact (hA2.2.1 i hi).2.2.1
        · simp only [st_I, st_L, st_I2, st_L1, Prod.mk.injEq, Nat.reduceEqDiff, false_and, and_false, true_and, and_true, and_self, if_false, if_true, reduceIte]
          exact (hA2.2.1 i hi).2.2.2
        · simp only [st_I, st_L, st_I2, st_L1, Prod.mk.injEq, Nat.reduceEqDiff, false_and, and_false, true_and, and_true, and_self, if_false, if_true, reduceIte]
          exact hA2.2.2 l hl
      · by_cases hc : i < c
        · obtain ⟨⟨j1, j2, j3⟩, j4⟩ := hJ i hc
          refine ⟨⟨by omega, hrw _ _ _ _ (o2 _ _ _ _ (by omega) (o1 _ _ _ _ (by omega) j2)), hrw _ _ _ _ (o2 _ _ _ _ (by omega) (o1 _ _ _ _ (by omega) j3))⟩, fun f hf => ?_⟩
          obtain ⟨j5, j6⟩ := j4 f hf
          exact ⟨by omega, hrw _ _ _ _ (o2 _ _ _ _ (by omega) (o1 _ _ _ _ (by omega) j6))⟩
        · obtain ⟨t1, t2⟩ := s1 i (by omega) hi
          have t3 : ml_line M W y i < tl (mt_lay M W y (k + 1)) := by
            have := ml_line_le (M := M) (W := W) (y := y) (show i ≤ k by omega)
            omega
          have t4 := n1 (ml_line M W y i) t2 t3
          rw [← t1] at t4
          refine ⟨⟨by omega, hrw _ _ _ _ (o2 _ _ _ _ (by omega) t4.1), hrw _ _ _ _ (o2 _ _ _ _ (by omega) t4.2)⟩, fun f hf => ?_⟩
          by_cases e : i = k
          · subst e
            have t5 := n2 f hf
            rw [show R + 2 * (tl (mt_lay M W y (i + 1)) - F) = ml_row M W y i + 2 by omega] at t5
            exact ⟨by omega, hrw _ _ _ _ t5⟩
          · have hte : mw_E (mp_D M i) = 0 := (g.2.2.2.1 i (by omega) (by omega)).2.2
            rw [mf_row0 (ok.2.2.2.2.2.1 i (by omega)) hW.1 hte] at hf
            exact absurd hf (Nat.not_lt_zero f)
      · simp only [st_I, st_L, st_I2, st_L1, Prod.mk.injEq, Nat.reduceEqDiff, false_and, and_false, true_and, and_true, and_self, if_false, if_true, reduceIte]
        rw [r2, s2]
      · simp only [st_I, st_L, st_I2, st_L1, Prod.mk.injEq, Nat.reduceEqDiff, false_and, and_false, true_and, and_true, and_self, if_false, if_true, reduceIte]
        show _ = nI (ma_sum (mf_sent M) k + (if mw_E (mp_D M k) = 1 ∨ k + 1 = mp_N M then 1 else 0))
        rw [if_pos hend]
  · rw [h12]; congr 1; omega
/-- behind the choice of the line -/
theorem sp_X9_layOut_123 {σ0 σ : ka_S} {a : ka_K} {W y k c F R : Nat} {v3 v6 v8 t2 : Int32} {M : ma_P} {K : ka_S → Int32 → Int32 → Int32 → Int32 → Int32 → Int32 → Prop} {Q : ka_S → Prop} (hn : ka_n a = 253) (h36 : 36 ≤ a.1) (ok : mp_ok M) (hW : 10 ≤ W ∧ W ≤ 60) (hk : k < mp_N M)
    (g : mg_geo M W y k c F R) (h6 : v6 = nI F) (h8 : v8 = nI (mt_width (mp_D M k) y)) (ht2 : t2 = nI (ml_col M W y k)) (ha : ag xy σ0 σ) (hp : rd_P σ a M) (h11 : σ.1 (25, 0, 0) 11 = nI (tl (mt_lay M W y (k + 1))))
    (hA : ∀ i, i < k → σ.1 (27, 0, 0) i = nI (ml_line M W y i) ∧ σ.1 (28, 0, 0) i = nI (ml_col M W y i) ∧ σ.1 (29, 0, 0) i = nI (mt_width (mp_D M i) y) ∧ σ.1 (30, 0, 0) i = nI (ml_sent M W y i))
    (hAl : ∀ l, l < tl (mt_lay M W y k) → σ.1 (31, 0, 0) l = nI (mt_len M W y k l)) (hJ : rd_J σ M W y c R) (h12 : σ.1 (25, 0, 0) 12 = nI R) (h13 : σ.1 (25, 0, 0) 13 = nI (ma_sum (mf_sent M) k))
    (h : ∀ σ' c' F' R' v4, ag xy σ0 σ' → rd_P σ' a M → rd_An σ' M W y (k + 1) → rd_J σ' M W y c' R' → σ'.1 (25, 0, 0) 12 = nI R' → σ'.1 (25, 0, 0) 13 = nI (ma_sum (mf_sent M) (k + 1)) → mg_geo M W y (k + 1) c' F' R' → (k + 1 < mp_N M → v4 = nI (te (mt_lay M W y (k + 1)))) →
      (k + 1 < mp_N M → te (mt_lay M W y (k + 1)) = 0 → v6 = nI F') → K σ' (nI W) v3 v4 (nI (tx (mt_lay M W y (k + 1)))) v6 (nI (k + 1))) :
    kw_X9_layOut_123 a K Q σ (nI W) v3 v6 (nI k) v8 (nI k) t2 := by
  have hN := ok.1
  have okw := ok.2.2.2.2.2.1 k hk
  have hE := okw.2.1
  have b := mt_lay_le (y := y) ok hW k (by omega)
  have b1 := mt_lay_le (y := y) ok hW (k + 1) (by omega)
  obtain ⟨s1, s2, s3⟩ := mg_step ok hW hk g
  have hv : vp_in (nI k) 12 := (kI_in (by omega)).mpr (by omega)
  have e1 := ml_tl (y := y) ok hW hk
  have hm1 : nI (tl (mt_lay M W y (k + 1))) - (1 : Int32) = nI (ml_line M W y k) := by rw [kI_lit, pk_sub (by omega)]; rfl
  have hs : ml_sent M W y k = ma_sum (mf_sent M) k := mt_ts ok k hk
  subst h8 ht2
  unfold kw_X9_layOut_123
  rw [nI_clamp (by omega)]
  refine ⟨hv, ?_⟩
  rw [forall_eq]
  refine ⟨hv, ?_⟩
  rw [forall_eq]
  refine ⟨hv, ?_⟩
  have q1 : (ka_wI (ka_wI σ (28, 0, 0) k (nI (ml_col M W y k))) (29, 0, 0) k (nI (mt_width (mp_D M k) y))).1 (25, 0, 0) 11 = nI (tl (mt_lay M W y (k + 1))) := by
    simp only [st_I, st_L, st_I2, st_L1, Prod.mk.injEq, Nat.reduceEqDiff, false_and, and_false, true_and, and_true, and_self, if_false, if_true, reduceIte]
    exact h11
  rw [q1, hm1, forall_eq]
  refine ⟨hv, ?_⟩
  have q2 : (ka_wI (ka_wI (ka_wI σ (28, 0, 0) k (nI (ml_col M W y k))) (29, 0, 0) k (nI (mt_width (mp_D M k) y))) (27, 0, 0) k (nI (ml_line M W y k))).1 (25, 0, 0) 13 = nI (ml_sent M W y k) := by
    simp only [st_I, st_L, st_I2, st_L1, Prod.mk.injEq, Nat.reduceEqDiff, false_and, and_false, true_and, and_true, and_self, if_false, if_true, reduceIte]
    rw [h13, hs]
  rw [q2, forall_eq]
  refine ⟨hv, ?_⟩
  have q3 : (ka_wI (ka_wI (ka_wI (ka_wI σ (28, 0, 0) k (nI (ml_col M W y k))) (29, 0, 0) k (nI (mt_width (mp_D M k) y))) (27, 0, 0) k (nI (ml_line M W y k))) (30, 0, 0) k (nI (ml_sent M W y k))).1 (28, 0, 0) k = nI (ml_col M W y k) := by
    simp only [st_I, st_L, st_I2, st_L1, Prod.mk.injEq, Nat.reduceEqDiff, false_and, and_false, true_and, and_true, and_self, if_false, if_true, reduceIte]
  have q4 : (ka_wI (ka_wI (ka_wI (ka_wI σ (28, 0, 0) k (nI (ml_col M W y k))) (29, 0, 0) k (nI (mt_width (mp_D M k) y))) (27, 0, 0) k (nI (ml_line M W y k))) (30, 0, 0) k (nI (ml_sent M W y k))).1 (25, 0, 0) 11 = nI (tl (mt_lay M W y (k + 1))) := by
    simp only [st_I, st_L, st_I2, st_L1, Prod.mk.injEq, Nat.reduceEqDiff, false_and, and_false, true_and, and_true, and_self, if_false, if_true, reduceIte]
    exact h11
  rw [q3, nI_add, forall_eq, q4, hm1, nI_clamp (by omega), show ml_col M W y k + mt_width (mp_D M k) y = tx (mt_lay M W y (k + 1)) from rfl]
  refine ⟨(kI_in (by omega)).mpr (by omega), ?_⟩
  rw [forall_eq]
  have hg : ∀ τ, τ = ka_wI (ka_wI (ka_wI (ka_wI (ka_wI σ (28, 0, 0) k (nI (ml_col M W y k))) (29, 0, 0) k (nI (mt_width (mp_D M k) y))) (27, 0, 0) k (nI (ml_line M W y k))) (30, 0, 0) k (nI (ml_sent M W y k))) (31, 0, 0) (ml_line M W y k) (nI (tx (mt_lay M W y (k + 1)))) →
      ag xy σ0 τ ∧ rd_An τ M W y (k + 1) ∧ rd_J τ M W y c R ∧ τ.1 (25, 0, 0) 12 = nI R ∧ τ.1 (25, 0, 0) 13 = nI (ma_sum (mf_sent M) k) := by
    intro τ e
    subst e
    refine ⟨ag_I (ag_I (ag_I (ag_I (ag_I ha (xy_27 (by decide) (by decide))) (xy_27 (by decide) (by decide))) (xy_27 (by decide) (by decide))) (xy_27 (by decide) (by decide))) (xy_27 (by decide) (by decide)), ⟨?_, fun i hi => ⟨?_, ?_, ?_, ?_⟩, fun l hl => ?_⟩, fun i hi => ⟨⟨((hJ i hi).1).1, ⟨?_, ?_, ?_⟩, ⟨?_, ?_, ?_⟩⟩, fun f hf => ⟨((hJ i hi).2 f hf).1, ?_, ?_, ?_⟩⟩, ?_, ?_⟩
    · simp only [st_I, st_L, st_I2, st_L1, Prod.mk.injEq, Nat.reduceEqDiff, false_and, and_false, true_and, and_true, and_self, if_false, if_true, reduceIte]
      exact h11
    · simp only [st_I, st_L, st_I2, st_L1, Prod.mk.injEq, Nat.reduceEqDiff, false_and, and_false, true_and, and_true, and_self, if_false, if_true, reduceIte]
      by_cases e : i = k
      · rw [if_pos e, e]
      · rw [if_neg e]; exact (hA i (by omega)).1
    · simp only [st_I, st_L, st_I2, st_L1, Prod.mk.injEq, Nat.reduceEqDiff, false_and, and_false, true_and, and_true, and_self, if_false, if_true, reduceIte]
      by_cases e : i = k
      · rw [if_pos e, e]
      · rw [if_neg e]; exact (hA i (by omega)).2.1
    · simp only [st_I, st_L, st_I2, st_L1, Prod.mk.injEq, Nat.reduceEqDiff, false_and, and_false, true_and, and_true, and_self, if_false, if_true, reduceIte]
      by_cases e : i = k
      · rw [if_pos e, e]
      · rw [if_neg e]; exact (hA i (by omega)).2.2.1
    · simp only [st_I, st_L, st_I2, st_L1, Prod.mk.injEq, Nat.reduceEqDiff, false_and, and_false, true_and, and_true, and_self, if_false, if_true, reduceIte]
      by_cases e : i = k
      · rw [if_pos e, e]
      · rw [if_neg e]; exact (hA i (by omega)).2.2.2
    · simp only [st_I, st_L, st_I2, st_L1, Prod.mk.injEq, Nat.reduceEqDiff, false_and, and_false, true_and, and_true, and_self, if_false, if_true, reduceIte]
      show _ = nI (if l = ml_line M W y k then tx (mt_lay M W y (k + 1)) else mt_len M W y k l)
      by_cases e : l = ml_line M W y k
      · rw [if_pos e, if_pos e]
      · rw [if_neg e, if_neg e]
        refine hAl l ?_
        have : tl (mt_lay M W y (k + 1)) = if mf_fit M W y (mt_lay M W y k) k then tl (mt_lay M W y k) else tl (mt_lay M W y k) + 1 := rfl
        by_cases z : mf_fit M W y (mt_lay M W y k) k
        · rw [if_pos z] at this; omega
        · rw [if_neg z] at this; omega
    · simp only [st_I, st_L, st_I2, st_L1, Prod.mk.injEq, Nat.reduceEqDiff, false_and, and_false, true_and, and_true, and_self, if_false, if_true, reduceIte]
      exact (hJ i hi).1.2.1.1
    · simp only [st_I, st_L, st_I2, st_L1, Prod.mk.injEq, Nat.reduceEqDiff, false_and, and_false, true_and, and_true, and_self, if_false, if_true, reduceIte]
      exact (hJ i hi).1.2.1.2.1
    · simp only [st_I, st_L, st_I2, st_L1, Prod.mk.injEq, Nat.reduceEqDiff, false_and, and_false, true_and, and_true, and_self, if_false, if_true, reduceIte]
      exact (hJ i hi).1.2.1.2.2
    · simp only [st_I, st_L, st_I2, st_L1, Prod.mk.injEq, Nat.reduceEqDiff, false_and, and_false, true_and, and_true, and_self, if_false, if_true, reduceIte]
      exact (hJ i hi).1.2.2.1
    · simp only [st_I, st_L, st_I2, st_L1, Prod.mk.injEq, Nat.reduceEqDiff, false_and, and_false, true_and, and_true, and_self, if_false, if_true, reduceIte]
      exact (hJ i hi).1.2.2.2.1
    · simp only [st_I, st_L, st_I2, st_L1, Prod.mk.injEq, Nat.reduceEqDiff, false_and, and_false, true_and, and_true, and_self, if_false, if_true, reduceIte]
      exact (hJ i hi).1.2.2.2.2
    · simp only [st_I, st_L, st_I2, st_L1, Prod.mk.injEq, Nat.reduceEqDiff, false_and, and_false, true_and, and_true, and_self, if_false, if_true, reduceIte]
      exact ((hJ i hi).2 f hf).2.1
    · simp only [st_I, st_L, st_I2, st_L1, Prod.mk.injEq, Nat.reduceEqDiff, false_and, and_false, true_and, and_true, and_self, if_false, if_true, reduceIte]
      exact ((hJ i hi).2 f hf).2.2.1
    · simp only [st_I, st_L, st_I2, st_L1, Prod.mk.injEq, Nat.reduceEqDiff, false_and, and_false, true_and, and_true, and_self, if_false, if_true, reduceIte]
      exact ((hJ i hi).2 f hf).2.2.2
    · simp only [st_I, st_L, st_I2, st_L1, Prod.mk.injEq, Nat.reduceEqDiff, false_and, and_false, true_and, and_true, and_self, if_false, if_true, reduceIte]
      exact h12
    · simp only [st_I, st_L, st_I2, st_L1, Prod.mk.injEq, Nat.reduceEqDiff, false_and, and_false, true_and, and_true, and_self, if_false, if_true, reduceIte]
      exact h13
  have hp3 := rd_P_xy h36 ok hp (ag_I (k := (31, 0, 0)) (j := ml_line M W y k) (x := nI (tx (mt_lay M W y (k + 1)))) (ag_I (k := (30, 0, 0)) (j := k) (x := nI (ml_sent M W y k)) (ag_I (k := (27, 0, 0)) (j := k) (x := nI (ml_line M W y k)) (ag_I (k := (29, 0, 0)) (j := k) (x := nI (mt_width (mp_D M k) y)) (ag_I (k := (28, 0, 0)) (j := k) (x := nI (ml_col M W y k)) (ag_refl (X := xy) (σ := σ)) (xy_27 (by decide) (by decide))) (xy_27 (by decide) (by decide))) (xy_27 (by decide) (by decide))) (xy_27 (by decide) (by decide))) (xy_27 (by decide) (by decide)))
  generalize ka_wI (ka_wI (ka_wI (ka_wI (ka_wI σ (28, 0, 0) k (nI (ml_col M W y k))) (29, 0, 0) k (nI (mt_width (mp_D M k) y))) (27, 0, 0) k (nI (ml_line M W y k))) (30, 0, 0) k (nI (ml_sent M W y k))) (31, 0, 0) (ml_line M W y k) (nI (tx (mt_lay M W y (k + 1)))) = τ at hg hp3 ⊢
  obtain ⟨a1, A1, J1, r1, c1⟩ := hg τ rfl
  have hev : mw_E (mp_D M k) = 1 ∨ k + 1 = mp_N M → kw_X9_layOut_206 a K Q τ (nI W) v3 (nI (tx (mt_lay M W y (k + 1)))) v6 (nI k) := by
    intro he
    refine sp_X9_layOut_211 hn h36 ok hW hk g h6 a1 hp3 A1 J1 r1 c1 he (fun σ2 a2 p2 A2 J2 r2 c2 => h σ2 (k + 1) (tl (mt_lay M W y (k + 1))) (tr (mt_lay M W y (k + 1))) 1 a2 p2 A2 J2 r2 c2 ⟨Nat.le_refl _, by omega, Nat.le_refl _, fun i h1 h2 => by omega, fun h1 h2 => ?_, fun _ => ⟨rfl, rfl⟩⟩ (fun h1 => ?_) (fun h1 h2 => ?_))
    · have h1' : mw_E (mp_D M k) = 0 := h1
      omega
    · have : te (mt_lay M W y (k + 1)) = 1 := by
        show mw_E (mp_D M k) = 1
        omega
      rw [this]; rfl
    · have h2' : mw_E (mp_D M k) = 0 := h2
      omega
  refine sp_X9_cell (j := 1) ⟨?_, ?_⟩
  · rw [hn]; exact (kI_in (by omega)).mpr (by omega)
  rw [nI_clamp (by omega), rd_e hp3 hk, kI_litL, pk_lEQ (by omega) (by decide)]
  refine ⟨fun q => hev (Or.inl q), fun q => sp_X9_many hn hp3 ?_⟩
  rw [kI_lit, pk_sub (by omega), nI_eq (by omega) (by omega)]
  refine ⟨fun q2 => hev (Or.inr (by omega)), fun q2 => ?_⟩
  unfold kw_X9_layOut_211
  refine ⟨fun _ => ?_, fun z => absurd rfl z⟩
  rw [forall_eq, show (nI k + 1 : Int32) = nI (k + 1) from nI_1 k]
  have q' : mw_E (mp_D M k) = 0 := by
    have : mw_E (mp_D M k) ≠ 1 := q
    omega
  have et : te (mt_lay M W y (k + 1)) = 0 := q'
  have f0 := mf_row0 okw hW.1 q'
  refine h τ c F R 0 a1 hp3 A1 J1 r1 ?_ ⟨by have := g.1; omega, by omega, by omega, fun i h1 h2 => ?_, fun _ _ => s3, fun z => ?_⟩ (fun _ => by rw [et]; rfl) (fun _ _ => h6)
  · rw [c1]
    show _ = nI (ma_sum (mf_sent M) k + (if mw_E (mp_D M k) = 1 ∨ k + 1 = mp_N M then 1 else 0))
    rw [if_neg (by omega)]; rfl
  · obtain ⟨t1, t2⟩ := s1 i h1 h2
    refine ⟨t1, t2, ?_⟩
    by_cases e : i = k
    · rw [e]; exact q'
    · exact (g.2.2.2.1 i h1 (by omega)).2.2
  · rw [et] at z
    omega
