/-! ===== the reference lays out: all words ===== -/
theorem sp_X9_layOut_27 {σ0 : ka_S} {a : ka_K} {W y : Nat} {M : ma_P} {Q : ka_S → Prop} (hn : ka_n a = 253) (h36 : 36 ≤ a.1) (ok : mp_ok M) (hW : 10 ≤ W ∧ W ≤ 60) (hy : y ≤ 1) (h : ∀ σ', ag xy σ0 σ' → rd_A σ' M W y → Q σ') :
    ∀ (n k c F R : Nat) (v4 v6 : Int32) (σ : ka_S), k ≤ mp_N M → mp_N M < k + n → ag xy σ0 σ → rd_P σ a M → rd_An σ M W y k → rd_J σ M W y c R → σ.1 (25, 0, 0) 12 = nI R → σ.1 (25, 0, 0) 13 = nI (ma_sum (mf_sent M) k) → mg_geo M W y k c F R →
      (k < mp_N M → v4 = nI (te (mt_lay M W y k))) → (k < mp_N M → te (mt_lay M W y k) = 0 → v6 = nI F) → kw_X9_layOut_27 a Q n σ (nI W) (nI y) v4 (nI (tx (mt_lay M W y k))) v6 (nI k) := by
  intro n
  induction n with
  | zero => intro k c F R v4 v6 σ h1 h2; omega
  | succ n ih =>
    intro k c F R v4 v6 σ h1 h2 ha hp hA hJ h12 h13 g h4 h6
    have hN := ok.1
    rw [kw_X9_layOut_27]
    refine sp_X9_many hn hp ⟨fun q => ?_, fun q => ?_⟩
    · rw [nI_leI (by omega) (by omega)] at q
      obtain rfl : k = mp_N M := by omega
      obtain ⟨z1, z2⟩ := g.2.2.2.2.2 (Or.inr rfl)
      have z3 : R = tr (mt_lay M W y (mp_N M)) := by
        have := g.2.1
        omega
      subst z1 z3
      exact h σ ha ⟨hA, hJ, h12, h13⟩
    · rw [nI_leI (by omega) (by omega)] at q
      have hk : k < mp_N M := by omega
      have hw := mt_width_le (ok.2.2.2.2.2.1 k hk) y
      have b := mt_lay_le (y := y) ok hW k (by omega)
      have hS := ok.2.2.2.1
      have go : ∀ (c' F' R' : Nat) (v4' v6' : Int32) (σ' : ka_S), ag xy σ0 σ' → rd_P σ' a M → rd_An σ' M W y (k + 1) → rd_J σ' M W y c' R' → σ'.1 (25, 0, 0) 12 = nI R' → σ'.1 (25, 0, 0) 13 = nI (ma_sum (mf_sent M) (k + 1)) → mg_geo M W y (k + 1) c' F' R' → (k + 1 < mp_N M → v4' = nI (te (mt_lay M W y (k + 1)))) →
          (k + 1 < mp_N M → te (mt_lay M W y (k + 1)) = 0 → v6' = nI F') → kw_X9_layOut_27 a Q n σ' (nI W) (nI y) v4' (nI (tx (mt_lay M W y (k + 1)))) v6' (nI (k + 1)) :=
        fun c' F' R' v4' v6' σ' u1 u2 u3 u4 u5 u6 u7 u8 u9 => ih (k + 1) c' F' R' v4' v6' σ' (by omega) (by omega) u1 u2 u3 u4 u5 u6 u7 u8 u9
      have e2 : tl (mt_lay M W y (k + 1)) = if mf_fit M W y (mt_lay M W y k) k then tl (mt_lay M W y k) else tl (mt_lay M W y k) + 1 := rfl
      have ec : ml_col M W y k = if mf_fit M W y (mt_lay M W y k) k then tx (mt_lay M W y k) + mp_S M else 0 := rfl
      -- a new line
      have no : ¬ mf_fit M W y (mt_lay M W y k) k → ∀ v10, kw_X9_layOut_72 a (kw_X9_layOut_27 a Q n) Q σ (nI W) (nI y) v4 v6 (nI k) (nI (mt_width (mp_D M k) y)) v10 := by
        intro z v10
        rw [if_neg z] at e2 ec
        have nl : ∀ v9 t0, t0 = nI F → kw_X9_layOut_94 a (kw_X9_layOut_27 a Q n) Q σ (nI W) (nI y) (nI k) (nI (mt_width (mp_D M k) y)) v9 0 t0 := by
          intro v9 t0 ht
          unfold kw_X9_layOut_94
          rw [hA.1, show (nI (tl (mt_lay M W y k)) + 1 : Int32) = nI (tl (mt_lay M W y k) + 1) from nI_1 _, forall_eq]
          unfold kw_X9_layOut_106
          refine ⟨fun _ => ?_, fun z => absurd rfl z⟩
          have a2 : ag xy σ (ka_wI σ (25, 0, 0) 11 (nI (tl (mt_lay M W y k) + 1))) := ag_I ag_refl (xy_25 (by decide) (by decide))
          refine sp_X9_layOut_123 hn h36 ok hW hk g ht rfl (by rw [ec]; rfl) (ag_trans ha a2) (rd_P_xy h36 ok hp a2) ?_ (fun i hi => ⟨?_, ?_, ?_, ?_⟩) (fun l hl => ?_) (fun i hi => ⟨⟨((hJ i hi).1).1, ⟨?_, ?_, ?_⟩, ⟨?_, ?_, ?_⟩⟩, fun f hf => ⟨((hJ i hi).2 f hf).1, ?_, ?_, ?_⟩⟩) ?_ ?_ (fun σ' c' F' R' v4' u1 u2 u3 u4 u5 u6 u7 u8 u9 => go c' F' R' v4' _ σ' u1 u2 u3 u4 u5 u6 u7 u8 u9)
          · simp only [st_I, st_L, st_I2, st_L1, Prod.mk.injEq, Nat.reduceEqDiff, false_and, and_false, true_and, and_true, and_self, if_false, if_true, reduceIte]
            rw [e2]
          · simp only [st_I, st_L, st_I2, st_L1, Prod.mk.injEq, Nat.reduceEqDiff, false_and, and_false, true_and, and_true, and_self, if_false, if_true, reduceIte]
            exact (hA.2.1 i hi).1
          · simp only [st_I, st_L, st_I2, st_L1, Prod.mk.injEq, Nat.reduceEqDiff, false_and, and_false, true_and, and_true, and_self, if_false, if_true, reduceIte]
            exact (hA.2.1 i hi).2.1
          · simp only [st_I, st_L, st_I2, st_L1, Prod.mk.injEq, Nat.reduceEqDiff, false_and, and_false, true_and, and_true, and_self, if_false, if_true, reduceIte]
            exact (hA.2.1 i hi).2.2.1
          · simp only [st_I, st_L, st_I2, st_L1, Prod.mk.injEq, Nat.reduceEqDiff, false_and, and_false, true_and, and_true, and_self, if_false, if_true, reduceIte]
            exact (hA.2.1 i hi).2.2.2
          · simp only [st_I, st_L, st_I2, st_L1, Prod.mk.injEq, Nat.reduceEqDiff, false_and, and_false, true_and, and_true, and_self, if_false, if_true, reduceIte]
            exact hA.2.2 l hl
          · simp only [st_I, st_L, st_I2, st_L1, Prod.mk.injEq, Nat.reduceEqDiff, false_and, and_false, true_and, and_true, and_self, if_false, if_true, reduceIte]
            exact (hJ i hi).1.2.1.1
          · simp only [st_I, st_L, st_I2, st_L1, Prod.mk.injEq, Nat.reduceEqDiff, false_and, and_false, true_and, and_true, and_self, if_false, if_true, reduceIte]
            exact (hJ i hi).1.2.1.2.1
          · simp only [st_I, st_L, st_I2, st_L1, Prod.mk.injEq, Nat.reduceEqDiff, false_and, and_false, true_and, and_true, and_self, if_false, if_true, reduceIte]
            exact (hJ i hi).1.2.1.2.2
          · simp only [st_I, st_L, st_I2, st_L1, Prod.mk.injEq, Nat.reduceEqDiff, false_and, and_false, true_and, and_true, and_self, if_false, if_true, reduceIte]
            exact (hJ i hi).1.2.2.1
          · simp only [st_I, st_L, st_I2, st_L1, Prod.mk.injEq, Nat.reduceEqDiff, false_and, and_false, true_and, and_true, and_self, if_false, if_true, reduceIte]
            exact (hJ i hi).1.2.2.2.1
          · simp only [st_I, st_L, st_I2, st_L1, Prod.mk.injEq, Nat.reduceEqDiff, false_and, and_false, true_and, and_true, and_self, if_false, if_true, reduceIte]
            exact (hJ i hi).1.2.2.2.2
          · simp only [st_I, st_L, st_I2, st_L1, Prod.mk.injEq, Nat.reduceEqDiff, false_and, and_false, true_and, and_true, and_self, if_false, if_true, reduceIte]
            exact ((hJ i hi).2 f hf).2.1
          · simp only [st_I, st_L, st_I2, st_L1, Prod.mk.injEq, Nat.reduceEqDiff, false_and, and_false, true_and, and_true, and_self, if_false, if_true, reduceIte]
            exact ((hJ i hi).2 f hf).2.2.1
          · simp only [st_I, st_L, st_I2, st_L1, Prod.mk.injEq, Nat.reduceEqDiff, false_and, and_false, true_and, and_true, and_self, if_false, if_true, reduceIte]
            exact ((hJ i hi).2 f hf).2.2.2
          · simp only [st_I, st_L, st_I2, st_L1, Prod.mk.injEq, Nat.reduceEqDiff, false_and, and_false, true_and, and_true, and_self, if_false, if_true, reduceIte]
            exact h12
          · simp only [st_I, st_L, st_I2, st_L1, Prod.mk.injEq, Nat.reduceEqDiff, false_and, and_false, true_and, and_true, and_self, if_false, if_true, reduceIte]
            exact h13
        unfold kw_X9_layOut_72 kw_X9_layOut_73
        refine ⟨fun _ => ⟨fun z4 => ?_, fun z4 => ?_⟩, fun z => absurd rfl z⟩
        · rw [h4 hk, kI_lit, nI_eq (by omega) (by decide)] at z4
          exact nl _ _ (h6 hk z4)
        · rw [h4 hk, kI_lit, nI_eq (by omega) (by decide)] at z4
          refine nl _ _ ?_
          rw [hA.1, (g.2.2.2.2.2 (Or.inl z4)).2]
      refine sp_X9_wide hn ok hp hk hy ⟨?_, ?_⟩
      · rw [hn]; exact (kI_in (k := 3) (by decide)).mpr (by decide)
      rw [show (3 : Int32).toNatClampNeg = 3 from rfl, hp.1.2.2.2.1, lN_i, nI_add, forall_eq]
      refine ⟨fun z4 => ?_, fun z4 => no (fun c => ?_) _⟩
      · have z4' := z4
        rw [h4 hk, kI_lit, nI_eq (by omega) (by decide)] at z4'
        rw [nI_add, nI_ltI (by omega) (by omega)]
        refine ⟨fun z5 => no (fun c => by have := c.2; omega) _, fun z5 => ?_⟩
        have c : mf_fit M W y (mt_lay M W y k) k := ⟨z4', by omega⟩
        rw [if_pos c] at e2 ec
        unfold kw_X9_layOut_73
        refine ⟨fun z => absurd z (by decide), fun _ => ?_⟩
        unfold kw_X9_layOut_106
        refine ⟨fun z => absurd z (by decide), fun _ => ?_⟩
        exact sp_X9_layOut_123 hn h36 ok hW hk g (h6 hk z4') rfl (by rw [ec]) ha hp (by rw [e2]; exact hA.1) hA.2.1 hA.2.2 hJ h12 h13 (fun σ' c' F' R' v4' u1 u2 u3 u4 u5 u6 u7 u8 u9 => go c' F' R' v4' _ σ' u1 u2 u3 u4 u5 u6 u7 u8 u9)
      · rw [h4 hk, kI_lit, nI_eq (by omega) (by decide)] at z4
        exact z4 c.1
theorem sp_X9_layOut {σ : ka_S} {a : ka_K} {W y : Nat} {M : ma_P} {Q : ka_S → Prop} (hn : ka_n a = 253) (h36 : 36 ≤ a.1) (ok : mp_ok M) (hp : rd_P σ a M) (hW : 10 ≤ W ∧ W ≤ 60) (hy : y ≤ 1) (h : ∀ σ', ag xy σ σ' → rd_A σ' M W y → Q σ') : kw_X9_layOut σ a (nI W) (nI y) Q := by
  have hN := ok.1
  unfold kw_X9_layOut
  rw [forall_eq, forall_eq, forall_eq]
  have a1 : ag xy σ (ka_wI (ka_wI (ka_wI σ (25, 0, 0) 11 0) (25, 0, 0) 12 0) (25, 0, 0) 13 0) := ag_I (ag_I (ag_I ag_refl (xy_25 (by decide) (by decide))) (xy_25 (by decide) (by decide))) (xy_25 (by decide) (by decide))
  refine ⟨13, sp_X9_layOut_27 (σ0 := σ) hn h36 ok hW hy h 13 0 0 0 0 1 0 _ (Nat.zero_le _) (by omega) a1 (rd_P_xy h36 ok hp a1) ⟨?_, fun i hi => absurd hi (Nat.not_lt_zero i), fun l hl => absurd hl (Nat.not_lt_zero l)⟩ (fun i hi => absurd hi (Nat.not_lt_zero i)) ?_ ?_ ⟨Nat.le_refl _, rfl, Nat.le_refl _, fun i _ hi => absurd hi (Nat.not_lt_zero i), fun z => absurd (show (1 : Nat) = 0 from z) (by decide), fun _ => ⟨rfl, rfl⟩⟩ (fun _ => rfl) (fun _ z => absurd (show (1 : Nat) = 0 from z) (by decide))⟩
  · simp only [st_I, st_L, st_I2, st_L1, Prod.mk.injEq, Nat.reduceEqDiff, false_and, and_false, true_and, and_true, and_self, if_false, if_true, reduceIte]
    rfl
  · simp only [st_I, st_L, st_I2, st_L1, Prod.mk.injEq, Nat.reduceEqDiff, false_and, and_false, true_and, and_true, and_self, if_false, if_true, reduceIte]
    rfl
  · simp only [st_I, st_L, st_I2, st_L1, Prod.mk.injEq, Nat.reduceEqDiff, false_and, and_false, true_and, and_true, and_self, if_false, if_true, reduceIte]
    rfl
theorem sp_X9_rowsOf {σ : ka_S} {a : ka_K} {M : ma_P} {Q : Int32 → ka_S → Prop} (hn : ka_n a = 253) (h36 : 36 ≤ a.1) (ok : mp_ok M) (hp : rd_P σ a M) (h : ∀ σ', ag xy σ σ' → rd_A σ' M (mp_W M) (mp_Y M) → Q (nI (tr (mt_lay M (mp_W M) (mp_Y M) (mp_N M)))) σ') : kw_X9_rowsOf σ a Q := by
  unfold kw_X9_rowsOf
  rw [hn, show (2 : Int32).toNatClampNeg = 2 from rfl, show (4 : Int32).toNatClampNeg = 4 from rfl, hp.1.2.2.1, hp.1.2.2.2.2, lN_i, lN_i]
  refine ⟨(kI_in (k := 2) (by decide)).mpr (by decide), (kI_in (k := 4) (by decide)).mpr (by decide), sp_X9_layOut hn h36 ok hp ok.2.2.1 ok.2.2.2.2.1 (fun σ1 a1 r1 => ?_)⟩
  rw [r1.2.2.1]
  exact h σ1 a1 r1
theorem sp_X9_sentencesOf {σ : ka_S} {a : ka_K} {M : ma_P} {Q : Int32 → ka_S → Prop} (hn : ka_n a = 253) (h36 : 36 ≤ a.1) (ok : mp_ok M) (hp : rd_P σ a M) (h : ∀ σ', ag xy σ σ' → rd_A σ' M (mp_W M) (mp_Y M) → Q (nI (mt_sent M)) σ') : kw_X9_sentencesOf σ a Q := by
  unfold kw_X9_sentencesOf
  rw [hn, show (2 : Int32).toNatClampNeg = 2 from rfl, show (4 : Int32).toNatClampNeg = 4 from rfl, hp.1.2.2.1, hp.1.2.2.2.2, lN_i, lN_i]
  refine ⟨(kI_in (k := 2) (by decide)).mpr (by decide), (kI_in (k := 4) (by decide)).mpr (by decide), sp_X9_layOut hn h36 ok hp ok.2.2.1 ok.2.2.2.2.1 (fun σ1 a1 r1 => ?_)⟩
  rw [r1.2.2.2]
  exact h σ1 a1 r1
theorem sp_X9_layNow {σ : ka_S} {M : ma_P} {Q : ka_S → Prop} (ok : mp_ok M) (hp : rd_P σ (37, 0, 0) M) (h : ∀ σ', ag xy σ σ' → rd_A σ' M (mp_W M) (mp_Y M) → Q σ') : kw_X9_layNow σ Q := by
  unfold kw_X9_layNow
  rw [show (2 : Int32).toNatClampNeg = 2 from rfl, show (4 : Int32).toNatClampNeg = 4 from rfl, hp.1.2.2.1, hp.1.2.2.2.2, lN_i, lN_i]
  exact ⟨(kI_in (k := 2) (by decide)).mpr (by decide), (kI_in (k := 4) (by decide)).mpr (by decide), sp_X9_layOut rfl (by decide) ok hp ok.2.2.1 ok.2.2.2.2.1 (fun σ1 a1 r1 => h σ1 a1 r1)⟩
