/-! ===== the class: words are added; settings; the history ===== -/
def mf_put (D Wd : Nat → ma_W) (i R j : Nat) : ma_W := if j < i then D j else if j < i + R then Wd (j - i) else D (j - R)
def mp_insert (M : ma_P) (i R : Nat) (Wd : Nat → ma_W) : ma_P := (((mp_N M + R, mp_L M), M.1.2), mf_put (mp_D M) Wd i R, M.2.2)
theorem mp_insert_ok {M : ma_P} {i R : Nat} {Wd : Nat → ma_W} (ok : mp_ok M) (hi : i ≤ mp_N M) (hR : mp_N M + R ≤ 12) (hW : ∀ j, j < R → mw_ok (Wd j)) : mp_ok (mp_insert M i R Wd) := by
  refine ⟨hR, ok.2.1, ok.2.2.1, ok.2.2.2.1, ok.2.2.2.2.1, fun j hj => ?_, ok.2.2.2.2.2.2⟩
  have hj' : j < mp_N M + R := hj
  show mw_ok (mf_put (mp_D M) Wd i R j)
  unfold mf_put
  by_cases q : j < i
  · rw [if_pos q]; exact ok.2.2.2.2.2.1 j (by omega)
  · rw [if_neg q]
    by_cases q2 : j < i + R
    · rw [if_pos q2]; exact hW _ (by omega)
    · rw [if_neg q2]; exact ok.2.2.2.2.2.1 _ (by omega)
theorem sp_X4_addWords_71 {σ0 : ka_S} {o i R : Nat} {M : ma_P} {Wd : Nat → ma_W} {Q : ka_S → Prop} (ho : o ≠ 18) (ok : mp_ok M) (hp : rc_P σ0 o M) (hi : i ≤ mp_N M) (hR : mp_N M + R ≤ 12) (hW : ∀ j, j < R → mw_ok (Wd j) ∧ rc_W σ0 18 j (Wd j))
    (h : ∀ σ, ag (xp o) σ0 σ → rc_P σ o (mp_insert M i R Wd) → Q σ) :
    ∀ (n k : Nat) (σ : ka_S), k ≤ R → R < k + n → ag (xq o) σ0 σ → (∀ j, (j < i → rc_W σ o j (mp_D M j)) ∧ (i ≤ j → j < mp_N M → rc_W σ o (j + R) (mp_D M j)) ∧ (j < k → rc_W σ o (i + j) (Wd j))) → kw_X4_addWords_71 o Q n σ (nI i) (nI R) (nI k) := by
  intro n
  induction n with
  | zero => intro k σ h1 h2; omega
  | succ n ih =>
    intro k σ h1 h2 ha hr
    have hN := ok.1
    rw [kw_X4_addWords_71]
    refine ⟨fun q => ?_, fun q => ?_⟩
    · simp (disch := omega) only [nI_leI, nI_ltI, nI_eq, nI_add, nI_clamp, kI_in, pk_mul, pk_sub, kI_lit, kI_litL, nI_l, lN_i, lN_add, pk_lEQ, forall_eq, kI_m1, Nat.reduceAdd, Nat.reduceMul, Nat.reduceSub, Nat.reduceLT, Nat.reduceLeDiff, Nat.reduceEqDiff, Nat.reducePow, Nat.reduceMod, Nat.reduceDiv, true_implies, false_implies, and_true, true_and, not_true_eq_false, not_false_eq_true, implies_true, Nat.zero_add, Nat.add_zero] at q
      obtain rfl : k = R := by omega
      have c : σ.1 (0, o, 0) 2 = nI (mp_N M) := (ha _ _ (fun q => absurd (show 5 ≤ 0 from q.2.1) (by decide))).1.trans hp.1.1
      rw [forall_eq, c, nI_add]
      have a2 : ag (xn o) σ0 (ka_wI σ (0, o, 0) 2 (nI (mp_N M + k))) := ag_I (ag_mono ha xq_n) ⟨rfl, Or.inr ⟨rfl, rfl⟩⟩
      refine h _ (ag_mono a2 xn_p) (rc_P_words hp a2 xn_X ?_ (fun j hj => ?_) rfl rfl rfl)
      · simp only [st_I, st_L, st_I2, st_L1, Prod.mk.injEq, Nat.reduceEqDiff, false_and, and_false, true_and, and_true, and_self, if_false, if_true, reduceIte]
        rfl
      · have hj' : j < mp_N M + k := hj
        show rc_W _ o j (mf_put (mp_D M) Wd i k j)
        have go : ∀ w, rc_W σ o j w → rc_W (ka_wI σ (0, o, 0) 2 (nI (mp_N M + k))) o j w := fun w hw => rc_W_ag (X := xz) hw (ag_I ag_refl rfl) (fun κ n h5 _ q => by
          have : κ = 0 := q
          omega)
        refine go _ ?_
        unfold mf_put
        by_cases q : j < i
        · rw [if_pos q]; exact (hr j).1 q
        · rw [if_neg q]
          by_cases q2 : j < i + k
          · rw [if_pos q2]
            have := (hr (j - i)).2.2 (by omega)
            rw [show i + (j - i) = j by omega] at this
            exact this
          · rw [if_neg q2]
            have := (hr (j - k)).2.1 (by omega) (by omega)
            rw [show j - k + k = j by omega] at this
            exact this
    · simp (disch := omega) only [nI_leI, nI_ltI, nI_eq, nI_add, nI_clamp, kI_in, pk_mul, pk_sub, kI_lit, kI_litL, nI_l, lN_i, lN_add, pk_lEQ, forall_eq, kI_m1, Nat.reduceAdd, Nat.reduceMul, Nat.reduceSub, Nat.reduceLT, Nat.reduceLeDiff, Nat.reduceEqDiff, Nat.reducePow, Nat.reduceMod, Nat.reduceDiv, true_implies, false_implies, and_true, true_and, not_true_eq_false, not_false_eq_true, implies_true, Nat.zero_add, Nat.add_zero] at q
      have hii : vp_in (nI (i + k)) 12 := (kI_in (by omega)).mpr (by omega)
      rw [nI_add, nI_clamp (by omega), nI_clamp (by omega)]
      refine ⟨hii, (kI_in (by omega)).mpr (by omega), ?_⟩
      have hw := hW k (by omega)
      refine sp_X7_copyFrom (fun q => ho q.1.symm) (rc_W_ag hw.2 ha (fun κ n _ _ q => ho (show (18 : Nat) = o from q.1).symm)) hw.1 (fun σ1 a1 r1 => ?_)
      rw [forall_eq, show (nI k + 1 : Int32) = nI (k + 1) from nI_1 k]
      refine ih (k + 1) σ1 (by omega) (by omega) (ag_trans ha (ag_mono a1 xw_q)) (fun j => ⟨fun hj => ?_, fun hj1 hj2 => ?_, fun hj => ?_⟩)
      · exact rc_W_ag ((hr j).1 hj) a1 (fun κ n _ _ q => absurd (show j = i + k from q.2.1) (by omega))
      · exact rc_W_ag ((hr j).2.1 hj1 hj2) a1 (fun κ n _ _ q => absurd (show j + R = i + k from q.2.1) (by omega))
      · by_cases q2 : j = k
        · rw [q2]; exact r1
        · exact rc_W_ag ((hr j).2.2 (by omega)) a1 (fun κ n _ _ q => absurd (show i + j = i + k from q.2.1) (by omega))
theorem sp_X4_addWords_37 {σ0 : ka_S} {o i R : Nat} {M : ma_P} {Wd : Nat → ma_W} {Q : ka_S → Prop} (ho : o ≠ 18) (ok : mp_ok M) (hp : rc_P σ0 o M) (hi : i ≤ mp_N M) (hR : mp_N M + R ≤ 12) (hR1 : 1 ≤ R) (hW : ∀ j, j < R → mw_ok (Wd j) ∧ rc_W σ0 18 j (Wd j))
    (h : ∀ σ, ag (xp o) σ0 σ → rc_P σ o (mp_insert M i R Wd) → Q σ) :
    ∀ (n k : Nat) (σ : ka_S), i ≤ k → k ≤ mp_N M → k < i + n → ag (xq o) σ0 σ → (∀ j, (j < k → rc_W σ o j (mp_D M j)) ∧ (k ≤ j → j < mp_N M → rc_W σ o (j + R) (mp_D M j))) → kw_X4_addWords_37 o Q n σ (nI i) (nI R) (nI k + -1) := by
  intro n
  induction n with
  | zero => intro k σ h1 h2; omega
  | succ n ih =>
    intro k σ h1 h2 h3 ha hr
    have hN := ok.1
    rw [kw_X4_addWords_37]
    refine ⟨fun q => ?_, fun q => ?_⟩
    · have hk : k = i := by
        rcases Nat.lt_or_ge i k with z | z
        · obtain ⟨k', rfl⟩ : ∃ k', k = k' + 1 := ⟨k - 1, by omega⟩
          rw [kI_m1, nI_ltI (by omega) (by omega)] at q
          omega
        · omega
      subst hk
      exact ⟨13, sp_X4_addWords_71 ho ok hp hi hR hW h 13 0 σ (Nat.zero_le _) (by omega) ha (fun j => ⟨fun hj => (hr j).1 hj, fun hj1 hj2 => (hr j).2 hj1 hj2, fun hj => absurd hj (Nat.not_lt_zero j)⟩)⟩
    · have hk : i < k := by
        rcases Nat.lt_or_ge i k with z | z
        · exact z
        · exfalso
          obtain rfl : k = i := by omega
          refine q ?_
          rcases Nat.eq_zero_or_pos k with e | e
          · subst e; decide
          · obtain ⟨k', rfl⟩ : ∃ k', k = k' + 1 := ⟨k - 1, by omega⟩
            rw [kI_m1, nI_ltI (by omega) (by omega)]
            omega
      obtain ⟨k, rfl⟩ : ∃ k', k = k' + 1 := ⟨k - 1, by omega⟩
      rw [kI_m1, nI_add, nI_clamp (by omega), nI_clamp (by omega)]
      refine ⟨(kI_in (by omega)).mpr (by omega), (kI_in (by omega)).mpr (by omega), ?_⟩
      refine sp_X7_copyFrom (fun q => absurd q.2 (by omega)) ((hr k).1 (by omega)) (ok.2.2.2.2.2.1 k (by omega)) (fun σ1 a1 r1 => ?_)
      rw [forall_eq]
      refine ih k σ1 (by omega) (by omega) (by omega) (ag_trans ha (ag_mono a1 xw_q)) (fun j => ⟨fun hj => ?_, fun hj1 hj2 => ?_⟩)
      · exact rc_W_ag ((hr j).1 (by omega)) a1 (fun κ n _ _ q => absurd (show j = k + R from q.2.1) (by omega))
      · by_cases q2 : j = k
        · rw [q2]; exact r1
        · exact rc_W_ag ((hr j).2 (by omega) hj2) a1 (fun κ n _ _ q => absurd (show j + R = k + R from q.2.1) (by omega))
theorem sp_X4_addWords {σ : ka_S} {o i R : Nat} {M : ma_P} {Wd : Nat → ma_W} {Q : ka_S → Prop} (ho : o ≠ 18) (ok : mp_ok M) (hp : rc_P σ o M) (hr : σ.1 (18, 0, 0) 1 = nI R) (hi : i ≤ mp_N M) (hR : mp_N M + R ≤ 12) (hR1 : 1 ≤ R) (hW : ∀ j, j < R → mw_ok (Wd j) ∧ rc_W σ 18 j (Wd j))
    (h : ∀ σ', ag (xp o) σ σ' → rc_P σ' o (mp_insert M i R Wd) → Q σ') : kw_X4_addWords σ o (nI i) Q := by
  have hN := ok.1
  unfold kw_X4_addWords
  rw [forall_eq, hr, hp.1.1]
  refine ⟨fun q => absurd q (nI_pos (by omega)), fun _ => ⟨fun q => ?_, fun _ => ⟨fun _ => ?_, fun q => ?_⟩⟩⟩
  · simp (disch := omega) only [nI_leI, nI_ltI, nI_eq, nI_add, nI_clamp, kI_in, pk_mul, pk_sub, kI_lit, kI_litL, nI_l, lN_i, lN_add, pk_lEQ, forall_eq, kI_m1, Nat.reduceAdd, Nat.reduceMul, Nat.reduceSub, Nat.reduceLT, Nat.reduceLeDiff, Nat.reduceEqDiff, Nat.reducePow, Nat.reduceMod, Nat.reduceDiv, true_implies, false_implies, and_true, true_and, not_true_eq_false, not_false_eq_true, implies_true, Nat.zero_add, Nat.add_zero] at q; omega
  · rw [forall_eq, Int32.sub_eq_add_neg]
    exact ⟨13, sp_X4_addWords_37 ho ok hp hi hR hR1 hW h 13 (mp_N M) σ hi (Nat.le_refl _) (by omega) ag_refl (fun j => ⟨fun hj => hp.2.2 j hj, fun hj1 hj2 => by omega⟩)⟩
  · simp (disch := omega) only [nI_leI, nI_ltI, nI_eq, nI_add, nI_clamp, kI_in, pk_mul, pk_sub, kI_lit, kI_litL, nI_l, lN_i, lN_add, pk_lEQ, forall_eq, kI_m1, Nat.reduceAdd, Nat.reduceMul, Nat.reduceSub, Nat.reduceLT, Nat.reduceLeDiff, Nat.reduceEqDiff, Nat.reducePow, Nat.reduceMod, Nat.reduceDiv, true_implies, false_implies, and_true, true_and, not_true_eq_false, not_false_eq_true, implies_true, Nat.zero_add, Nat.add_zero] at q; omega
/-! settings -/
def mp_setW (M : ma_P) (x : Nat) : ma_P := ((M.1.1, (x, mp_S M, mp_Y M)), M.2)
def mp_setS (M : ma_P) (x : Nat) : ma_P := ((M.1.1, (mp_W M, x, mp_Y M)), M.2)
def mp_setY (M : ma_P) (x : Nat) : ma_P := ((M.1.1, (mp_W M, mp_S M, x)), M.2)
theorem mp_setW_ok {M : ma_P} {x : Nat} (ok : mp_ok M) (h : 10 ≤ x ∧ x ≤ 60) : mp_ok (mp_setW M x) := ⟨ok.1, ok.2.1, h, ok.2.2.2⟩
theorem mp_setS_ok {M : ma_P} {x : Nat} (ok : mp_ok M) (h : 1 ≤ x ∧ x ≤ 3) : mp_ok (mp_setS M x) := ⟨ok.1, ok.2.1, ok.2.2.1, h, ok.2.2.2.2⟩
theorem mp_setY_ok {M : ma_P} {x : Nat} (ok : mp_ok M) (h : x ≤ 1) : mp_ok (mp_setY M x) := ⟨ok.1, ok.2.1, ok.2.2.1, ok.2.2.2.1, h, ok.2.2.2.2.2⟩
theorem rc_P_z {σ σ' : ka_S} {o : Nat} {M M' : ma_P} (hp : rc_P σ o M) (a : ag xz σ σ') (h0 : σ'.1 (0, o, 0) 2 = nI (mp_N M') ∧ σ'.1 (0, o, 0) 3 = nI (mp_W M') ∧ σ'.1 (0, o, 0) 4 = nI (mp_S M') ∧ σ'.1 (0, o, 0) 5 = nI (mp_Y M')) (h1 : M'.1.1 = M.1.1) (h2 : M'.2 = M.2) : rc_P σ' o M' := by
  have e1 : mp_N M' = mp_N M := congrArg Prod.fst h1
  have e2 : mp_L M' = mp_L M := congrArg Prod.snd h1
  have e3 : mp_D M' = mp_D M := congrArg Prod.fst h2
  have e4 : mp_A M' = mp_A M := congrArg (fun x => x.2.1) h2
  have e5 : mp_B M' = mp_B M := congrArg (fun x => x.2.2) h2
  refine ⟨h0, ⟨?_, fun e he => ?_⟩, fun j hj => ?_⟩
  · rw [e2]; exact (a (2, o, 0) 2 (fun q => absurd (show (2 : Nat) = 0 from q) (by decide))).1.trans hp.2.1.1
  · rw [e4, e5]
    rw [e2] at he
    exact ⟨(a (3, o, 0) e (fun q => absurd (show (3 : Nat) = 0 from q) (by decide))).2.trans (hp.2.1.2 e he).1, (a (4, o, 0) e (fun q => absurd (show (4 : Nat) = 0 from q) (by decide))).2.trans (hp.2.1.2 e he).2⟩
  · rw [e3]
    rw [e1] at hj
    exact rc_W_ag (hp.2.2 j hj) a (fun κ n h5 _ q => by
      have : κ = 0 := q
      omega)
theorem sp_X4_change9 {σ : ka_S} {o x : Nat} {M : ma_P} {Q : Int32 → ka_S → Prop} (hp : rc_P σ o M) (h : ∀ σ', ag (xp o) σ σ' → rc_P σ' o (mp_setW M x) → Q (nI (mp_W M)) σ') : kw_X4_change σ o 9 (nI x) Q := by
  unfold kw_X4_change
  rw [forall_eq, hp.1.2.1]
  refine ⟨fun _ => ?_, fun q => absurd rfl q⟩
  rw [forall_eq]
  refine h _ (ag_I ag_refl (xp_k (by decide))) (rc_P_z hp (ag_I ag_refl rfl) ⟨?_, ?_, ?_, ?_⟩ rfl rfl)
  · simp only [st_I, st_L, st_I2, st_L1, Prod.mk.injEq, Nat.reduceEqDiff, false_and, and_false, true_and, and_true, and_self, if_false, if_true, reduceIte]
    exact hp.1.1
  · simp only [st_I, st_L, st_I2, st_L1, Prod.mk.injEq, Nat.reduceEqDiff, false_and, and_false, true_and, and_true, and_self, if_false, if_true, reduceIte]
    rfl
  · simp only [st_I, st_L, st_I2, st_L1, Prod.mk.injEq, Nat.reduceEqDiff, false_and, and_false, true_and, and_true, and_self, if_false, if_true, reduceIte]
    exact hp.1.2.2.1
  · simp only [st_I, st_L, st_I2, st_L1, Prod.mk.injEq, Nat.reduceEqDiff, false_and, and_false, true_and, and_true, and_self, if_false, if_true, reduceIte]
    exact hp.1.2.2.2
theorem sp_X4_change10 {σ : ka_S} {o x : Nat} {M : ma_P} {Q : Int32 → ka_S → Prop} (hp : rc_P σ o M) (h : ∀ σ', ag (xp o) σ σ' → rc_P σ' o (mp_setS M x) → Q (nI (mp_S M)) σ') : kw_X4_change σ o 10 (nI x) Q := by
  unfold kw_X4_change
  rw [forall_eq]
  refine ⟨fun q => absurd q (by decide), fun _ => ⟨fun _ => ?_, fun q => absurd rfl q⟩⟩
  rw [forall_eq, hp.1.2.2.1, forall_eq]
  refine h _ (ag_I ag_refl (xp_k (by decide))) (rc_P_z hp (ag_I ag_refl rfl) ⟨?_, ?_, ?_, ?_⟩ rfl rfl)
  · simp only [st_I, st_L, st_I2, st_L1, Prod.mk.injEq, Nat.reduceEqDiff, false_and, and_false, true_and, and_true, and_self, if_false, if_true, reduceIte]
    exact hp.1.1
  · simp only [st_I, st_L, st_I2, st_L1, Prod.mk.injEq, Nat.reduceEqDiff, false_and, and_false, true_and, and_true, and_self, if_false, if_true, reduceIte]
    exact hp.1.2.1
  · simp only [st_I, st_L, st_I2, st_L1, Prod.mk.injEq, Nat.reduceEqDiff, false_and, and_false, true_and, and_true, and_self, if_false, if_true, reduceIte]
    rfl
  · simp only [st_I, st_L, st_I2, st_L1, Prod.mk.injEq, Nat.reduceEqDiff, false_and, and_false, true_and, and_true, and_self, if_false, if_true, reduceIte]
    exact hp.1.2.2.2
theorem sp_X4_change11 {σ : ka_S} {o x : Nat} {M : ma_P} {Q : Int32 → ka_S → Prop} (hp : rc_P σ o M) (h : ∀ σ', ag (xp o) σ σ' → rc_P σ' o (mp_setY M x) → Q (nI (mp_Y M)) σ') : kw_X4_change σ o 11 (nI x) Q := by
  unfold kw_X4_change
  rw [forall_eq]
  refine ⟨fun q => absurd q (by decide), fun _ => ⟨fun q => absurd q (by decide), fun _ => ?_⟩⟩
  rw [forall_eq, hp.1.2.2.2, forall_eq]
  refine h _ (ag_I ag_refl (xp_k (by decide))) (rc_P_z hp (ag_I ag_refl rfl) ⟨?_, ?_, ?_, ?_⟩ rfl rfl)
  · simp only [st_I, st_L, st_I2, st_L1, Prod.mk.injEq, Nat.reduceEqDiff, false_and, and_false, true_and, and_true, and_self, if_false, if_true, reduceIte]
    exact hp.1.1
  · simp only [st_I, st_L, st_I2, st_L1, Prod.mk.injEq, Nat.reduceEqDiff, false_and, and_false, true_and, and_true, and_self, if_false, if_true, reduceIte]
    exact hp.1.2.1
  · simp only [st_I, st_L, st_I2, st_L1, Prod.mk.injEq, Nat.reduceEqDiff, false_and, and_false, true_and, and_true, and_self, if_false, if_true, reduceIte]
    exact hp.1.2.2.1
  · simp only [st_I, st_L, st_I2, st_L1, Prod.mk.injEq, Nat.reduceEqDiff, false_and, and_false, true_and, and_true, and_self, if_false, if_true, reduceIte]
    rfl
def mp_new : ma_P := (((0, 0), (30, 2, 1)), (fun _ => ((1, 0, 0), (fun _ => [], fun _ => []), (fun _ => 0, fun _ => 0))), (fun _ => [], fun _ => []))
theorem mp_new_ok : mp_ok mp_new := ⟨by decide, by decide, by decide, by decide, by decide, fun i hi => absurd hi (Nat.not_lt_zero i), fun i hi => absurd hi (Nat.not_lt_zero i)⟩
theorem sp_X4_reset {σ : ka_S} {o : Nat} {Q : ka_S → Prop} (h : ∀ σ', ag (xp o) σ σ' → rc_P σ' o mp_new → Q σ') : kw_X4_reset σ o Q := by
  unfold kw_X4_reset
  rw [forall_eq, forall_eq, forall_eq, forall_eq, forall_eq]
  refine h _ (ag_I (ag_I (ag_I (ag_I (ag_I ag_refl (xp_k (by decide))) (xp_k (by decide))) (xp_k (by decide))) (xp_k (by decide))) (xp_k (by decide))) ⟨⟨?_, ?_, ?_, ?_⟩, ⟨?_, fun e he => absurd he (Nat.not_lt_zero e)⟩, fun i hi => absurd hi (Nat.not_lt_zero i)⟩
  · simp only [st_I, st_L, st_I2, st_L1, Prod.mk.injEq, Nat.reduceEqDiff, false_and, and_false, true_and, and_true, and_self, if_false, if_true, reduceIte]
    rfl
  · simp only [st_I, st_L, st_I2, st_L1, Prod.mk.injEq, Nat.reduceEqDiff, false_and, and_false, true_and, and_true, and_self, if_false, if_true, reduceIte]
    rfl
  · simp only [st_I, st_L, st_I2, st_L1, Prod.mk.injEq, Nat.reduceEqDiff, false_and, and_false, true_and, and_true, and_self, if_false, if_true, reduceIte]
    rfl
  · simp only [st_I, st_L, st_I2, st_L1, Prod.mk.injEq, Nat.reduceEqDiff, false_and, and_false, true_and, and_true, and_self, if_false, if_true, reduceIte]
    rfl
  · simp only [st_I, st_L, st_I2, st_L1, Prod.mk.injEq, Nat.reduceEqDiff, false_and, and_false, true_and, and_true, and_self, if_false, if_true, reduceIte]
    rfl
