/-! ===== the reference's scripts and simulations ===== -/
def xtm (k : ka_K) (n : Nat) : Prop := k = (38, 0, 0) ∨ xy k n
theorem xr_tm (k : ka_K) (n : Nat) (h : xr (38, 0, 0) k n) : xtm k n := Or.inl h
theorem xy_tm (k : ka_K) (n : Nat) (h : xy k n) : xtm k n := Or.inr h
theorem rd_P_setW {σ : ka_S} {a : ka_K} {M : ma_P} {x : Nat} (ok : mp_ok M) (hp : rd_P σ a M) : rd_P (ka_wL σ a 2 (lN x)) a (mp_setW M x) := by
  refine rd_P_hdr ok hp (fun j hj => ?_) ?_ ?_ ?_ rfl rfl
  · rw [st_L, if_neg (fun z => by have := z.2; omega)]
  · rw [st_L, if_pos ⟨rfl, rfl⟩]; rfl
  · rw [st_L, if_neg (fun z => absurd z.2 (by decide))]; exact hp.1.2.2.2.1
  · rw [st_L, if_neg (fun z => absurd z.2 (by decide))]; exact hp.1.2.2.2.2
theorem rd_P_setS {σ : ka_S} {a : ka_K} {M : ma_P} {x : Nat} (ok : mp_ok M) (hp : rd_P σ a M) : rd_P (ka_wL σ a 3 (lN x)) a (mp_setS M x) := by
  refine rd_P_hdr ok hp (fun j hj => ?_) ?_ ?_ ?_ rfl rfl
  · rw [st_L, if_neg (fun z => by have := z.2; omega)]
  · rw [st_L, if_neg (fun z => absurd z.2 (by decide))]; exact hp.1.2.2.1
  · rw [st_L, if_pos ⟨rfl, rfl⟩]; rfl
  · rw [st_L, if_neg (fun z => absurd z.2 (by decide))]; exact hp.1.2.2.2.2
theorem rd_P_setY {σ : ka_S} {a : ka_K} {M : ma_P} {x : Nat} (ok : mp_ok M) (hp : rd_P σ a M) : rd_P (ka_wL σ a 4 (lN x)) a (mp_setY M x) := by
  refine rd_P_hdr ok hp (fun j hj => ?_) ?_ ?_ ?_ rfl rfl
  · rw [st_L, if_neg (fun z => by have := z.2; omega)]
  · rw [st_L, if_neg (fun z => absurd z.2 (by decide))]; exact hp.1.2.2.1
  · rw [st_L, if_neg (fun z => absurd z.2 (by decide))]; exact hp.1.2.2.2.1
  · rw [st_L, if_pos ⟨rfl, rfl⟩]; rfl
theorem sp_X9_tenTo_4 {σ : ka_S} {m : Nat} {Q : Int64 → ka_S → Prop} (hm : m ≤ 16) (h : Q (lN (10 ^ m)) σ) : ∀ (n k : Nat), k ≤ m → m < k + n → kw_X9_tenTo_4 Q n σ (nI m) (lN (10 ^ k)) (nI k) := by
  intro n
  induction n with
  | zero => intro k h1 h2; omega
  | succ n ih =>
    intro k h1 h2
    rw [kw_X9_tenTo_4, nI_leI (by omega) (by omega)]
    refine ⟨fun q => ?_, fun q => ?_⟩
    · obtain rfl : k = m := by omega
      exact h
    · rw [show (10 : Int64) = lN 10 from rfl, lN_mul, ← Nat.pow_succ, forall_eq, forall_eq, show (nI k + 1 : Int32) = nI (k + 1) from nI_1 k]
      exact ih (k + 1) (by omega) (by omega)
theorem sp_X9_tenTo {σ : ka_S} {m : Nat} {Q : Int64 → ka_S → Prop} (hm : m ≤ 4) (h : Q (lN (10000 ^ m)) σ) : kw_X9_tenTo σ ((4 : Int32) * nI m) Q := by
  rw [show (4 : Int32) * nI m = nI (4 * m) by rw [kI_lit, pk_mul]]
  have e : 10000 ^ m = 10 ^ (4 * m) := by rw [Nat.pow_mul]
  rw [e] at h
  exact ⟨17, sp_X9_tenTo_4 (m := 4 * m) (by omega) h 17 0 (Nat.zero_le _) (by omega)⟩
theorem mt_fillW_le {i : Nat} : ∀ (n p : Nat) (s : ma_P × Nat), (mt_fillW i n p s).2 ≤ s.2 + n := by
  intro n
  induction n with
  | zero => intro p s; exact Nat.le_refl _
  | succ n ih =>
    intro p s
    have z := ih (p + 1) (mu_fill s i p)
    have e : (mu_fill s i p).2 ≤ s.2 + 1 := by
      unfold mu_fill
      by_cases q : mw_G (mp_D s.1 i) p = [] ∧ mq_find s.1 (mw_P (mp_D s.1 i) p) < mp_L s.1
      · rw [if_pos q]; exact Nat.le_refl _
      · rw [if_neg q]; exact Nat.le_succ _
    show (mt_fillW i n (p + 1) (mu_fill s i p)).2 ≤ s.2 + (n + 1)
    omega
theorem mt_fillP_le : ∀ (n i : Nat) (s : ma_P × Nat), mp_ok s.1 → i + n ≤ mp_N s.1 → (mt_fillP n i s).2 ≤ s.2 + 4 * n := by
  intro n
  induction n with
  | zero => intro i s _ _; exact Nat.le_refl _
  | succ n ih =>
    intro i s ok hi
    have z := mt_fillW_ok (i := i) (mw_S (mp_D s.1 i)) 0 s ok (by omega)
    have z2 := mt_fillW_le (i := i) (mw_S (mp_D s.1 i)) 0 s
    have z3 := ih (i + 1) _ z.1 (by omega)
    have hS := (ok.2.2.2.2.2.1 i (by omega)).1
    show (mt_fillP n (i + 1) (mt_fillW i (mw_S (mp_D s.1 i)) 0 s)).2 ≤ s.2 + 4 * (n + 1)
    omega
theorem mt_fill_le {M : ma_P} (ok : mp_ok M) : (mt_fill M).2 ≤ 48 := by
  have z := mt_fillP_le (mp_N M) 0 (M, 0) ok (by show 0 + mp_N M ≤ mp_N M; omega)
  have := ok.1
  have e : ((M, 0) : ma_P × Nat).2 = 0 := rfl
  show (mt_fillP (mp_N M) 0 (M, 0)).2 ≤ 48
  omega
theorem sp_X9_command {σ : ka_S} {M : ma_P} {c : Nat} {Q : Int32 → ka_S → Prop} (ok : mp_ok M) (hp : rd_P σ (38, 0, 0) M) (hc : c < 10000) (h : mp_post (mp_cmd M c) (fun M' => ∀ σ', ag xtm σ σ' → rd_P σ' (38, 0, 0) M' → Q 1 σ') (∀ σ', ag xtm σ σ' → Q 0 σ')) : kw_X9_command σ (nI c) Q := by
  have hN := ok.1
  have x1 : nI c / (1000 : Int32) = nI (c / 1000) := pk_div (d := 1000) (by omega) (by decide) (by decide)
  have x2 : nI c / (100 : Int32) = nI (c / 100) := pk_div (d := 100) (by omega) (by decide) (by decide)
  have x3 : nI (c / 100) - nI (c / 100) / (10 : Int32) * (10 : Int32) = nI (c / 100 % 10) := kI_rem (b := 10) (by omega) (by decide) (by decide)
  have x4 : nI c - nI (c / 100) * (100 : Int32) = nI (c % 100) := by
    rw [← x2]; exact kI_rem (b := 100) (by omega) (by decide) (by decide)
  have b1 : c / 1000 < 10 := by omega
  have b2 : c / 100 % 10 < 10 := Nat.mod_lt _ (by decide)
  have b3 : c % 100 < 100 := Nat.mod_lt _ (by decide)
  have c7 : nI c = (7000 : Int32) ↔ c = 7000 := nI_eq (b := 7000) (by omega) (by decide)
  have h7 : c / 1000 = 7 → (c = 7000 ↔ c / 100 % 10 = 0 ∧ c % 100 = 0) := by omega
  unfold mp_cmd at h
  unfold kw_X9_command
  rw [x1, x2, x3, x4, forall_eq, forall_eq, forall_eq]
  generalize c / 1000 = d at h b1 h7 ⊢
  generalize c / 100 % 10 = s at h b2 h7 ⊢
  generalize c % 100 = n at h b3 h7 ⊢
  have eqd : ∀ m : Nat, m < 10 → (nI d = nI m ↔ d = m) := fun m hm => nI_eq (by omega) (by omega)
  have d1 : nI d = (1 : Int32) ↔ d = 1 := eqd 1 (by decide)
  have d2 : nI d = (2 : Int32) ↔ d = 2 := eqd 2 (by decide)
  have d3 : nI d = (3 : Int32) ↔ d = 3 := eqd 3 (by decide)
  have d4 : nI d = (4 : Int32) ↔ d = 4 := eqd 4 (by decide)
  have d5 : nI d = (5 : Int32) ↔ d = 5 := eqd 5 (by decide)
  have d6 : nI d = (6 : Int32) ↔ d = 6 := eqd 6 (by decide)
  have d7 : nI d = (7 : Int32) ↔ d = 7 := eqd 7 (by decide)
  have d8 : nI d = (8 : Int32) ↔ d = 8 := eqd 8 (by decide)
  have d9 : nI d = (9 : Int32) ↔ d = 9 := eqd 9 (by decide)
  have s0 : nI s = (0 : Int32) ↔ s = 0 := nI_eq (b := 0) (by omega) (by decide)
  have tn : (nI n).toInt = (n : Int) := nI_toInt (by omega)
  have v2 : vp_in (2 : Int32) 253 := (kI_in (k := 2) (by decide)).mpr (by decide)
  have v4 : vp_in (4 : Int32) 253 := (kI_in (k := 4) (by decide)).mpr (by decide)
  have main : ∀ t0 : Int32, (t0 = 0 ↔ ¬ (s = 0 ∧ n < mp_N M)) → kw_X9_command_41 Q σ (nI c) (nI d) (nI s) (nI n) t0 := by
    intro t0 ht
    unfold kw_X9_command_41
    rw [d1, d2, d3, d4, d5, d6, d7, d8, d9, s0, c7, ht]
    have none0 : ¬ d = 6 → ¬ s = 0 → Q 0 σ := fun q6 qs => by
      rw [if_neg q6, if_pos qs] at h
      exact h σ ag_refl
    have ht1 : ¬ ¬ (s = 0 ∧ n < mp_N M) → s = 0 ∧ n < mp_N M := fun q => Decidable.byContradiction q
    refine ⟨fun e1 => ⟨fun qs => ?_, none0 (by omega)⟩, fun e1 => ⟨fun e2 => ⟨fun qs => ?_, none0 (by omega)⟩, fun e2 => ⟨fun e3 => ⟨fun q => ?_, fun q => ?_⟩, fun e3 => ⟨fun e4 => ⟨fun q => ?_, fun q => ?_⟩, fun e4 => ⟨fun e5 => ⟨fun q => ?_, fun q => ?_⟩, fun e5 => ⟨fun e6 => ?_, fun e6 => ⟨fun e7 => ⟨fun q => ?_, fun q => ?_⟩, fun e7 => ⟨fun e8 => ⟨fun qs => ?_, none0 (by omega)⟩, fun e8 => ⟨fun e9 => ⟨fun qs => ?_, none0 (by omega)⟩, fun e9 => ?_⟩⟩⟩⟩⟩⟩⟩⟩⟩
    · rw [if_neg (by omega), if_neg (fun y => y qs), if_pos e1] at h
      refine sp_X9_isSetting (fun w => ⟨fun q => absurd q (by decide), fun _ => ⟨v2, ?_⟩⟩) (fun w => ⟨fun _ => ?_, fun q => absurd rfl q⟩)
      · have w2 : 10 ≤ n ∧ n ≤ 60 := by
          rcases w with w | w | w
          · rw [tn] at w; omega
          · exact absurd w.1 (by decide)
          · exact absurd w.1 (by decide)
        rw [if_pos w2] at h
        rw [show (2 : Int32).toNatClampNeg = 2 from rfl, nI_l (by omega), forall_eq]
        exact h _ (ag_L ag_refl (Or.inl rfl)) (rd_P_setW ok hp)
      · rw [if_neg (fun w2 => w (Or.inl ⟨rfl, by rw [tn]; omega⟩))] at h
        exact h σ ag_refl
    · rw [if_neg (by omega), if_neg (fun y => y qs), if_neg e1, if_pos e2] at h
      refine sp_X9_isSetting (fun w => ⟨fun q => absurd q (by decide), fun _ => ⟨v4, ?_⟩⟩) (fun w => ⟨fun _ => ?_, fun q => absurd rfl q⟩)
      · have w2 : n ≤ 1 := by
          rcases w with w | w | w
          · exact absurd w.1 (by decide)
          · exact absurd w.1 (by decide)
          · rw [tn] at w; omega
        rw [if_pos w2] at h
        rw [show (4 : Int32).toNatClampNeg = 4 from rfl, nI_l (by omega), forall_eq]
        exact h _ (ag_L ag_refl (Or.inl rfl)) (rd_P_setY ok hp)
      · rw [if_neg (fun w2 => w (Or.inr (Or.inr ⟨rfl, by rw [tn]; omega⟩)))] at h
        exact h σ ag_refl
    · by_cases qs : s = 0
      · rw [if_neg (by omega), if_neg (fun y => y qs), if_neg e1, if_neg e2, if_pos e3, if_neg (fun y => q ⟨qs, y⟩)] at h
        exact h σ ag_refl
      · exact none0 (by omega) qs
    · obtain ⟨qs, hn⟩ := ht1 q
      rw [if_neg (by omega), if_neg (fun y => y qs), if_neg e1, if_neg e2, if_pos e3, if_pos hn] at h
      refine sp_X9_cell (j := 1) ⟨(kI_in (by omega)).mpr (by omega), ?_⟩
      rw [nI_clamp (by omega), forall_eq]
      exact h _ (ag_L ag_refl (Or.inl rfl)) (rd_P_end ok hp hn)
    · by_cases qs : s = 0
      · rw [if_neg (by omega), if_neg (fun y => y qs), if_neg e1, if_neg e2, if_neg e3, if_pos e4, if_neg (fun y => q ⟨qs, y⟩)] at h
        exact h σ ag_refl
      · exact none0 (by omega) qs
    · obtain ⟨qs, hn⟩ := ht1 q
      rw [if_neg (by omega), if_neg (fun y => y qs), if_neg e1, if_neg e2, if_neg e3, if_pos e4, if_pos hn] at h
      exact sp_X9_joinOn rfl ok hp hn (fun σ1 a1 r1 => h σ1 (ag_mono a1 xr_tm) r1)
    · by_cases qs : s = 0
      · rw [if_neg (by omega), if_neg (fun y => y qs), if_neg e1, if_neg e2, if_neg e3, if_neg e4, if_pos e5, if_neg (fun y => q ⟨qs, y⟩)] at h
        exact h σ ag_refl
      · exact none0 (by omega) qs
    · obtain ⟨qs, hn⟩ := ht1 q
      rw [if_neg (by omega), if_neg (fun y => y qs), if_neg e1, if_neg e2, if_neg e3, if_neg e4, if_pos e5, if_pos hn] at h
      exact sp_X9_removeOn rfl ok hp hn (fun σ1 a1 r1 => h σ1 (ag_mono a1 xr_tm) r1)
    · rw [if_pos e6] at h
      refine sp_X9_isPartOf rfl ok hp (fun i p hi hk ei ep => ⟨fun q => absurd q (by decide), fun _ => ?_⟩) (fun w => ⟨fun _ => ?_, fun q => absurd rfl q⟩)
      · have hS := (ok.2.2.2.2.2.1 i hi).1
        rw [nI_eq (by omega) (by omega)] at ei ep
        subst ei ep
        refine sp_X9_canLearn rfl ok hp hi hk (fun w => ⟨fun q => absurd q (by decide), fun _ => ?_⟩) (fun w => ⟨fun _ => ?_, fun q => absurd rfl q⟩)
        · rw [if_pos ⟨⟨hi, hk⟩, w⟩] at h
          exact sp_X9_learnOn rfl ok hp hi hk w.2 (fun σ1 a1 r1 => h σ1 (ag_mono a1 xr_tm) r1)
        · rw [if_neg (fun y => w y.2)] at h
          exact h σ ag_refl
      · rw [if_neg (fun y => w n s y.1.1 y.1.2 ⟨rfl, rfl⟩)] at h
        exact h σ ag_refl
    · obtain ⟨qs, qn⟩ := (h7 e7).mp q
      rw [if_neg e6, if_neg (fun y => y qs), if_neg e1, if_neg e2, if_neg e3, if_neg e4, if_neg e5, if_pos e7, if_pos qn] at h
      refine sp_X9_fillOn rfl ok hp (fun σ1 a1 r1 _ => ⟨fun y => ?_, fun _ => h σ1 (ag_mono a1 xr_tm) r1⟩)
      have hle : (mt_fill M).2 ≤ 48 := mt_fill_le ok
      exact absurd y (nI_pos (by omega))
    · by_cases qs : s = 0
      · rw [if_neg e6, if_neg (fun y => y qs), if_neg e1, if_neg e2, if_neg e3, if_neg e4, if_neg e5, if_pos e7, if_neg (fun y => q ((h7 e7).mpr ⟨qs, y⟩))] at h
        exact h σ ag_refl
      · exact none0 e6 qs
    · rw [if_neg e6, if_neg (fun y => y qs), if_neg e1, if_neg e2, if_neg e3, if_neg e4, if_neg e5, if_neg e7, if_pos e8] at h
      have hr := mt_rows_le ok
      refine sp_X9_rowsOf rfl (by decide) ok hp (fun σ1 a1 r1 => ?_)
      rw [show tr (mt_lay M (mp_W M) (mp_Y M) (mp_N M)) = mt_rows M from rfl, nI_ltI (by omega) (by omega)]
      refine ⟨fun w => ?_, fun w => ?_⟩
      · rw [if_neg (by omega)] at h
        exact h σ1 (ag_mono a1 xy_tm)
      · rw [if_pos (by omega)] at h
        exact h σ1 (ag_mono a1 xy_tm) (rd_P_xy (by decide) ok hp a1)
    · rw [if_neg e6, if_neg (fun y => y qs), if_neg e1, if_neg e2, if_neg e3, if_neg e4, if_neg e5, if_neg e7, if_neg e8, if_pos e9] at h
      have hr := mt_gapsP_le ok
      refine sp_X9_gaps rfl ok hp ?_
      rw [nI_eq (by omega) (by omega)]
      refine ⟨fun w => ?_, fun w => ?_⟩
      · rw [if_pos w] at h
        exact h σ ag_refl hp
      · rw [if_neg w] at h
        exact h σ ag_refl
    · by_cases qs : s = 0
      · rw [if_neg e6, if_neg (fun y => y qs), if_neg e1, if_neg e2, if_neg e3, if_neg e4, if_neg e5, if_neg e7, if_neg e8, if_neg e9] at h
        exact h σ ag_refl
      · exact none0 e6 qs
  rw [s0]
  refine ⟨fun qs => sp_X9_isWordOf rfl ok hp (fun i hi ei => ⟨fun q => absurd q (by decide), fun _ => main 1 ?_⟩) (fun w => ⟨fun _ => main 0 ?_, fun q => absurd rfl q⟩), fun qs => main 0 ?_⟩
  · rw [nI_eq (by omega) (by omega)] at ei
    subst ei
    exact ⟨fun y => absurd y (by decide), fun y => absurd ⟨qs, hi⟩ y⟩
  · exact ⟨fun _ y => w n y.2 rfl, fun _ => rfl⟩
  · exact ⟨fun _ y => qs y.1, fun _ => rfl⟩
