/-! ===== scripts and simulations ===== -/
def mt_rows (M : ma_P) : Nat := tr (mt_lay M (mp_W M) (mp_Y M) (mp_N M))
def mp_post (o : Option ma_P) (f : ma_P → Prop) (z : Prop) : Prop := match o with
  | some s => f s
  | none => z
abbrev mc_cmd6 (M : ma_P) (i p : Nat) : Prop := (i < mp_N M ∧ p < mw_S (mp_D M i)) ∧ mw_G (mp_D M i) p ≠ [] ∧ (mp_L M < 16 ∨ mq_find M (mw_P (mp_D M i) p) < mp_L M)
def mp_cmd (M : ma_P) (c : Nat) : Option ma_P :=
  if c / 1000 = 6 then (if mc_cmd6 M (c % 100) (c / 100 % 10) then some (mp_learn M (mw_P (mp_D M (c % 100)) (c / 100 % 10)) (mw_G (mp_D M (c % 100)) (c / 100 % 10))) else none)
  else if c / 100 % 10 ≠ 0 then none
  else if c / 1000 = 1 then (if 10 ≤ c % 100 ∧ c % 100 ≤ 60 then some (mp_setW M (c % 100)) else none)
  else if c / 1000 = 2 then (if c % 100 ≤ 1 then some (mp_setY M (c % 100)) else none)
  else if c / 1000 = 3 then (if c % 100 < mp_N M then some (mp_setD M (c % 100) (mw_end (mp_D M (c % 100)))) else none)
  else if c / 1000 = 4 then (if c % 100 < mp_N M then some (mp_setD M (c % 100) (mw_join (mp_D M (c % 100)))) else none)
  else if c / 1000 = 5 then (if c % 100 < mp_N M then some (mp_remove M (c % 100)) else none)
  else if c / 1000 = 7 then (if c % 100 = 0 then some (mt_fill M).1 else none)
  else if c / 1000 = 8 then (if mt_rows M ≤ c % 100 then some M else none)
  else if c / 1000 = 9 then (if mt_gapsP M = c % 100 then some M else none)
  else none
theorem mt_fillW_ok {i : Nat} : ∀ (n p : Nat) (s : ma_P × Nat), mp_ok s.1 → i < mp_N s.1 → mp_ok (mt_fillW i n p s).1 ∧ mp_N (mt_fillW i n p s).1 = mp_N s.1 := by
  intro n
  induction n with
  | zero => intro p s ok hi; exact ⟨ok, rfl⟩
  | succ n ih =>
    intro p s ok hi
    have e := mu_fill_N s i p
    have z := ih (p + 1) (mu_fill s i p) (mu_fill_ok ok hi) (by omega)
    exact ⟨z.1, z.2.trans e⟩
theorem mt_fillP_ok : ∀ (n i : Nat) (s : ma_P × Nat), mp_ok s.1 → i + n ≤ mp_N s.1 → mp_ok (mt_fillP n i s).1 := by
  intro n
  induction n with
  | zero => intro i s ok _; exact ok
  | succ n ih =>
    intro i s ok hi
    have z := mt_fillW_ok (i := i) (mw_S (mp_D s.1 i)) 0 s ok (by omega)
    exact ih (i + 1) _ z.1 (by omega)
theorem mt_fill_ok {M : ma_P} (ok : mp_ok M) : mp_ok (mt_fill M).1 := mt_fillP_ok (mp_N M) 0 (M, 0) ok (by show 0 + mp_N M ≤ mp_N M; omega)
theorem mp_cmd_ok {M : ma_P} {c : Nat} (ok : mp_ok M) : mp_post (mp_cmd M c) mp_ok True := by
  unfold mp_cmd
  by_cases e6 : c / 1000 = 6
  · rw [if_pos e6]
    by_cases q : mc_cmd6 M (c % 100) (c / 100 % 10)
    · rw [if_pos q]
      have w := (ok.2.2.2.2.2.1 _ q.1.1).2.2.2.2.1 _ q.1.2
      exact mp_learn_ok ok w.1 w.2.1 q.2.1 q.2.2
    · rw [if_neg q]; trivial
  rw [if_neg e6]
  by_cases e0 : c / 100 % 10 ≠ 0
  · rw [if_pos e0]; trivial
  rw [if_neg e0]
  by_cases e1 : c / 1000 = 1
  · rw [if_pos e1]
    by_cases q : 10 ≤ c % 100 ∧ c % 100 ≤ 60
    · rw [if_pos q]; exact mp_setW_ok ok q
    · rw [if_neg q]; trivial
  rw [if_neg e1]
  by_cases e2 : c / 1000 = 2
  · rw [if_pos e2]
    by_cases q : c % 100 ≤ 1
    · rw [if_pos q]; exact mp_setY_ok ok q
    · rw [if_neg q]; trivial
  rw [if_neg e2]
  by_cases e3 : c / 1000 = 3
  · rw [if_pos e3]
    by_cases q : c % 100 < mp_N M
    · rw [if_pos q]; exact mp_setD_ok ok (mw_end_ok (ok.2.2.2.2.2.1 _ q))
    · rw [if_neg q]; trivial
  rw [if_neg e3]
  by_cases e4 : c / 1000 = 4
  · rw [if_pos e4]
    by_cases q : c % 100 < mp_N M
    · rw [if_pos q]; exact mp_setD_ok ok (mw_join_ok (ok.2.2.2.2.2.1 _ q))
    · rw [if_neg q]; trivial
  rw [if_neg e4]
  by_cases e5 : c / 1000 = 5
  · rw [if_pos e5]
    by_cases q : c % 100 < mp_N M
    · rw [if_pos q]; exact mp_remove_ok ok q
    · rw [if_neg q]; trivial
  rw [if_neg e5]
  by_cases e7 : c / 1000 = 7
  · rw [if_pos e7]
    by_cases q : c % 100 = 0
    · rw [if_pos q]; exact mt_fill_ok ok
    · rw [if_neg q]; trivial
  rw [if_neg e7]
  by_cases e8 : c / 1000 = 8
  · rw [if_pos e8]
    by_cases q : mt_rows M ≤ c % 100
    · rw [if_pos q]; exact ok
    · rw [if_neg q]; trivial
  rw [if_neg e8]
  by_cases e9 : c / 1000 = 9
  · rw [if_pos e9]
    by_cases q : mt_gapsP M = c % 100
    · rw [if_pos q]; exact ok
    · rw [if_neg q]; trivial
  rw [if_neg e9]; trivial
/-- the class's trial page, and its layout -/
def xtr (k : ka_K) (n : Nat) : Prop := xp 1 k n ∨ xa k n
theorem xp_tr (k : ka_K) (n : Nat) (h : xp 1 k n) : xtr k n := Or.inl h
theorem xa_tr (k : ka_K) (n : Nat) (h : xa k n) : xtr k n := Or.inr h
theorem mt_rows_le {M : ma_P} (ok : mp_ok M) : mt_rows M ≤ 60 := by
  have b := mt_lay_le (y := mp_Y M) ok ok.2.2.1 (mp_N M) (Nat.le_refl _)
  have := ok.1
  unfold mt_rows
  omega
theorem mt_gapsP_le {M : ma_P} (ok : mp_ok M) : mt_gapsP M ≤ 48 := by
  have h1 : ma_sum (fun i => mt_gaps (mp_D M i)) (mp_N M) ≤ mp_N M * 4 := ma_sum_le _ (fun i hi => by
    have h2 := ma_sum_le (f := mf_gap (mp_D M i)) (c := 1) (mw_S (mp_D M i)) (fun p _ => by
      show (if mw_G (mp_D M i) p = [] then 1 else 0) ≤ 1
      by_cases e : mw_G (mp_D M i) p = []
      · rw [if_pos e]; exact Nat.le_refl 1
      · rw [if_neg e]; exact Nat.zero_le 1)
    have h3 := (ok.2.2.2.2.2.1 i hi).1
    show ma_sum (mf_gap (mp_D M i)) (mw_S (mp_D M i)) ≤ 4
    omega)
  have := ok.1
  show ma_sum (fun i => mt_gaps (mp_D M i)) (mp_N M) ≤ 48
  omega
theorem sp_X8_succeeds {σ : ka_S} {M : ma_P} {c : Nat} {Q : Int32 → ka_S → Prop} (ok : mp_ok M) (hp : rc_P σ 1 M) (hc : c < 10000) (h : mp_post (mp_cmd M c) (fun M' => ∀ σ', ag xtr σ σ' → rc_P σ' 1 M' → Q 1 σ') (∀ σ', ag xtr σ σ' → Q 0 σ')) : kw_X8_succeeds σ (nI c) Q := by
  have hN := ok.1
  have x1 : nI c / (1000 : Int32) = nI (c / 1000) := pk_div (d := 1000) (by omega) (by decide) (by decide)
  have x2 : nI c / (100 : Int32) = nI (c / 100) := pk_div (d := 100) (by omega) (by decide) (by decide)
  have x3 : nI (c / 100) - nI (c / 100) / (10 : Int32) * (10 : Int32) = nI (c / 100 % 10) := kI_rem (b := 10) (by omega) (by decide) (by decide)
  have x4 : nI c - nI (c / 100) * (100 : Int32) = nI (c % 100) := by
    rw [← x2]; exact kI_rem (b := 100) (by omega) (by decide) (by decide)
  have b1 : c / 1000 < 10 := by omega
  have b2 : c / 100 % 10 < 10 := Nat.mod_lt _ (by decide)
  have b3 : c % 100 < 100 := Nat.mod_lt _ (by decide)
  unfold mp_cmd at h
  unfold kw_X8_succeeds
  rw [x1, x2, x3, x4, forall_eq, forall_eq, forall_eq]
  generalize c / 1000 = d at h b1 ⊢
  generalize c / 100 % 10 = s at h b2 ⊢
  generalize c % 100 = n at h b3 ⊢
  have i0 : (0 : Int32) = 0 ∨ (0 : Int32) = 1 := Or.inl rfl
  have i1 : (1 : Int32) = 0 ∨ (1 : Int32) = 1 := Or.inr rfl
  have eqd : ∀ m : Nat, m < 10 → (nI d = nI m ↔ d = m) := fun m hm => nI_eq (by omega) (by omega)
  have d1 : nI d = (1 : Int32) ↔ d = 1 := eqd 1 (by decide)
  have d2 : nI d = (2 : Int32) ↔ d = 2 := eqd 2 (by decide)
  have d3 : nI d = (3 : Int32) ↔ d = 3 := eqd 3 (by decide)
  have d4 : nI d = (4 : Int32) ↔ d = 4 := eqd 4 (by decide)
  have d5 : nI d = (5 : Int32) ↔ d = 5 := eqd 5 (by decide)
  have d6 : nI d = (6 : Int32) ↔ d = 6 := eqd 6 (by decide)
  have d7 : nI d = (7 : Int32) ↔ d = 7 := eqd 7 (by decide)
  have d8 : nI d = (8 : Int32) ↔ d = 8 := eqd 8 (by decide)
  have d9 : nI d = (9 : Int32) ↔ d = 9 := eqd 9 (by decide)
  have s0 : nI s = (0 : Int32) ↔ s = 0 := nI_eq (b := 0) (by omega) (by decide)
  have n0 : nI n = (0 : Int32) ↔ n = 0 := nI_eq (b := 0) (by omega) (by decide)
  have tn : (nI n).toInt = (n : Int) := nI_toInt (by omega)
  -- a setting
  have set9 : mp_post (if 10 ≤ n ∧ n ≤ 60 then some (mp_setW M n) else none) (fun M' => ∀ σ', ag xtr σ σ' → rc_P σ' 1 M' → Q 1 σ') (∀ σ', ag xtr σ σ' → Q 0 σ') → kw_X8_setsOnTrial σ 9 (nI n) (fun r5 σ4 => (r5 = 0 ∨ r5 = 1) ∧ Q r5 σ4) := by
    intro h
    refine sp_X4_allows (fun w => ⟨fun q => absurd q (by decide), fun _ => ?_⟩) (fun w => ⟨fun _ => ⟨i0, ?_⟩, fun q => absurd rfl q⟩)
    · have w2 : 10 ≤ n ∧ n ≤ 60 := by
        rcases w with w | w | w
        · rw [tn] at w; omega
        · exact absurd w.1 (by decide)
        · exact absurd w.1 (by decide)
      rw [if_pos w2] at h
      exact sp_X4_change9 hp (fun σ1 a1 r1 => ⟨i1, h σ1 (ag_mono a1 xp_tr) r1⟩)
    · rw [if_neg (fun w2 => w (Or.inl ⟨rfl, by rw [tn]; omega⟩))] at h
      exact h σ ag_refl
  have set11 : mp_post (if n ≤ 1 then some (mp_setY M n) else none) (fun M' => ∀ σ', ag xtr σ σ' → rc_P σ' 1 M' → Q 1 σ') (∀ σ', ag xtr σ σ' → Q 0 σ') → kw_X8_setsOnTrial σ 11 (nI n) (fun r5 σ4 => (r5 = 0 ∨ r5 = 1) ∧ Q r5 σ4) := by
    intro h
    refine sp_X4_allows (fun w => ⟨fun q => absurd q (by decide), fun _ => ?_⟩) (fun w => ⟨fun _ => ⟨i0, ?_⟩, fun q => absurd rfl q⟩)
    · have w2 : n ≤ 1 := by
        rcases w with w | w | w
        · exact absurd w.1 (by decide)
        · exact absurd w.1 (by decide)
        · rw [tn] at w; omega
      rw [if_pos w2] at h
      exact sp_X4_change11 hp (fun σ1 a1 r1 => ⟨i1, h σ1 (ag_mono a1 xp_tr) r1⟩)
    · rw [if_neg (fun w2 => w (Or.inr (Or.inr ⟨rfl, by rw [tn]; omega⟩)))] at h
      exact h σ ag_refl
  -- a word
  have wd : ∀ (v : Int32) (M' : ma_P), mp_post (if n < mp_N M then some M' else none) (fun M' => ∀ σ', ag xtr σ σ' → rc_P σ' 1 M' → Q 1 σ') (∀ σ', ag xtr σ σ' → Q 0 σ') →
      (n < mp_N M → (∀ σ', ag xtr σ σ' → rc_P σ' 1 M' → Q 1 σ') → (v = (3 : Int32) → vp_in (nI n) 12 ∧ ∀ σ7 : ka_S, σ7 = ka_wI σ (5, 1, (nI n).toNatClampNeg) 6 (1 : Int32) → ((1 : Int32) = 0 ∨ (1 : Int32) = 1) ∧ Q (1 : Int32) σ7) ∧
        (¬ v = (3 : Int32) → (v = (4 : Int32) → vp_in (nI n) 12 ∧ kw_X7_dropEnd σ 1 (nI n).toNatClampNeg (fun σ5 => ((1 : Int32) = 0 ∨ (1 : Int32) = 1) ∧ Q (1 : Int32) σ5)) ∧ (¬ v = (4 : Int32) → kw_X4_dropWord σ 1 (nI n) (fun σ3 => ((1 : Int32) = 0 ∨ (1 : Int32) = 1) ∧ Q (1 : Int32) σ3)))) →
      kw_X8_changesWordOfTrial σ v (nI n) (fun r9 σ8 => (r9 = 0 ∨ r9 = 1) ∧ Q r9 σ8) := by
    intro v M' h hh
    unfold kw_X8_changesWordOfTrial
    refine sp_X4_hasWord hp ok (by omega) (fun w => ⟨fun q => absurd q (by decide), fun _ => ?_⟩) (fun w => ⟨fun _ => ⟨i0, ?_⟩, fun q => absurd rfl q⟩)
    · rw [if_pos w] at h
      exact hh w h
    · rw [if_neg w] at h
      exact h σ ag_refl
  rw [d6, s0, d1, d2, d3, d4, d5, d7, d8, d9, n0]
  refine ⟨fun q6 => ?_, fun q6 => ⟨fun qs => ?_, fun qs => ?_⟩⟩
  · rw [if_pos q6] at h
    refine sp_X4_canLearnV hp ok (fun i p hi hk ei ep hl => ⟨fun q => absurd q (by decide), fun _ => ?_⟩) (fun w => ⟨fun _ => ⟨i0, ?_⟩, fun q => absurd rfl q⟩)
    · have hS := (ok.2.2.2.2.2.1 i hi).1
      rw [nI_eq (by omega) (by omega)] at ei ep
      subst ei ep
      rw [if_pos ⟨⟨hi, hk⟩, hl⟩] at h
      exact sp_X4_learnPart hp ok hi hk hl (fun σ1 a1 r1 => ⟨i1, h σ1 (ag_mono a1 xp_tr) r1⟩)
    · rw [if_neg (fun y => w n s y.1.1 y.1.2 y.2 ⟨rfl, rfl⟩)] at h
      exact h σ ag_refl
  · rw [if_neg q6, if_neg (fun y => y qs)] at h
    refine ⟨fun e => ?_, fun e => ⟨fun e2 => ?_, fun e2 => ⟨fun e3 => ?_, fun e3 => ⟨fun e4 => ?_, fun e4 => ⟨fun e5 => ?_, fun e5 => ⟨fun e6 => absurd e6 q6, fun _ => ⟨fun e7 => ⟨fun e0 => ?_, fun e0 => ?_⟩, fun e7 => ⟨fun e8 => ?_, fun e8 => ⟨fun e9 => ?_, fun e9 => ?_⟩⟩⟩⟩⟩⟩⟩⟩⟩
    · rw [if_pos e] at h
      exact set9 h
    · rw [if_neg e, if_pos e2] at h
      exact set11 h
    · rw [if_neg e, if_neg e2, if_pos e3] at h
      refine wd _ _ h (fun w hh => ⟨fun _ => ⟨(kI_in (by omega)).mpr (by omega), ?_⟩, fun q => absurd (d3.mpr e3) q⟩)
      rw [nI_clamp (by omega), forall_eq]
      have a1 : ag (xw 1 n) σ (ka_wI σ (5, 1, n) 6 1) := ag_I ag_refl (xw_k (by decide) (by decide))
      exact ⟨i1, hh _ (ag_mono a1 (fun k m q => Or.inl (xw_p k m q))) (rc_P_setD hp a1 (rc_W_end (hp.2.2 n w)))⟩
    · rw [if_neg e, if_neg e2, if_neg e3, if_pos e4] at h
      refine wd _ _ h (fun w hh => ⟨fun q => absurd (d3.mp q) e3, fun _ => ⟨fun _ => ⟨(kI_in (by omega)).mpr (by omega), ?_⟩, fun q => absurd (d4.mpr e4) q⟩⟩)
      rw [nI_clamp (by omega)]
      exact sp_X7_dropEnd (hp.2.2 n w) (fun σ1 a1 r1 => ⟨i1, hh _ (ag_mono a1 (fun k m q => Or.inl (xw_p k m q))) (rc_P_setD hp a1 r1)⟩)
    · rw [if_neg e, if_neg e2, if_neg e3, if_neg e4, if_pos e5] at h
      exact wd _ _ h (fun w hh => ⟨fun q => absurd (d3.mp q) e3, fun _ => ⟨fun q => absurd (d4.mp q) e4, fun _ => sp_X4_dropWord hp ok w (fun σ1 a1 r1 => ⟨i1, hh σ1 (ag_mono a1 xp_tr) r1⟩)⟩⟩)
    · rw [if_neg e, if_neg e2, if_neg e3, if_neg e4, if_neg e5, if_pos e7, if_pos e0] at h
      exact sp_X4_fill hp ok (fun σ1 a1 r1 _ => ⟨fun q => absurd q (by decide), fun _ => h σ1 (ag_mono a1 xp_tr) r1⟩)
    · rw [if_neg e, if_neg e2, if_neg e3, if_neg e4, if_neg e5, if_pos e7, if_neg e0] at h
      exact h σ ag_refl
    · rw [if_neg e, if_neg e2, if_neg e3, if_neg e4, if_neg e5, if_neg e7, if_pos e8] at h
      have hr := mt_rows_le ok
      refine sp_X8_arranged ok hp (fun σ1 a1 r1 => ?_)
      have r4 : σ1.1 (12, 0, 0) 4 = nI (mt_rows M) := r1.1.1.2
      rw [r4, nI_ltI (by omega) (by omega)]
      refine ⟨fun w => ?_, fun w => ?_⟩
      · rw [if_neg (by omega)] at h
        exact h σ1 (ag_mono a1 xa_tr)
      · rw [if_pos (by omega)] at h
        exact h σ1 (ag_mono a1 xa_tr) (rc_P_xa hp a1)
    · rw [if_neg e, if_neg e2, if_neg e3, if_neg e4, if_neg e5, if_neg e7, if_neg e8, if_pos e9] at h
      have hr := mt_gapsP_le ok
      refine sp_X4_countGaps hp ok ?_
      rw [nI_eq (by omega) (by omega)]
      refine ⟨fun w => ?_, fun w => ?_⟩
      · rw [if_pos w] at h
        exact h σ ag_refl hp
      · rw [if_neg w] at h
        exact h σ ag_refl
    · rw [if_neg e, if_neg e2, if_neg e3, if_neg e4, if_neg e5, if_neg e7, if_neg e8, if_neg e9] at h
      exact h σ ag_refl
  · rw [if_neg q6, if_pos qs] at h
    exact h σ ag_refl
