/-! ===== the reference's words ===== -/
theorem sp_X9_shownLength {σ : ka_S} {a : ka_K} {M : ma_P} {i p : Nat} {Q : Int32 → ka_S → Prop} (hn : ka_n a = 253) (ok : mp_ok M) (hp : rd_P σ a M) (hi : i < mp_N M) (hk : p < mw_S (mp_D M i)) (h : Q (nI (mf_s (mp_D M i) p)) σ) : kw_X9_shownLength σ a (nI i) (nI p) Q := by
  have hN := ok.1
  have okw := ok.2.2.2.2.2.1 i hi
  have hS := okw.1
  have hg := (okw.2.2.2.2.1 p hk).2.1
  have e : mf_s (mp_D M i) p = (if mw_G (mp_D M i) p = [] then [42] else mw_G (mp_D M i) p).length := rfl
  rw [e] at h
  unfold kw_X9_shownLength
  rw [hn]
  refine sp_X9_glossAt ⟨(kI_in (by omega)).mpr (by omega), ?_⟩
  rw [nI_clamp (by omega), rd_g hp hi hk, forall_eq, ma_M_z hg]
  refine ⟨fun z => ?_, fun z => sp_X9_lettersOf hg ?_⟩
  · rw [if_pos z] at h
    exact h
  · rw [if_neg z] at h
    exact h
theorem sp_X9_wide_18 {σ : ka_S} {a : ka_K} {M : ma_P} {i y : Nat} {Q : Int32 → ka_S → Prop} (hn : ka_n a = 253) (ok : mp_ok M) (hp : rd_P σ a M) (hi : i < mp_N M) (hy : y ≤ 1) (h : Q (nI (mt_width (mp_D M i) y)) σ) :
    ∀ (n k : Nat), k ≤ mw_S (mp_D M i) → mw_S (mp_D M i) < k + n → kw_X9_wide_18 a Q n σ (nI i) (nI y) (nI (ma_sum (mf_p (mp_D M i)) k)) (nI (ma_sum (mf_s (mp_D M i)) k)) (nI (ma_sum (mf_x (mp_D M i)) k)) (nI (mw_S (mp_D M i))) (nI k) := by
  intro n
  induction n with
  | zero => intro k h1 h2; omega
  | succ n ih =>
    intro k h1 h2
    have hN := ok.1
    have okw := ok.2.2.2.2.2.1 i hi
    have hS := okw.1
    rw [kw_X9_wide_18]
    refine ⟨fun q => ?_, fun q => ?_⟩
    · rw [nI_leI (by omega) (by omega)] at q
      obtain rfl : k = mw_S (mp_D M i) := by omega
      have hb := mf_sum_le okw
      unfold mt_width at h
      have s1 : nI (mw_S (mp_D M i)) - (1 : Int32) = nI (mw_S (mp_D M i) - 1) := by rw [kI_lit, kI_sub (show 1 ≤ mw_S (mp_D M i) by omega)]
      rw [s1, nI_add, nI_add, nI_add, nI_leI (by omega) (by omega)]
      refine ⟨fun q2 => ?_, fun q2 => ⟨fun q3 => ?_, fun q3 => ?_⟩⟩
      · rw [kI_lit, nI_eq (by omega) (by decide)] at q2
        rw [if_pos q2] at h
        exact h
      · rw [kI_lit, nI_eq (by omega) (by decide)] at q2
        rw [if_neg q2, Nat.max_eq_right (by omega)] at h
        exact h
      · rw [kI_lit, nI_eq (by omega) (by decide)] at q2
        rw [if_neg q2, Nat.max_eq_left (by omega)] at h
        exact h
    · rw [nI_leI (by omega) (by omega)] at q
      have hk : k < mw_S (mp_D M i) := by omega
      have hw := (okw.2.2.2.2.1 k hk).1
      have b1 := mf_p_le okw hk
      have b2 := mf_s_le okw hk
      rw [hn]
      refine sp_X9_partAt ⟨(kI_in (by omega)).mpr (by omega), ?_⟩
      rw [nI_clamp (by omega), rd_p hp hi hk]
      refine sp_X9_lettersOf hw.g (sp_X9_shownLength hn ok hp hi hk ?_)
      have hl : nI (mw_P (mp_D M i) k).length = nI (mf_p (mp_D M i) k) := rfl
      have hz := ih (k + 1) (by omega) (by omega)
      have ex : ma_sum (mf_x (mp_D M i)) (k + 1) = ma_sum (mf_x (mp_D M i)) k + max (mf_p (mp_D M i) k) (mf_s (mp_D M i) k) := rfl
      rw [ex] at hz
      rw [hl, forall_eq, forall_eq, nI_add, nI_add, nI_leI (by omega) (by omega)]
      refine ⟨fun z => ?_, fun z => ?_⟩
      · rw [Nat.max_eq_right (by omega)] at hz
        rw [forall_eq, forall_eq, nI_add, show (nI k + 1 : Int32) = nI (k + 1) from nI_1 k]
        exact hz
      · rw [Nat.max_eq_left (by omega)] at hz
        rw [forall_eq, forall_eq, show (nI k + 1 : Int32) = nI (k + 1) from nI_1 k]
        simp only [nI_add]
        exact hz
theorem sp_X9_wide {σ : ka_S} {a : ka_K} {M : ma_P} {i y : Nat} {Q : Int32 → ka_S → Prop} (hn : ka_n a = 253) (ok : mp_ok M) (hp : rd_P σ a M) (hi : i < mp_N M) (hy : y ≤ 1) (h : Q (nI (mt_width (mp_D M i) y)) σ) : kw_X9_wide σ a (nI i) (nI y) Q :=
  sp_X9_parts hn ok hp hi ⟨5, sp_X9_wide_18 hn ok hp hi hy h 5 0 (Nat.zero_le _) (by have := (ok.2.2.2.2.2.1 i hi).1; omega)⟩
theorem sp_X9_entryOf_2 {σ : ka_S} {a : ka_K} {M : ma_P} {l : List Nat} {Q : Int32 → ka_S → Prop} (hn : ka_n a = 253) (ok : mp_ok M) (hp : rd_P σ a M) (hl : ma_g l) :
    ∀ (n k m : Nat), k + m = mp_L M → m < n → Q (if mt_find (mp_A M) l m k < mp_L M then nI (mt_find (mp_A M) l m k) else -9) σ → kw_X9_entryOf_2 a Q n σ (lN (ma_M l)) (nI k) := by
  intro n
  induction n with
  | zero => intro k m h1 h2; omega
  | succ n ih =>
    intro k m h1 h2 h
    have hL := ok.2.1
    rw [kw_X9_entryOf_2, hn]
    refine ⟨(kI_in (k := 1) (by decide)).mpr (by decide), ?_⟩
    rw [show (1 : Int32).toNatClampNeg = 1 from rfl, hp.1.2.1, nI_l (by omega), pk_lLE (by omega) (by omega)]
    refine ⟨fun q => ?_, fun q => ?_⟩
    · obtain rfl : m = 0 := by omega
      rw [show mt_find (mp_A M) l 0 k = k from rfl, if_neg (by omega)] at h
      exact h
    · obtain ⟨m, rfl⟩ : ∃ m', m = m' + 1 := ⟨m - 1, by omega⟩
      have hk : k < mp_L M := by omega
      have hA := (ok.2.2.2.2.2.2 k hk).1.g
      have e1 : (221 : Int32) + 2 * nI k = nI (221 + 2 * k) := by rw [kI_lit, kI_lit, pk_mul, nI_add]
      rw [e1]
      refine ⟨(kI_in (by omega)).mpr (by omega), ?_⟩
      rw [nI_clamp (by omega), (hp.2.2 k hk).1]
      have b1 := ma_M_lt hA
      have b2 := ma_M_lt hl
      unfold mt_find at h
      refine ⟨fun e => ?_, fun e => ?_⟩
      · rw [pk_lEQ (by omega) (by omega)] at e
        rw [if_pos (ma_M_inj hA hl e), if_pos hk] at h
        exact h
      · have hne : mp_A M k ≠ l := fun q => e (by rw [q])
        rw [if_neg hne] at h
        rw [forall_eq, show (nI k + 1 : Int32) = nI (k + 1) from nI_1 k]
        exact ih (k + 1) m (by omega) (by omega) h
theorem sp_X9_entryOf {σ : ka_S} {a : ka_K} {M : ma_P} {l : List Nat} {Q : Int32 → ka_S → Prop} (hn : ka_n a = 253) (ok : mp_ok M) (hp : rd_P σ a M) (hl : ma_g l) (h : Q (mi_find M l) σ) : kw_X9_entryOf σ a (lN (ma_M l)) Q :=
  ⟨17, sp_X9_entryOf_2 hn ok hp hl 17 0 (mp_L M) (Nat.zero_add _) (by have := ok.2.1; omega) h⟩
theorem sp_X9_canLearn {σ : ka_S} {a : ka_K} {M : ma_P} {i p : Nat} {Q : Int32 → ka_S → Prop} (hn : ka_n a = 253) (ok : mp_ok M) (hp : rd_P σ a M) (hi : i < mp_N M) (hk : p < mw_S (mp_D M i)) (h1 : mc_learn M i p → Q 1 σ) (h0 : ¬ mc_learn M i p → Q 0 σ) : kw_X9_canLearn σ a (nI i) (nI p) Q := by
  have hN := ok.1
  have hL := ok.2.1
  have hS := (ok.2.2.2.2.2.1 i hi).1
  have hw := (ok.2.2.2.2.2.1 i hi).2.2.2.2.1 p hk
  unfold kw_X9_canLearn
  rw [hn]
  refine sp_X9_glossAt ⟨(kI_in (by omega)).mpr (by omega), ?_⟩
  rw [nI_clamp (by omega), rd_g hp hi hk, ma_M_z hw.2.1]
  refine ⟨fun z => h0 (fun c => c.1 z), fun z => ⟨(kI_in (k := 1) (by decide)).mpr (by decide), ?_⟩⟩
  rw [show (1 : Int32).toNatClampNeg = 1 from rfl, hp.1.2.1, kI_litL, pk_lLT (by omega) (by decide)]
  refine ⟨fun z2 => h1 ⟨z, Or.inl z2⟩, fun z2 => sp_X9_partAt ⟨(kI_in (by omega)).mpr (by omega), ?_⟩⟩
  rw [nI_clamp (by omega), rd_p hp hi hk]
  refine sp_X9_entryOf hn ok hp hw.1.g ?_
  rw [mi_find_lt ok]
  exact ⟨fun z3 => h0 (fun c => by rcases c.2 with q | q; exact z2 q; exact z3 q), fun z3 => h1 ⟨z, Or.inr (Decidable.not_not.mp z3)⟩⟩
theorem sp_X9_gapsOf_4 {σ : ka_S} {a : ka_K} {M : ma_P} {i : Nat} {Q : Int32 → ka_S → Prop} (hn : ka_n a = 253) (ok : mp_ok M) (hp : rd_P σ a M) (hi : i < mp_N M) (h : Q (nI (mt_gaps (mp_D M i))) σ) :
    ∀ (n k : Nat), k ≤ mw_S (mp_D M i) → mw_S (mp_D M i) < k + n → kw_X9_gapsOf_4 a Q n σ (nI i) (nI (ma_sum (mf_gap (mp_D M i)) k)) (nI k) := by
  intro n
  induction n with
  | zero => intro k h1 h2; omega
  | succ n ih =>
    intro k h1 h2
    have hN := ok.1
    have hS := (ok.2.2.2.2.2.1 i hi).1
    rw [kw_X9_gapsOf_4]
    refine sp_X9_parts hn ok hp hi ⟨fun q => ?_, fun q => sp_X9_glossAt ?_⟩
    · rw [nI_leI (by omega) (by omega)] at q
      rw [show k = mw_S (mp_D M i) by omega]
      exact h
    · rw [nI_leI (by omega) (by omega)] at q
      have hk : k < mw_S (mp_D M i) := by omega
      have hg := ((ok.2.2.2.2.2.1 i hi).2.2.2.2.1 k hk).2.1
      have hz := ih (k + 1) (by omega) (by omega)
      have e : ma_sum (mf_gap (mp_D M i)) (k + 1) = ma_sum (mf_gap (mp_D M i)) k + (if mw_G (mp_D M i) k = [] then 1 else 0) := rfl
      rw [e] at hz
      rw [hn]
      refine ⟨(kI_in (by omega)).mpr (by omega), ?_⟩
      rw [nI_clamp (by omega), rd_g hp hi hk, ma_M_z hg, forall_eq, forall_eq, forall_eq, forall_eq, show (nI k + 1 : Int32) = nI (k + 1) from nI_1 k, kI_lit, kI_lit, nI_add, nI_add]
      refine ⟨fun z => ?_, fun z => ?_⟩
      · rw [if_pos z] at hz; exact hz
      · rw [if_neg z] at hz; exact hz
theorem sp_X9_gapsOf {σ : ka_S} {a : ka_K} {M : ma_P} {i : Nat} {Q : Int32 → ka_S → Prop} (hn : ka_n a = 253) (ok : mp_ok M) (hp : rd_P σ a M) (hi : i < mp_N M) (h : Q (nI (mt_gaps (mp_D M i))) σ) : kw_X9_gapsOf σ a (nI i) Q :=
  ⟨5, sp_X9_gapsOf_4 hn ok hp hi h 5 0 (Nat.zero_le _) (by have := (ok.2.2.2.2.2.1 i hi).1; omega)⟩
theorem sp_X9_gaps_4 {σ : ka_S} {a : ka_K} {M : ma_P} {Q : Int32 → ka_S → Prop} (hn : ka_n a = 253) (ok : mp_ok M) (hp : rd_P σ a M) (h : Q (nI (mt_gapsP M)) σ) :
    ∀ (n k : Nat), k ≤ mp_N M → mp_N M < k + n → kw_X9_gaps_4 a Q n σ (nI (ma_sum (fun i => mt_gaps (mp_D M i)) k)) (nI k) := by
  intro n
  induction n with
  | zero => intro k h1 h2; omega
  | succ n ih =>
    intro k h1 h2
    have hN := ok.1
    rw [kw_X9_gaps_4]
    refine sp_X9_many hn hp ⟨fun q => ?_, fun q => ?_⟩
    · rw [nI_leI (by omega) (by omega)] at q
      rw [show k = mp_N M by omega]
      exact h
    · rw [nI_leI (by omega) (by omega)] at q
      refine sp_X9_gapsOf hn ok hp (by omega) ?_
      rw [forall_eq, forall_eq, nI_add, show (nI k + 1 : Int32) = nI (k + 1) from nI_1 k]
      exact ih (k + 1) (by omega) (by omega)
theorem sp_X9_gaps {σ : ka_S} {a : ka_K} {M : ma_P} {Q : Int32 → ka_S → Prop} (hn : ka_n a = 253) (ok : mp_ok M) (hp : rd_P σ a M) (h : Q (nI (mt_gapsP M)) σ) : kw_X9_gaps σ a Q :=
  ⟨13, sp_X9_gaps_4 hn ok hp h 13 0 (Nat.zero_le _) (by have := ok.1; omega)⟩
theorem sp_X9_about_94 {σ : ka_S} {M : ma_P} {Q : Int32 → ka_S → Prop} (ok : mp_ok M) (hp : rd_P σ (37, 0, 0) M) (h : Q (nI (mt_parts M)) σ) :
    ∀ (n k : Nat), k ≤ mp_N M → mp_N M < k + n → kw_X9_about_94 Q n σ (nI (ma_sum (fun i => mw_S (mp_D M i)) k)) (nI k) := by
  intro n
  induction n with
  | zero => intro k h1 h2; omega
  | succ n ih =>
    intro k h1 h2
    have hN := ok.1
    rw [kw_X9_about_94]
    refine sp_X9_many rfl hp ⟨fun q => ?_, fun q => ?_⟩
    · rw [nI_leI (by omega) (by omega)] at q
      rw [show k = mp_N M by omega]
      exact h
    · rw [nI_leI (by omega) (by omega)] at q
      refine sp_X9_parts rfl ok hp (by omega) ?_
      rw [forall_eq, forall_eq, nI_add, show (nI k + 1 : Int32) = nI (k + 1) from nI_1 k]
      exact ih (k + 1) (by omega) (by omega)
