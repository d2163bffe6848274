/-! ===== the reference's page, read (nested) ===== -/
theorem sp_X9_unlike_14 {σ : ka_S} {a : ka_K} {i acc : Nat} {M : ma_P} {K : ka_S → Int32 → Int32 → Prop} {Q : Int32 → ka_S → Prop} (hn : ka_n a = 253) (ok : mp_ok M) (hp : rd_P σ a M) (hi : i < mp_N M) (h : K σ (nI (acc + mt_diffW M i)) (nI (i + 1))) :
    ∀ (n k : Nat), k ≤ mw_S (mp_D M i) → mw_S (mp_D M i) < k + n → kw_X9_unlike_14 a K Q n σ (nI (acc + ma_sum (mf_diff M i) k)) (nI i) (nI k) := by
  intro n
  induction n with
  | zero => intro k h1 h2; omega
  | succ n ih =>
    intro k h1 h2
    have hN := ok.1
    have hL := ok.2.1
    have hS := (ok.2.2.2.2.2.1 i hi).1
    rw [kw_X9_unlike_14]
    refine sp_X9_parts hn ok hp hi ⟨fun q => ?_, fun q => sp_X9_partAt ?_⟩
    · rw [nI_leI (by omega) (by omega)] at q
      rw [show k = mw_S (mp_D M i) by omega, forall_eq, show (nI i + 1 : Int32) = nI (i + 1) from nI_1 i]
      exact h
    · rw [nI_leI (by omega) (by omega)] at q
      have hk : k < mw_S (mp_D M i) := by omega
      have hw := (ok.2.2.2.2.2.1 i hi).2.2.2.2.1 k hk
      have hz := ih (k + 1) (by omega) (by omega)
      have e : acc + ma_sum (mf_diff M i) (k + 1) = acc + ma_sum (mf_diff M i) k + mf_diff M i k := (Nat.add_assoc _ _ _).symm
      rw [e] at hz
      unfold mf_diff at hz
      rw [hn]
      refine ⟨(kI_in (by omega)).mpr (by omega), ?_⟩
      rw [nI_clamp (by omega), rd_p hp hi hk]
      refine sp_X9_entryOf hn ok hp hw.1.g (sp_X9_glossAt ⟨(kI_in (by omega)).mpr (by omega), ?_⟩)
      rw [nI_clamp (by omega), rd_g hp hi hk, forall_eq, ma_M_z hw.2.1, mi_find_lt ok]
      refine ⟨fun z => ?_, fun z => ⟨fun z2 => ?_, fun z2 => ?_⟩⟩
      · rw [if_neg (fun q => z q.2.1)] at hz
        rw [forall_eq, forall_eq, show (nI k + 1 : Int32) = nI (k + 1) from nI_1 k, kI_lit, nI_add]
        exact hz
      · rw [if_neg (fun q => q.1 z2)] at hz
        rw [forall_eq, forall_eq, show (nI k + 1 : Int32) = nI (k + 1) from nI_1 k, kI_lit, nI_add]
        exact hz
      · have z3 : mq_find M (mw_P (mp_D M i) k) < mp_L M := Decidable.not_not.mp z
        have hB := (ok.2.2.2.2.2.2 _ z3).2.1
        have b1 := ma_M_lt hB
        have b2 := ma_M_lt hw.2.1
        have e1 : (221 : Int32) + 2 * nI (mq_find M (mw_P (mp_D M i) k)) + 1 = nI (222 + 2 * mq_find M (mw_P (mp_D M i) k)) := by
          rw [kI_lit, kI_lit, kI_lit, pk_mul, nI_add, nI_add]; congr 1; omega
        rw [mi_find_in z3, e1]
        refine ⟨(kI_in (by omega)).mpr (by omega), ?_⟩
        rw [nI_clamp (by omega), (hp.2.2 _ z3).2, pk_lEQ (by omega) (by omega)]
        refine ⟨fun z4 => ?_, fun z4 => ?_⟩
        · rw [if_neg (fun q => q.2.2 (ma_M_inj hB hw.2.1 z4.symm))] at hz
          rw [forall_eq, forall_eq, show (nI k + 1 : Int32) = nI (k + 1) from nI_1 k, kI_lit, nI_add]
          exact hz
        · rw [if_pos ⟨z2, z3, fun q => z4 (by rw [q])⟩] at hz
          rw [forall_eq, forall_eq, show (nI k + 1 : Int32) = nI (k + 1) from nI_1 k, kI_lit, nI_add]
          exact hz
theorem sp_X9_unlike_4 {σ : ka_S} {a : ka_K} {M : ma_P} {Q : Int32 → ka_S → Prop} (hn : ka_n a = 253) (ok : mp_ok M) (hp : rd_P σ a M) (h : Q (nI (mt_diff M)) σ) :
    ∀ (n k : Nat), k ≤ mp_N M → mp_N M < k + n → kw_X9_unlike_4 a Q n σ (nI (ma_sum (mt_diffW M) k)) (nI k) := by
  intro n
  induction n with
  | zero => intro k h1 h2; omega
  | succ n ih =>
    intro k h1 h2
    have hN := ok.1
    rw [kw_X9_unlike_4]
    refine sp_X9_many hn hp ⟨fun q => ?_, fun q => ?_⟩
    · rw [nI_leI (by omega) (by omega)] at q
      rw [show k = mp_N M by omega]
      exact h
    · rw [nI_leI (by omega) (by omega)] at q
      have hk : k < mp_N M := by omega
      exact ⟨5, sp_X9_unlike_14 (acc := ma_sum (mt_diffW M) k) hn ok hp hk (ih (k + 1) (by omega) (by omega)) 5 0 (Nat.zero_le _) (by have := (ok.2.2.2.2.2.1 k hk).1; omega)⟩
theorem sp_X9_unlike {σ : ka_S} {a : ka_K} {M : ma_P} {Q : Int32 → ka_S → Prop} (hn : ka_n a = 253) (ok : mp_ok M) (hp : rd_P σ a M) (h : Q (nI (mt_diff M)) σ) : kw_X9_unlike σ a Q :=
  ⟨13, sp_X9_unlike_4 hn ok hp h 13 0 (Nat.zero_le _) (by have := ok.1; omega)⟩
theorem sp_X9_uses_20 {σ : ka_S} {i acc : Nat} {M : ma_P} {l : List Nat} {K : ka_S → Int64 → Int32 → Int32 → Prop} {Q : Int32 → ka_S → Prop} (ok : mp_ok M) (hp : rd_P σ (37, 0, 0) M) (hl : ma_g l) (hi : i < mp_N M) (h : K σ (lN (ma_M l)) (nI (acc + mt_useW M l i)) (nI (i + 1))) :
    ∀ (n k : Nat), k ≤ mw_S (mp_D M i) → mw_S (mp_D M i) < k + n → kw_X9_uses_20 K Q n σ (lN (ma_M l)) (nI (acc + ma_sum (mf_use M l i) k)) (nI i) (nI k) := by
  intro n
  induction n with
  | zero => intro k h1 h2; omega
  | succ n ih =>
    intro k h1 h2
    have hN := ok.1
    have hS := (ok.2.2.2.2.2.1 i hi).1
    rw [kw_X9_uses_20]
    refine sp_X9_parts rfl ok hp hi ⟨fun q => ?_, fun q => sp_X9_partAt ⟨(kI_in (by omega)).mpr ?_, ?_⟩⟩
    · rw [nI_leI (by omega) (by omega)] at q
      rw [show k = mw_S (mp_D M i) by omega, forall_eq, show (nI i + 1 : Int32) = nI (i + 1) from nI_1 i]
      exact h
    · rw [nI_leI (by omega) (by omega)] at q
      omega
    · rw [nI_leI (by omega) (by omega)] at q
      have hk : k < mw_S (mp_D M i) := by omega
      have hw := (ok.2.2.2.2.2.1 i hi).2.2.2.2.1 k hk
      have hz := ih (k + 1) (by omega) (by omega)
      have e : acc + ma_sum (mf_use M l i) (k + 1) = acc + ma_sum (mf_use M l i) k + mf_use M l i k := (Nat.add_assoc _ _ _).symm
      rw [e] at hz
      unfold mf_use at hz
      have b1 := ma_M_lt hw.1.g
      have b2 := ma_M_lt hl
      rw [nI_clamp (by omega), rd_p hp hi hk, pk_lEQ (by omega) (by omega)]
      refine ⟨fun z => ?_, fun z => ?_⟩
      · rw [if_pos (ma_M_inj hw.1.g hl z)] at hz
        rw [forall_eq, forall_eq, show (nI k + 1 : Int32) = nI (k + 1) from nI_1 k, kI_lit, nI_add]
        exact hz
      · rw [if_neg (fun q => z (by rw [q]))] at hz
        rw [forall_eq, forall_eq, show (nI k + 1 : Int32) = nI (k + 1) from nI_1 k, kI_lit, nI_add]
        exact hz
theorem sp_X9_uses_5 {σ : ka_S} {M : ma_P} {l : List Nat} {Q : Int32 → ka_S → Prop} (ok : mp_ok M) (hp : rd_P σ (37, 0, 0) M) (hl : ma_g l) (h : Q (nI (mt_use M l)) σ) :
    ∀ (n k : Nat), k ≤ mp_N M → mp_N M < k + n → kw_X9_uses_5 Q n σ (lN (ma_M l)) (nI (ma_sum (mt_useW M l) k)) (nI k) := by
  intro n
  induction n with
  | zero => intro k h1 h2; omega
  | succ n ih =>
    intro k h1 h2
    have hN := ok.1
    rw [kw_X9_uses_5]
    refine sp_X9_many rfl hp ⟨fun q => ?_, fun q => ?_⟩
    · rw [nI_leI (by omega) (by omega)] at q
      rw [show k = mp_N M by omega]
      exact h
    · rw [nI_leI (by omega) (by omega)] at q
      have hk : k < mp_N M := by omega
      exact ⟨5, sp_X9_uses_20 (acc := ma_sum (mt_useW M l) k) ok hp hl hk (ih (k + 1) (by omega) (by omega)) 5 0 (Nat.zero_le _) (by have := (ok.2.2.2.2.2.1 k hk).1; omega)⟩
theorem sp_X9_uses {σ : ka_S} {M : ma_P} {l : List Nat} {Q : Int32 → ka_S → Prop} (ok : mp_ok M) (hp : rd_P σ (37, 0, 0) M) (hl : ma_g l) (h : Q (nI (mt_use M l)) σ) : kw_X9_uses σ (lN (ma_M l)) Q :=
  ⟨13, sp_X9_uses_5 ok hp hl h 13 0 (Nat.zero_le _) (by have := ok.1; omega)⟩
theorem sp_X9_gap_36 {σ : ka_S} {i : Nat} {M : ma_P} {K : ka_S → Int32 → Int32 → Prop} {Q : Int32 → ka_S → Prop} {J : Nat → Int32} (ok : mp_ok M) (hp : rd_P σ (37, 0, 0) M) (hi : i < mp_N M) (h : ∀ g, g < 2 ^ 31 → Q (J g) σ → K σ (nI g) (nI (i + 1))) :
    ∀ (n k m g : Nat), k + m = mw_S (mp_D M i) → m < n → g < 2 ^ 31 → Q (mt_gapW (mp_D M i) i J m k g) σ → kw_X9_gap_36 K Q n σ (nI g) (nI i) (nI k) := by
  intro n
  induction n with
  | zero => intro k m g h1 h2; omega
  | succ n ih =>
    intro k m g h1 h2 hg hq
    have hN := ok.1
    have hS := (ok.2.2.2.2.2.1 i hi).1
    rw [kw_X9_gap_36]
    refine sp_X9_parts rfl ok hp hi ⟨fun q => ?_, fun q => sp_X9_glossAt ⟨(kI_in (by omega)).mpr ?_, ?_⟩⟩
    · rw [nI_leI (by omega) (by omega)] at q
      obtain rfl : m = 0 := by omega
      rw [forall_eq, show (nI i + 1 : Int32) = nI (i + 1) from nI_1 i]
      exact h g hg hq
    · rw [nI_leI (by omega) (by omega)] at q
      omega
    · rw [nI_leI (by omega) (by omega)] at q
      obtain ⟨m, rfl⟩ : ∃ m', m = m' + 1 := ⟨m - 1, by omega⟩
      have hk : k < mw_S (mp_D M i) := by omega
      have hw := (ok.2.2.2.2.2.1 i hi).2.2.2.2.1 k hk
      unfold mt_gapW at hq
      rw [nI_clamp (by omega), rd_g hp hi hk, ma_M_z hw.2.1, forall_eq, forall_eq, forall_eq, show (nI k + 1 : Int32) = nI (k + 1) from nI_1 k]
      refine ⟨fun z => ⟨fun z2 => ?_, fun z2 => ?_⟩, fun z => ?_⟩
      · rw [kI_lit, nI_eq (by omega) (by decide)] at z2
        rw [if_pos z, if_pos z2] at hq
        rw [kI_lit, pk_mul, nI_add]
        exact hq
      · rw [kI_lit, nI_eq (by omega) (by decide)] at z2
        rw [if_pos z, if_neg z2] at hq
        obtain ⟨g, rfl⟩ : ∃ g', g = g' + 1 := ⟨g - 1, by omega⟩
        rw [kI_m1]
        exact ih (k + 1) m g (by omega) (by omega) (by omega) hq
      · rw [if_neg z] at hq
        exact ih (k + 1) m g (by omega) (by omega) hg hq
theorem sp_X9_gap_22 {σ : ka_S} {M : ma_P} {Q : Int32 → ka_S → Prop} (ok : mp_ok M) (hp : rd_P σ (37, 0, 0) M) :
    ∀ (n k m g : Nat), k + m = mp_N M → m < n → g < 2 ^ 31 → Q (mt_gapP M m k g) σ → kw_X9_gap_22 Q n σ (nI g) (nI k) := by
  intro n
  induction n with
  | zero => intro k m g h1 h2; omega
  | succ n ih =>
    intro k m g h1 h2 hg hq
    have hN := ok.1
    rw [kw_X9_gap_22]
    refine sp_X9_many rfl hp ⟨fun q => ?_, fun q => ?_⟩
    · rw [nI_leI (by omega) (by omega)] at q
      obtain rfl : m = 0 := by omega
      exact hq
    · rw [nI_leI (by omega) (by omega)] at q
      obtain ⟨m, rfl⟩ : ∃ m', m = m' + 1 := ⟨m - 1, by omega⟩
      have hk : k < mp_N M := by omega
      exact ⟨5, sp_X9_gap_36 (J := fun g' => mt_gapP M m (k + 1) g') ok hp hk (fun g hg h => ih (k + 1) m g (by omega) (by omega) hg h) 5 0 _ g (Nat.zero_add _) (by have := (ok.2.2.2.2.2.1 k hk).1; omega) hg hq⟩
theorem ma_M_C {l l' : List Nat} (h : ma_p l) (h' : ma_p l' ∨ l' = []) : ma_M l < ma_M l' ↔ ma_C l < ma_C l' := by
  rcases h' with h' | h'
  · rw [ma_M_cmp h h', ma_C_cmp h.g h'.g]
  · rw [h', ma_M_nil, ma_C_nil]
    exact ⟨fun q => absurd q (Nat.not_lt_zero _), fun q => absurd q (Nat.not_lt_zero _)⟩
theorem sp_X9_mostUsed_30 {σ : ka_S} {i : Nat} {M : ma_P} {K : ka_S → Int32 → Int32 → Int64 → Int32 → Prop} {Q : Int32 → ka_S → Prop} {J : ma_U → Prop} (ok : mp_ok M) (hp : rd_P σ (37, 0, 0) M) (hi : i < mp_N M)
    (h : ∀ s, mu_ok s → J s → K σ s.1 (nI s.2.1) (lN (ma_M s.2.2)) (nI (i + 1))) :
    ∀ (n k m : Nat) (s : ma_U), k + m = mw_S (mp_D M i) → m < n → mu_ok s → J (mt_mostW M i m k s) → kw_X9_mostUsed_30 K Q n σ s.1 (nI s.2.1) (lN (ma_M s.2.2)) (nI i) (nI k) := by
  intro n
  induction n with
  | zero => intro k m s h1 h2; omega
  | succ n ih =>
    intro k m s h1 h2 hs hJ
    have hN := ok.1
    have hS := (ok.2.2.2.2.2.1 i hi).1
    rw [kw_X9_mostUsed_30]
    refine sp_X9_parts rfl ok hp hi ⟨fun q => ?_, fun q => sp_X9_partAt ⟨(kI_in (by omega)).mpr ?_, ?_⟩⟩
    · rw [nI_leI (by omega) (by omega)] at q
      obtain rfl : m = 0 := by omega
      rw [forall_eq, show (nI i + 1 : Int32) = nI (i + 1) from nI_1 i]
      exact h s hs hJ
    · rw [nI_leI (by omega) (by omega)] at q
      omega
    · rw [nI_leI (by omega) (by omega)] at q
      obtain ⟨m, rfl⟩ : ∃ m', m = m' + 1 := ⟨m - 1, by omega⟩
      have hk : k < mw_S (mp_D M i) := by omega
      have hw := (ok.2.2.2.2.2.1 i hi).2.2.2.2.1 k hk
      unfold mt_mostW at hJ
      have hu := mt_use_le ok (mw_P (mp_D M i) k)
      have hs1 := hs.1
      have b1 := ma_M_lt hw.1.g
      have b2 := ma_M_lt hs.g
      have cmp := ma_M_C hw.1 hs.2
      have hok := mu_pick_ok (v := 10 * i + k) (t := ma_C (mw_P (mp_D M i) k) < ma_C s.2.2) hs hu hw.1
      have hz := ih (k + 1) m _ (by omega) (by omega) hok hJ
      rw [forall_eq, nI_clamp (by omega), rd_p hp hi hk]
      refine sp_X9_uses ok hp hw.1.g ?_
      have yes : s.2.1 < mt_use M (mw_P (mp_D M i) k) ∨ (mt_use M (mw_P (mp_D M i) k) = s.2.1 ∧ ma_C (mw_P (mp_D M i) k) < ma_C s.2.2) → kw_X9_mostUsed_85 K (kw_X9_mostUsed_30 K Q n) Q σ (nI i) (nI k) (lN (ma_M (mw_P (mp_D M i) k))) (nI (mt_use M (mw_P (mp_D M i) k))) := by
        intro c
        unfold mu_pick at hz
        rw [if_pos c] at hz
        unfold kw_X9_mostUsed_85
        rw [forall_eq, forall_eq, show (nI k + 1 : Int32) = nI (k + 1) from nI_1 k, kI_lit, pk_mul, nI_add]
        exact hz
      have no : ¬ (s.2.1 < mt_use M (mw_P (mp_D M i) k) ∨ (mt_use M (mw_P (mp_D M i) k) = s.2.1 ∧ ma_C (mw_P (mp_D M i) k) < ma_C s.2.2)) → kw_X9_mostUsed_30 K Q n σ s.1 (nI s.2.1) (lN (ma_M s.2.2)) (nI i) (nI (k + 1)) := by
        intro c
        unfold mu_pick at hz
        rw [if_neg c] at hz
        exact hz
      refine ⟨fun z => ?_, fun z => ⟨fun z2 => ⟨fun z3 => ?_, fun z3 => ?_⟩, fun z2 => ?_⟩⟩
      · rw [nI_ltI (by omega) (by omega)] at z
        exact yes (Or.inl z)
      · rw [nI_ltI (by omega) (by omega)] at z
        rw [nI_eq (by omega) (by omega)] at z2
        rw [pk_lLE (by omega) (by omega)] at z3
        rw [forall_eq, show (nI k + 1 : Int32) = nI (k + 1) from nI_1 k]
        refine no (fun q => ?_)
        rcases q with q | q
        · exact z q
        · have := cmp.mpr q.2
          omega
      · rw [nI_eq (by omega) (by omega)] at z2
        rw [pk_lLE (by omega) (by omega)] at z3
        exact yes (Or.inr ⟨z2, cmp.mp (by omega)⟩)
      · rw [nI_ltI (by omega) (by omega)] at z
        rw [nI_eq (by omega) (by omega)] at z2
        rw [forall_eq, show (nI k + 1 : Int32) = nI (k + 1) from nI_1 k]
        exact no (fun q => by rcases q with q | q <;> omega)
theorem sp_X9_mostUsed_15 {σ : ka_S} {M : ma_P} {Q : Int32 → ka_S → Prop} (ok : mp_ok M) (hp : rd_P σ (37, 0, 0) M) :
    ∀ (n k m : Nat) (s : ma_U), k + m = mp_N M → m < n → mu_ok s → Q (mt_mostP M m k s).1 σ → kw_X9_mostUsed_15 Q n σ s.1 (nI s.2.1) (lN (ma_M s.2.2)) (nI k) := by
  intro n
  induction n with
  | zero => intro k m s h1 h2; omega
  | succ n ih =>
    intro k m s h1 h2 hs hJ
    have hN := ok.1
    rw [kw_X9_mostUsed_15]
    refine sp_X9_many rfl hp ⟨fun q => ?_, fun q => ?_⟩
    · rw [nI_leI (by omega) (by omega)] at q
      obtain rfl : m = 0 := by omega
      exact hJ
    · rw [nI_leI (by omega) (by omega)] at q
      obtain ⟨m, rfl⟩ : ∃ m', m = m' + 1 := ⟨m - 1, by omega⟩
      have hk : k < mp_N M := by omega
      exact ⟨5, sp_X9_mostUsed_30 (J := fun s => Q (mt_mostP M m (k + 1) s).1 σ) ok hp hk (fun s hs h => ih (k + 1) m s (by omega) (by omega) hs h) 5 0 _ s (Nat.zero_add _) (by have := (ok.2.2.2.2.2.1 k hk).1; omega) hs hJ⟩
