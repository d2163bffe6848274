/-! ===== the reference learns, fills, joins, adds ===== -/
theorem sp_X9_learnOn {σ : ka_S} {a : ka_K} {M : ma_P} {i p : Nat} {Q : ka_S → Prop} (hn : ka_n a = 253) (ok : mp_ok M) (hp : rd_P σ a M) (hi : i < mp_N M) (hk : p < mw_S (mp_D M i)) (hc : mp_L M < 16 ∨ mq_find M (mw_P (mp_D M i) p) < mp_L M)
    (h : ∀ σ', ag (xr a) σ σ' → rd_P σ' a (mp_learn M (mw_P (mp_D M i) p) (mw_G (mp_D M i) p)) → Q σ') : kw_X9_learnOn σ a (nI i) (nI p) Q := by
  have hN := ok.1
  have hL := ok.2.1
  have hS := (ok.2.2.2.2.2.1 i hi).1
  have hw := (ok.2.2.2.2.2.1 i hi).2.2.2.2.1 p hk
  unfold kw_X9_learnOn
  rw [hn]
  unfold mp_learn at h
  refine sp_X9_partAt ⟨(kI_in (by omega)).mpr (by omega), ?_⟩
  rw [nI_clamp (by omega), rd_p hp hi hk, forall_eq]
  refine sp_X9_entryOf hn ok hp hw.1.g ?_
  have pos : ∀ q : mq_find M (mw_P (mp_D M i) p) < mp_L M, 0 ≤ mi_find M (mw_P (mp_D M i) p) := fun q => by
    rw [mi_find_in q]
    exact nI_pos' (by omega)
  refine ⟨fun q => ?_, fun q => ?_⟩
  · have z3 : mq_find M (mw_P (mp_D M i) p) < mp_L M := by
      rcases Nat.lt_or_ge (mq_find M (mw_P (mp_D M i) p)) (mp_L M) with z | z
      · exact z
      · have := (mi_find_9 (l := mw_P (mp_D M i) p) ok).mpr (by omega)
        rw [this] at q
        exact absurd q (by decide)
    rw [if_pos z3] at h
    rw [mi_find_in z3]
    refine sp_X9_learnOn_107 hn ok hi hk (by omega) (rd_g hp hi hk) (h _ (ag_L (ag_L ag_refl rfl) rfl) (rd_P_ent ok hp (fun j hj _ => ?_) ?_ (fun e he => ?_) rfl rfl rfl))
    · rw [st_L, if_neg (fun z => by have := z.2; omega), st_L, if_neg (fun z => by have := z.2; omega)]
    · rw [st_L, if_neg (fun z => by have := z.2; omega), st_L, if_neg (fun z => by have := z.2; omega)]
      exact hp.1.2.1
    · have he' : e < mp_L M := he
      show _ = lN (ma_M (mp_A M e)) ∧ _ = lN (ma_M (if e = mq_find M (mw_P (mp_D M i) p) then mw_G (mp_D M i) p else mp_B M e))
      by_cases q2 : e = mq_find M (mw_P (mp_D M i) p)
      · rw [st_L, if_neg (fun z => by have := z.2; omega), st_L, if_pos ⟨rfl, by omega⟩, st_L, if_pos ⟨rfl, by omega⟩, if_pos q2]
        refine ⟨?_, rfl⟩
        rw [q2, mq_find_at z3]
      · rw [st_L, if_neg (fun z => by have := z.2; omega), st_L, if_neg (fun z => by have := z.2; omega), st_L, if_neg (fun z => by have := z.2; omega), st_L, if_neg (fun z => by have := z.2; omega), if_neg q2]
        exact hp.2.2 e he'
  · have z3 : ¬ mq_find M (mw_P (mp_D M i) p) < mp_L M := fun z => q (pos z)
    rw [if_neg z3] at h
    have hL2 : mp_L M < 16 := by omega
    have hpl := mt_pos_le M (mw_P (mp_D M i) p) (mp_L M)
    refine ⟨(kI_in (k := 1) (by decide)).mpr (by decide), ?_⟩
    rw [show (1 : Int32).toNatClampNeg = 1 from rfl, hp.1.2.1, lN_i, forall_eq]
    refine ⟨17, sp_X9_learnOn_26 (σ0 := σ) hn ok hw.1 hL2 (fun σ1 a1 r1 => ?_) 17 (mp_L M) σ (by omega) (Nat.le_refl _) rfl ag_refl (fun e => ⟨fun he => hp.2.2 e he, fun he1 he2 => by omega⟩)⟩
    have c1 : σ1.2 a 1 = lN (mp_L M) := (a1 a 1 (fun q => by have := q.2; omega)).2.trans hp.1.2.1
    have cg : σ1.2 a (5 + 18 * i + (8 + 3 * p)) = lN (ma_M (mw_G (mp_D M i) p)) := (a1 a _ (fun q => by have := q.2; omega)).2.trans (rd_g hp hi hk)
    unfold kw_X9_learnOn_100
    rw [hn, show (1 : Int32).toNatClampNeg = 1 from rfl, c1, show lN (mp_L M) + (1 : Int64) = lN (mp_L M + 1) from lN_1 _]
    refine ⟨(kI_in (k := 1) (by decide)).mpr (by decide), (kI_in (k := 1) (by decide)).mpr (by decide), ?_⟩
    rw [forall_eq]
    refine sp_X9_learnOn_107 hn ok hi hk (by omega) ?_ (h _ (ag_L (ag_L (ag_L (ag_mono a1 (fun k j q => q.1)) rfl) rfl) rfl) (rd_P_ent ok hp (fun j hj hj1 => ?_) ?_ (fun e he => ?_) rfl rfl rfl))
    · rw [st_L, if_neg (fun z => by have := z.2; omega)]
      exact cg
    · rw [st_L, if_neg (fun z => by have := z.2; omega), st_L, if_neg (fun z => by have := z.2; omega), st_L, if_neg (fun z => hj1 z.2)]
      exact (a1 a j (fun q => by have := q.2; omega)).2
    · rw [st_L, if_neg (fun z => by have := z.2; omega), st_L, if_neg (fun z => by have := z.2; omega), st_L, if_pos ⟨rfl, rfl⟩]
      rfl
    · have he' : e < mp_L M + 1 := he
      show _ = lN (ma_M (mf_ins (mp_A M) _ _ e)) ∧ _ = lN (ma_M (mf_ins (mp_B M) _ _ e))
      by_cases q2 : e = mt_pos M (mw_P (mp_D M i) p) (mp_L M)
      · rw [st_L, if_neg (fun z => by have := z.2; omega), st_L, if_pos ⟨rfl, by omega⟩, st_L, if_pos ⟨rfl, by omega⟩]
        unfold mf_ins
        exact ⟨by rw [if_neg (show ¬ e < mt_pos M (mw_P (mp_D M i) p) (mp_L M) by omega), if_pos q2], by rw [if_neg (show ¬ e < mt_pos M (mw_P (mp_D M i) p) (mp_L M) by omega), if_pos q2]⟩
      · rw [st_L, if_neg (fun z => by have := z.2; omega), st_L, if_neg (fun z => by have := z.2; omega), st_L, if_neg (fun z => by have := z.2; omega), st_L, if_neg (fun z => by have := z.2; omega), st_L, if_neg (fun z => by have := z.2; omega), st_L, if_neg (fun z => by have := z.2; omega)]
        unfold mf_ins
        by_cases q3 : e < mt_pos M (mw_P (mp_D M i) p) (mp_L M)
        · simp only [if_neg q2, if_pos q3]
          exact (r1 e).1 q3
        · simp only [if_neg q2, if_neg q3]
          exact (r1 e).2 (by omega) he'
theorem sp_X9_fillOn_14 {σ0 : ka_S} {a : ka_K} {i N : Nat} {K : ka_S → Int32 → Int32 → Prop} {Q : Int32 → ka_S → Prop} {J : ma_P × Nat → Prop} (hn : ka_n a = 253) (hi : i < N)
    (h : ∀ σ (s : ma_P × Nat), ag (xr a) σ0 σ → rd_P σ a s.1 → mp_ok s.1 → mp_N s.1 = N → J s → K σ (nI s.2) (nI (i + 1))) :
    ∀ (n k m : Nat) (s : ma_P × Nat) (σ : ka_S), k + m = mw_S (mp_D s.1 i) → m < n → ag (xr a) σ0 σ → rd_P σ a s.1 → mp_ok s.1 → mp_N s.1 = N → J (mt_fillW i m k s) → kw_X9_fillOn_14 a K Q n σ (nI s.2) (nI i) (nI k) := by
  intro n
  induction n with
  | zero => intro k m s σ h1 h2; omega
  | succ n ih =>
    intro k m s σ h1 h2 ha hp ok hNN hJ
    have hN := ok.1
    have hL := ok.2.1
    have hi' : i < mp_N s.1 := by omega
    have hS := (ok.2.2.2.2.2.1 i hi').1
    rw [kw_X9_fillOn_14]
    refine sp_X9_parts hn ok hp hi' ⟨fun q => ?_, fun q => sp_X9_glossAt ?_⟩
    · rw [nI_leI (by omega) (by omega)] at q
      obtain rfl : m = 0 := by omega
      rw [forall_eq, show (nI i + 1 : Int32) = nI (i + 1) from nI_1 i]
      exact h σ s ha hp ok hNN hJ
    · rw [nI_leI (by omega) (by omega)] at q
      obtain ⟨m, rfl⟩ : ∃ m', m = m' + 1 := ⟨m - 1, by omega⟩
      have hk : k < mw_S (mp_D s.1 i) := by omega
      have hw := (ok.2.2.2.2.2.1 i hi').2.2.2.2.1 k hk
      have ok' := mu_fill_ok (p := k) ok hi'
      have e1 := mu_fill_N s i k
      have e2 := mu_fill_S s i k i
      unfold mt_fillW at hJ
      have hz := fun σ1 a1 r1 => ih (k + 1) m (mu_fill s i k) σ1 (by omega) (by omega) a1 r1 ok' (by omega) hJ
      unfold mu_fill at hz
      have skip : ∀ t : Int32, t < 0 → kw_X9_fillOn_14 a K Q n σ (nI s.2) (nI i) (nI (k + 1)) → kw_X9_fillOn_51 a K (kw_X9_fillOn_14 a K Q n) Q σ (nI s.2) (nI i) (nI k) t := by
        intro t ht hh
        unfold kw_X9_fillOn_51
        refine ⟨fun _ => ?_, fun z => absurd ht z⟩
        rw [forall_eq, show (nI k + 1 : Int32) = nI (k + 1) from nI_1 k]
        exact hh
      rw [hn]
      refine ⟨(kI_in (by omega)).mpr (by omega), ?_⟩
      rw [nI_clamp (by omega), rd_g hp hi' hk, ma_M_z hw.2.1]
      refine ⟨fun z => sp_X9_partAt ⟨(kI_in (by omega)).mpr (by omega), ?_⟩, fun z => ?_⟩
      · rw [nI_clamp (by omega), rd_p hp hi' hk]
        refine sp_X9_entryOf hn ok hp hw.1.g ?_
        by_cases z3 : mq_find s.1 (mw_P (mp_D s.1 i) k) < mp_L s.1
        · rw [if_pos ⟨z, z3⟩] at hz
          unfold kw_X9_fillOn_51
          refine ⟨fun q => absurd z3 ((mi_find_lt ok).mp q), fun _ => sp_X9_glossAt ?_⟩
          have e3 : (221 : Int32) + 2 * nI (mq_find s.1 (mw_P (mp_D s.1 i) k)) + 1 = nI (222 + 2 * mq_find s.1 (mw_P (mp_D s.1 i) k)) := by
            rw [kI_lit, kI_lit, kI_lit, pk_mul, nI_add, nI_add]; congr 1; omega
          rw [mi_find_in z3, e3, hn, nI_clamp (by omega), nI_clamp (by omega), (hp.2.2 _ z3).2]
          refine ⟨(kI_in (by omega)).mpr (by omega), (kI_in (by omega)).mpr (by omega), ?_⟩
          rw [forall_eq, forall_eq, forall_eq, show (nI k + 1 : Int32) = nI (k + 1) from nI_1 k, show (nI s.2 + 1 : Int32) = nI (s.2 + 1) from nI_1 _]
          exact hz _ (ag_L ha rfl) (rd_P_setG ok hp hi' hk rfl)
        · rw [if_neg (fun q => z3 q.2)] at hz
          exact skip _ ((mi_find_lt ok).mpr z3) (hz σ ha hp)
      · rw [if_neg (fun q => z q.1)] at hz
        exact skip _ (by decide) (hz σ ha hp)
theorem sp_X9_fillOn_4 {σ0 : ka_S} {a : ka_K} {Q : Int32 → ka_S → Prop} (hn : ka_n a = 253) :
    ∀ (n k m : Nat) (s : ma_P × Nat) (σ : ka_S), k + m = mp_N s.1 → m < n → ag (xr a) σ0 σ → rd_P σ a s.1 → mp_ok s.1 →
      (∀ σ', ag (xr a) σ0 σ' → rd_P σ' a (mt_fillP m k s).1 → mp_ok (mt_fillP m k s).1 → Q (nI (mt_fillP m k s).2) σ') → kw_X9_fillOn_4 a Q n σ (nI s.2) (nI k) := by
  intro n
  induction n with
  | zero => intro k m s σ h1 h2; omega
  | succ n ih =>
    intro k m s σ h1 h2 ha hp ok hJ
    have hN := ok.1
    rw [kw_X9_fillOn_4]
    refine sp_X9_many hn hp ⟨fun q => ?_, fun q => ?_⟩
    · rw [nI_leI (by omega) (by omega)] at q
      obtain rfl : m = 0 := by omega
      exact hJ σ ha hp ok
    · rw [nI_leI (by omega) (by omega)] at q
      obtain ⟨m, rfl⟩ : ∃ m', m = m' + 1 := ⟨m - 1, by omega⟩
      have hk : k < mp_N s.1 := by omega
      exact ⟨5, sp_X9_fillOn_14 (J := fun s' => ∀ σ', ag (xr a) σ0 σ' → rd_P σ' a (mt_fillP m (k + 1) s').1 → mp_ok (mt_fillP m (k + 1) s').1 → Q (nI (mt_fillP m (k + 1) s').2) σ') hn hk
        (fun σ1 s1 a1 r1 ok1 e1 h => ih (k + 1) m s1 σ1 (by omega) (by omega) a1 r1 ok1 h) 5 0 _ s σ (Nat.zero_add _) (by have := (ok.2.2.2.2.2.1 k hk).1; omega) ha hp ok rfl hJ⟩
theorem sp_X9_fillOn {σ : ka_S} {a : ka_K} {M : ma_P} {Q : Int32 → ka_S → Prop} (hn : ka_n a = 253) (ok : mp_ok M) (hp : rd_P σ a M) (h : ∀ σ', ag (xr a) σ σ' → rd_P σ' a (mt_fill M).1 → mp_ok (mt_fill M).1 → Q (nI (mt_fill M).2) σ') : kw_X9_fillOn σ a Q :=
  ⟨13, sp_X9_fillOn_4 hn 13 0 (mp_N M) (M, 0) σ (Nat.zero_add _) (by have := ok.1; omega) ag_refl hp ok h⟩
