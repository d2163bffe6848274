/-! ===== the lexicon is in order ===== -/
def mp_so (M : ma_P) : Prop := ∀ e, e + 1 < mp_L M → ma_C (mp_A M e) < ma_C (mp_A M (e + 1))
theorem mp_so_lt {M : ma_P} (h : mp_so M) : ∀ (d i : Nat), i + (d + 1) < mp_L M → ma_C (mp_A M i) < ma_C (mp_A M (i + (d + 1)))
  | 0, i, hi => h i hi
  | d + 1, i, hi => Nat.lt_trans (mp_so_lt h d i (by omega)) (h (i + (d + 1)) (by omega))
theorem mp_so_lt2 {M : ma_P} (h : mp_so M) {i j : Nat} (hij : i < j) (hj : j < mp_L M) : ma_C (mp_A M i) < ma_C (mp_A M j) := by
  have := mp_so_lt h (j - i - 1) i (by omega)
  rw [show i + (j - i - 1 + 1) = j by omega] at this
  exact this
theorem mt_find_first {f : Nat → List Nat} {l : List Nat} : ∀ (n k j : Nat), k ≤ j → j < k + n → f j = l → mt_find f l n k ≤ j
  | 0, k, j, h1, h2, _ => by omega
  | n + 1, k, j, h1, h2, e => by
    rw [mt_find]
    by_cases q : f k = l
    · rw [if_pos q]; exact h1
    · rw [if_neg q]
      refine mt_find_first n (k + 1) j ?_ (by omega) e
      rcases Nat.lt_or_ge k j with z | z
      · exact z
      · obtain rfl : k = j := by omega
        exact absurd e q
theorem mq_find_not {M : ma_P} {l : List Nat} (h : ¬ mq_find M l < mp_L M) {e : Nat} (he : e < mp_L M) : mp_A M e ≠ l := fun q => h (by
  have := mt_find_first (f := mp_A M) (l := l) (mp_L M) 0 e (Nat.zero_le _) (by omega) q
  unfold mq_find
  omega)
theorem mq_find_of {M : ma_P} (so : mp_so M) {e : Nat} (he : e < mp_L M) : mq_find M (mp_A M e) = e := by
  have h1 := mt_find_first (f := mp_A M) (l := mp_A M e) (mp_L M) 0 e (Nat.zero_le _) (by omega) rfl
  have h2 : mq_find M (mp_A M e) ≤ e := h1
  have h3 := mq_find_at (M := M) (l := mp_A M e) (by omega)
  rcases Nat.lt_or_ge (mq_find M (mp_A M e)) e with q | q
  · have := mp_so_lt2 so q he
    rw [h3] at this
    omega
  · omega
theorem mt_pos_spec (M : ma_P) (l : List Nat) : ∀ k, (∀ e, mt_pos M l k ≤ e → e < k → ma_C l < ma_C (mp_A M e)) ∧ (0 < mt_pos M l k → ma_C (mp_A M (mt_pos M l k - 1)) ≤ ma_C l)
  | 0 => ⟨fun e _ h => absurd h (Nat.not_lt_zero e), fun h => absurd h (Nat.lt_irrefl 0)⟩
  | k + 1 => by
    rw [mt_pos]
    by_cases q : ma_C (mp_A M k) ≤ ma_C l
    · rw [if_pos q]
      exact ⟨fun e h1 h2 => by omega, fun _ => q⟩
    · rw [if_neg q]
      have ih := mt_pos_spec M l k
      refine ⟨fun e h1 h2 => ?_, ih.2⟩
      rcases Nat.lt_or_ge e k with z | z
      · exact ih.1 e h1 z
      · obtain rfl : e = k := by omega
        omega
theorem mp_so_learn {M : ma_P} {l g : List Nat} (ok : mp_ok M) (so : mp_so M) (hl : ma_g l) : mp_so (mp_learn M l g) := by
  unfold mp_learn
  by_cases hf : mq_find M l < mp_L M
  · rw [if_pos hf]
    exact so
  · rw [if_neg hf]
    intro e he
    have he' : e + 1 < mp_L M + 1 := he
    have sp := mt_pos_spec M l (mp_L M)
    have pl := mt_pos_le M l (mp_L M)
    generalize mt_pos M l (mp_L M) = p at sp pl ⊢
    show ma_C (if e < p then mp_A M e else if e = p then l else mp_A M (e - 1)) < ma_C (if e + 1 < p then mp_A M (e + 1) else if e + 1 = p then l else mp_A M (e + 1 - 1))
    rcases Nat.lt_or_ge (e + 1) p with z | z
    · rw [if_pos (by omega), if_pos z]
      exact so e (by omega)
    · rw [if_neg (by omega : ¬ e + 1 < p)]
      by_cases z2 : e + 1 = p
      · rw [if_pos (by omega), if_pos z2]
        have h1 := sp.2 (by omega)
        rw [show p - 1 = e by omega] at h1
        have h2 : ma_C (mp_A M e) ≠ ma_C l := fun q => mq_find_not hf (by omega : e < mp_L M) (ma_C_inj (ok.2.2.2.2.2.2 e (by omega)).1.g hl q)
        omega
      · rw [if_neg z2, if_neg (by omega : ¬ e < p)]
        by_cases z3 : e = p
        · rw [if_pos z3]
          exact sp.1 (e + 1 - 1) (by omega) (by omega)
        · rw [if_neg z3]
          have := so (e - 1) (by omega)
          rw [show e - 1 + 1 = e by omega] at this
          exact this
theorem mp_so_forget {M : ma_P} {j : Nat} (so : mp_so M) : mp_so (mp_forget M j) := by
  intro e he
  have he' : e + 1 < mp_L M - 1 := he
  show ma_C (mf_cut (mp_A M) j e) < ma_C (mf_cut (mp_A M) j (e + 1))
  unfold mf_cut
  split <;> split <;> first | exact mp_so_lt2 so (by omega) (by omega) | (exfalso; omega)
theorem mt_fillW_x (i : Nat) : ∀ (n p : Nat) (s : ma_P × Nat), (mt_fillW i n p s).1.1 = s.1.1 ∧ (mt_fillW i n p s).1.2.2 = s.1.2.2
  | 0, _, _ => ⟨rfl, rfl⟩
  | n + 1, p, s => by
    have ih := mt_fillW_x i n (p + 1) (mu_fill s i p)
    rw [mt_fillW]
    have e : (mu_fill s i p).1.1 = s.1.1 ∧ (mu_fill s i p).1.2.2 = s.1.2.2 := by
      unfold mu_fill
      split
      · exact ⟨rfl, rfl⟩
      · exact ⟨rfl, rfl⟩
    exact ⟨ih.1.trans e.1, ih.2.trans e.2⟩
theorem mt_fillP_x : ∀ (n i : Nat) (s : ma_P × Nat), (mt_fillP n i s).1.1 = s.1.1 ∧ (mt_fillP n i s).1.2.2 = s.1.2.2
  | 0, _, _ => ⟨rfl, rfl⟩
  | n + 1, i, s => by
    have ih := mt_fillP_x n (i + 1) (mt_fillW i (mw_S (mp_D s.1 i)) 0 s)
    have e := mt_fillW_x i (mw_S (mp_D s.1 i)) 0 s
    rw [mt_fillP]
    exact ⟨ih.1.trans e.1, ih.2.trans e.2⟩
theorem mt_fill_x (M : ma_P) : (mt_fill M).1.1 = M.1 ∧ (mt_fill M).1.2.2 = M.2.2 := mt_fillP_x (mp_N M) 0 (M, 0)
theorem mp_so_same {M M' : ma_P} (h1 : mp_L M' = mp_L M) (h2 : mp_A M' = mp_A M) (so : mp_so M) : mp_so M' := by
  intro e he
  rw [h2]
  rw [h1] at he
  exact so e he
/-- of all pages that are kept -/
def kz (A : ma_X) : Prop := mp_so (kx_M A) ∧ (∀ j, j < kx_h A → mp_so (kx_H A j)) ∧ ∀ s, s < 2 → kx_b A s = 1 → mp_so (kx_B A s)
theorem kz_2 {A A' : ma_X} (e : A'.2 = A.2) (h : kz A) : kz A' := by
  obtain ⟨T, B⟩ := A
  obtain ⟨T', B'⟩ := A'
  cases e
  exact h
theorem kz_note {A : ma_X} (h : kz A) : kz (kx_note A) := by
  obtain ⟨h3, h5, h6⟩ := h
  refine ⟨h3, fun j hj => ?_, h6⟩
  have hj' : j < (if kx_h A = 14 then 14 else kx_h A + 1) := hj
  show mp_so (if kx_h A = 14 then (if j = 13 then kx_M A else kx_H A (j + 1)) else if j = kx_h A then kx_M A else kx_H A j)
  by_cases q : kx_h A = 14
  · rw [if_pos q] at hj' ⊢
    by_cases q2 : j = 13
    · rw [if_pos q2]; exact h3
    · rw [if_neg q2]; exact h5 (j + 1) (by omega)
  · rw [if_neg q] at hj' ⊢
    by_cases q2 : j = kx_h A
    · rw [if_pos q2]; exact h3
    · rw [if_neg q2]; exact h5 j (by omega)
theorem kz_act {A : ma_X} {M : ma_P} (h : kz A) (so : mp_so M) : kz (kx_act A M) := ⟨so, (kz_note h).2⟩
theorem kz_undo {A : ma_X} (h : kz A) (hn : kx_h A ≠ 0) : kz (kx_undo A) := ⟨h.2.1 _ (by omega), fun j hj => h.2.1 j (by have : j < kx_h A - 1 := hj; omega), h.2.2⟩
theorem kz_load {A : ma_X} : kz (kx_load A) := ⟨fun e he => absurd (show e + 1 < 0 from he) (Nat.not_lt_zero _), fun j hj => absurd hj (Nat.not_lt_zero j), fun s hs hb => absurd (show (0 : Nat) = 1 from hb) (by decide)⟩
theorem kz_save {A : ma_X} {s : Nat} (h : kz A) : kz (kx_save A s) := by
  obtain ⟨h3, h5, h6⟩ := h
  refine ⟨h3, h5, fun j hj hb => ?_⟩
  have hb' : (if j = s then 1 else kx_b A j) = 1 := hb
  show mp_so (if j = s then kx_M A else kx_B A j)
  by_cases q : j = s
  · rw [if_pos q]; exact h3
  · rw [if_neg q] at hb' ⊢
    exact h6 j hj hb'
theorem kz_rest {A : ma_X} {s : Nat} (h : kz A) (hs : s < 2) (hb : kx_b A s = 1) : kz (kx_rest A s) := ⟨h.2.2 s hs hb, fun j hj => absurd hj (Nat.not_lt_zero j), h.2.2⟩
/-! ===== an action: what it answers and leaves hangs on what held ===== -/
def dt (A : ma_X) (kw : ka_S → (Int64 → ka_S → Prop) → Prop) : Prop := ∃ (r : Int64) (A' : ma_X), (mp_ok (kx_M A) → kz A → kz A') ∧ ∀ {σ : ka_S} {Q : Int64 → ka_S → Prop}, kv σ A → (∀ σ1, kv σ1 A' → Q r σ1) → kw σ Q
theorem kI_inj {A : ma_X} {σ : ka_S} (hv : kv σ A) {i j : Nat} (hi : i < 13) (hj : j < 13) (e : nI i = nI j) : i = j := (nI_eq (by omega) (by omega)).mp e
theorem dt_insert (A : ma_X) (v : Int32) : dt A (fun σ Q => kw_L_insert σ v Q) := by
  rcases Classical.em (∃ j, j < mp_N (kx_M A) + 1 ∧ v = nI j) with ⟨j, hj, e⟩ | hn
  · rcases Classical.em (kx_e A = -9 ∧ mp_N (kx_M A) + kx_R A ≤ 12) with hc | hc
    · refine ⟨(nI (mp_N (kx_M A) + kx_R A)).toInt64, kx_ins A j, fun _ h => kz_act h h.1, fun {σ Q} hv k => ?_⟩
      have hN := hv.1.2.2.1.1
      refine s_insert hv (fun j' hj' e' _ _ σ1 h1 => ?_) (fun z => absurd e (z j hj)) (fun j' hj' e' z => absurd hc z)
      obtain rfl : j = j' := kI_inj hv (by omega) (by omega) (e.symm.trans e')
      exact k σ1 h1
    · refine ⟨-9000000000000000003, A, fun _ h => h, fun {σ Q} hv k => ?_⟩
      exact s_insert hv (fun j' hj' e' z1 z2 => absurd ⟨z1, z2⟩ hc) (fun z => absurd e (z j hj)) (fun j' hj' e' z => k)
  · refine ⟨-9000000000000000001, A, fun _ h => h, fun {σ Q} hv k => ?_⟩
    exact s_insert hv (fun j' hj' e' => absurd ⟨j', hj', e'⟩ hn) (fun z => k σ hv) (fun j' hj' e' => absurd ⟨j', hj', e'⟩ hn)
theorem dt_remove (A : ma_X) (v : Int32) : dt A (fun σ Q => kw_L_remove σ v Q) := by
  rcases Classical.em (∃ j, j < mp_N (kx_M A) ∧ v = nI j) with ⟨j, hj, e⟩ | hn
  · refine ⟨(nI (mp_N (kx_M A) - 1)).toInt64, kx_act A (mp_remove (kx_M A) j), fun _ h => kz_act h h.1, fun {σ Q} hv k => ?_⟩
    have hN := hv.1.2.2.1.1
    refine s_remove hv (fun j' hj' e' σ1 h1 => ?_) (fun z => absurd e (z j hj))
    obtain rfl : j = j' := kI_inj hv (by omega) (by omega) (e.symm.trans e')
    exact k σ1 h1
  · exact ⟨-9000000000000000001, A, fun _ h => h, fun {σ Q} hv k => s_remove hv (fun j' hj' e' => absurd ⟨j', hj', e'⟩ hn) (fun z => k σ hv)⟩
theorem dt_end (A : ma_X) (v : Int32) : dt A (fun σ Q => kw_L_end σ v Q) := by
  rcases Classical.em (∃ j, j < mp_N (kx_M A) ∧ v = nI j) with ⟨j, hj, e⟩ | hn
  · refine ⟨(nI (mt_sent (mp_setD (kx_M A) j (mw_end (mp_D (kx_M A) j))))).toInt64, kx_act A (mp_setD (kx_M A) j (mw_end (mp_D (kx_M A) j))), fun _ h => kz_act h h.1, fun {σ Q} hv k => ?_⟩
    have hN := hv.1.2.2.1.1
    refine s_end hv (fun j' hj' e' σ1 h1 => ?_) (fun z => absurd e (z j hj))
    obtain rfl : j = j' := kI_inj hv (by omega) (by omega) (e.symm.trans e')
    exact k σ1 h1
  · exact ⟨-9000000000000000001, A, fun _ h => h, fun {σ Q} hv k => s_end hv (fun j' hj' e' => absurd ⟨j', hj', e'⟩ hn) (fun z => k σ hv)⟩
theorem dt_join (A : ma_X) (v : Int32) : dt A (fun σ Q => kw_L_join σ v Q) := by
  rcases Classical.em (∃ j, j < mp_N (kx_M A) ∧ v = nI j) with ⟨j, hj, e⟩ | hn
  · refine ⟨(nI (mt_sent (mp_setD (kx_M A) j (mw_join (mp_D (kx_M A) j))))).toInt64, kx_act A (mp_setD (kx_M A) j (mw_join (mp_D (kx_M A) j))), fun _ h => kz_act h h.1, fun {σ Q} hv k => ?_⟩
    have hN := hv.1.2.2.1.1
    refine s_join hv (fun j' hj' e' σ1 h1 => ?_) (fun z => absurd e (z j hj))
    obtain rfl : j = j' := kI_inj hv (by omega) (by omega) (e.symm.trans e')
    exact k σ1 h1
  · exact ⟨-9000000000000000001, A, fun _ h => h, fun {σ Q} hv k => s_join hv (fun j' hj' e' => absurd ⟨j', hj', e'⟩ hn) (fun z => k σ hv)⟩
theorem dt_setFree (A : ma_X) (v : Int32) : dt A (fun σ Q => kw_L_setFree σ v Q) := by
  rcases Classical.em (∃ j, j < mp_N (kx_M A) ∧ v = nI j) with ⟨j, hj, e⟩ | hn
  · rcases Classical.em (mc_free (kx_n A) (kx_t A)) with hc | hc
    · refine ⟨(nI (kx_n A)).toInt64, kx_act A (mp_setD (kx_M A) j (mw_free (mp_D (kx_M A) j) (kx_n A) (kx_t A))), fun _ h => kz_act h h.1, fun {σ Q} hv k => ?_⟩
      have hN := hv.1.2.2.1.1
      refine s_setFree hv (fun j' hj' e' _ σ1 h1 => ?_) (fun z => absurd e (z j hj)) (fun j' hj' e' z => absurd hc z)
      obtain rfl : j = j' := kI_inj hv (by omega) (by omega) (e.symm.trans e')
      exact k σ1 h1
    · exact ⟨-9000000000000000003, A, fun _ h => h, fun {σ Q} hv k => s_setFree hv (fun j' hj' e' z => absurd z hc) (fun z => absurd e (z j hj)) (fun j' hj' e' z => k σ hv)⟩
  · exact ⟨-9000000000000000001, A, fun _ h => h, fun {σ Q} hv k => s_setFree hv (fun j' hj' e' => absurd ⟨j', hj', e'⟩ hn) (fun z => k σ hv) (fun j' hj' e' => absurd ⟨j', hj', e'⟩ hn)⟩
theorem dt_setGloss (A : ma_X) (v u : Int32) : dt A (fun σ Q => kw_L_setGloss σ v u Q) := by
  rcases Classical.em (∃ j p, j < mp_N (kx_M A) ∧ p < mw_S (mp_D (kx_M A) j) ∧ v = nI j ∧ u = nI p) with ⟨j, p, hj, hp, e, e2⟩ | hn
  · rcases Classical.em (mc_gloss (kx_n A) (kx_t A)) with hc | hc
    · refine ⟨(nI (mt_gapsP (mp_setG (kx_M A) j p (ma_tx (kx_t A) (kx_n A))))).toInt64, kx_act A (mp_setG (kx_M A) j p (ma_tx (kx_t A) (kx_n A))), fun _ h => kz_act h h.1, fun {σ Q} hv k => ?_⟩
      have hN := hv.1.2.2.1.1
      have hS := (hv.1.2.2.1.2.2.2.2.2.1 j hj).1
      refine s_setGloss hv (fun j' p' hj' hp' e' e2' _ σ1 h1 => ?_) (fun z => absurd ⟨e, e2⟩ (z j p hj hp)) (fun j' p' hj' hp' e' e2' z => absurd hc z)
      obtain rfl : j = j' := kI_inj hv (by omega) (by omega) (e.symm.trans e')
      obtain rfl : p = p' := kI_inj hv (by omega) (by omega) (e2.symm.trans e2')
      exact k σ1 h1
    · exact ⟨-9000000000000000003, A, fun _ h => h, fun {σ Q} hv k => s_setGloss hv (fun j' p' hj' hp' e' e2' z => absurd z hc) (fun z => absurd ⟨e, e2⟩ (z j p hj hp)) (fun j' p' hj' hp' e' e2' z => k σ hv)⟩
  · exact ⟨-9000000000000000001, A, fun _ h => h, fun {σ Q} hv k => s_setGloss hv (fun j' p' hj' hp' e' e2' => absurd ⟨j', p', hj', hp', e', e2'⟩ hn) (fun z => k σ hv) (fun j' p' hj' hp' e' e2' => absurd ⟨j', p', hj', hp', e', e2'⟩ hn)⟩
theorem dt_learn (A : ma_X) (v u : Int32) : dt A (fun σ Q => kw_L_learn σ v u Q) := by
  rcases Classical.em (∃ j p, j < mp_N (kx_M A) ∧ p < mw_S (mp_D (kx_M A) j) ∧ v = nI j ∧ u = nI p) with ⟨j, p, hj, hp, e, e2⟩ | hn
  · rcases Classical.em (mc_learn (kx_M A) j p) with hc | hc
    · refine ⟨(nI (mp_L (mp_learn (kx_M A) (mw_P (mp_D (kx_M A) j) p) (mw_G (mp_D (kx_M A) j) p)))).toInt64, kx_act A (mp_learn (kx_M A) (mw_P (mp_D (kx_M A) j) p) (mw_G (mp_D (kx_M A) j) p)), fun okm h => kz_act h (mp_so_learn okm h.1 ((okm.2.2.2.2.2.1 j hj).2.2.2.2.1 p hp).1.g), fun {σ Q} hv k => ?_⟩
      have hN := hv.1.2.2.1.1
      have hS := (hv.1.2.2.1.2.2.2.2.2.1 j hj).1
      refine s_learn hv (fun j' p' hj' hp' e' e2' _ σ1 h1 => ?_) (fun z => absurd ⟨e, e2⟩ (z j p hj hp)) (fun j' p' hj' hp' e' e2' z => ?_)
      · have hS' := (hv.1.2.2.1.2.2.2.2.2.1 j' hj').1
        obtain rfl : j = j' := kI_inj hv (by omega) (by omega) (e.symm.trans e')
        obtain rfl : p = p' := kI_inj hv (by omega) (by omega) (e2.symm.trans e2')
        exact k σ1 h1
      · have hS' := (hv.1.2.2.1.2.2.2.2.2.1 j' hj').1
        obtain rfl : j = j' := kI_inj hv (by omega) (by omega) (e.symm.trans e')
        obtain rfl : p = p' := kI_inj hv (by omega) (by omega) (e2.symm.trans e2')
        exact absurd hc z
    · refine ⟨-9000000000000000003, A, fun _ h => h, fun {σ Q} hv k => ?_⟩
      have hN := hv.1.2.2.1.1
      have hS := (hv.1.2.2.1.2.2.2.2.2.1 j hj).1
      refine s_learn hv (fun j' p' hj' hp' e' e2' z => ?_) (fun z => absurd ⟨e, e2⟩ (z j p hj hp)) (fun j' p' hj' hp' e' e2' z => k σ hv)
      have hS' := (hv.1.2.2.1.2.2.2.2.2.1 j' hj').1
      obtain rfl : j = j' := kI_inj hv (by omega) (by omega) (e.symm.trans e')
      obtain rfl : p = p' := kI_inj hv (by omega) (by omega) (e2.symm.trans e2')
      exact absurd z hc
  · exact ⟨-9000000000000000001, A, fun _ h => h, fun {σ Q} hv k => s_learn hv (fun j' p' hj' hp' e' e2' => absurd ⟨j', p', hj', hp', e', e2'⟩ hn) (fun z => k σ hv) (fun j' p' hj' hp' e' e2' => absurd ⟨j', p', hj', hp', e', e2'⟩ hn)⟩
theorem dt_forget (A : ma_X) (v : Int32) : dt A (fun σ Q => kw_L_forget σ v Q) := by
  rcases Classical.em (∃ j, j < mp_L (kx_M A) ∧ v = nI j) with ⟨j, hj, e⟩ | hn
  · refine ⟨(nI (mp_L (mp_forget (kx_M A) j))).toInt64, kx_act A (mp_forget (kx_M A) j), fun _ h => kz_act h (mp_so_forget h.1), fun {σ Q} hv k => ?_⟩
    have hL := hv.1.2.2.1.2.1
    refine s_forget hv (fun j' hj' e' σ1 h1 => ?_) (fun z => absurd e (z j hj))
    obtain rfl : j = j' := (nI_eq (by omega) (by omega)).mp (e.symm.trans e')
    exact k σ1 h1
  · exact ⟨-9000000000000000001, A, fun _ h => h, fun {σ Q} hv k => s_forget hv (fun j' hj' e' => absurd ⟨j', hj', e'⟩ hn) (fun z => k σ hv)⟩
theorem dt_undo (A : ma_X) : dt A (fun σ Q => kw_L_undo σ Q) := by
  rcases Classical.em (kx_h A = 0) with h0 | h0
  · exact ⟨-9000000000000000003, A, fun _ h => h, fun {σ Q} hv k => s_undo hv (fun z => absurd h0 z) (fun _ => k σ hv)⟩
  · exact ⟨(nI (kx_h A - 1)).toInt64, kx_undo A, fun _ h => kz_undo h h0, fun {σ Q} hv k => s_undo hv (fun _ σ1 h1 => k σ1 h1) (fun z => absurd z h0)⟩
theorem dt_save (A : ma_X) {s : Nat} (hs : s < 2) : dt A (fun σ Q => kw_L_save σ (nI s) Q) :=
  ⟨lN (mp_N (kx_M A)), kx_save A s, fun _ h => kz_save h, fun {σ Q} hv k => l1_save hv hs k⟩
theorem dt_restore (A : ma_X) {s : Nat} (hs : s < 2) : dt A (fun σ Q => kw_L_restore σ (nI s) Q) := by
  rcases Classical.em (kx_b A s = 1) with hb | hb
  · exact ⟨lN (mp_N (kx_B A s)), kx_rest A s, fun _ h => kz_rest h hs hb, fun {σ Q} hv k => l1_restore hv hs hb k⟩
  · refine ⟨-9000000000000000003, A, fun _ h => h, fun {σ Q} hv k => ?_⟩
    refine s_restore hv (fun s' hs' e hb' => ?_) (fun z => absurd rfl (z s hs)) (fun s' hs' e hb' => k σ hv)
    rw [nI_eq (by omega) (by omega)] at e
    subst e
    exact absurd hb' hb
theorem dt_set (A : ma_X) {k x : Nat} (hk : mc_sx k x) : dt A (fun σ Q => kw_L_set σ (nI k) (nI x) Q) := by
  refine ⟨lN (mt_about (kx_M A) k), kx_act A (mp_set (kx_M A) k x), fun _ h => kz_act h ?_, fun {σ Q} hv k => l1_set hv hk k⟩
  unfold mp_set
  split
  · exact h.1
  · split
    · exact h.1
    · exact h.1
theorem dt_fill (A : ma_X) : dt A (fun σ Q => kw_X8_fillGaps σ (fun r σ1 => Q r.toInt64 σ1)) :=
  ⟨(nI (mt_fill (kx_M A)).2).toInt64, kx_act A (mt_fill (kx_M A)).1, fun _ h => kz_act h (mp_so_same (by unfold mp_L; rw [(mt_fill_x (kx_M A)).1]) (by unfold mp_A; rw [(mt_fill_x (kx_M A)).2]) h.1), fun {σ Q} hv k => s_fillGaps hv k⟩
