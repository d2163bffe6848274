/-! ===== now: a number of the page alone ===== -/
def hm (x : Int64) : Int64 := x - x / (1000000007 : Int64) * (1000000007 : Int64)
theorem dn_97 {M : ma_P} {i p : Nat} (hi : i < mp_N M) (hp : p < mw_S (mp_D M i)) : ∀ (m k : Nat), k + m = 8 → ∀ acc : Int64, ∃ acc' : Int64, ∀ {σ : ka_S} {A : ma_X} {K36 : ka_S → Int64 → Int32 → Prop} {K81 : ka_S → Int64 → Int32 → Int32 → Prop} {Q : Int64 → ka_S → Prop}, kx_M A = M → kv σ A → (∀ σ1, kv σ1 A → K81 σ1 acc' (nI i) (nI (p + 1))) → kw_L_now_97 K36 K81 Q (m + 1) σ acc (nI i) (nI p) (nI k) := by
  intro m
  induction m with
  | zero =>
    intro k hk acc
    obtain rfl : k = 8 := by omega
    refine ⟨hm ((1009 : Int64) * acc + (mi_part M i p 2).toInt64 + (20 : Int64)), fun {σ A K36 K81 Q} hM hv h => ?_⟩
    subst hM
    rw [kw_L_now_97]
    refine kb_le 8 8 (fun _ => ?_) (fun q => absurd q (by omega))
    refine l0_part (k := 2) hv hi hp (by decide) (fun σ1 h1 => ?_)
    intro x ex x2 ex2
    subst ex ex2
    rw [nI_1]
    exact h σ1 h1
  | succ m ih =>
    intro k hk acc
    obtain ⟨a', ih⟩ := ih (k + 1) (by omega) (hm ((1009 : Int64) * acc + (mi_let (mw_PG (mp_D M i) 0 p) k).toInt64 + (200 : Int64) * (mi_let (mw_PG (mp_D M i) 1 p) k).toInt64 + (2000 : Int64)))
    refine ⟨a', fun {σ A K36 K81 Q} hM hv h => ?_⟩
    subst hM
    rw [kw_L_now_97]
    refine kb_le 8 k (fun q => absurd q (by omega)) (fun _ => ?_)
    refine l0_letter (b := 0) hv (by decide) hi hp (by omega) (fun σ1 h1 => l0_letter (b := 1) h1 (by decide) hi hp (by omega) (fun σ2 h2 => ?_))
    intro x ex x2 ex2
    subst ex ex2
    rw [nI_1]
    exact ih rfl h2 h
theorem dn_81 {M : ma_P} (ok : mp_ok M) {i : Nat} (hi : i < mp_N M) : ∀ (m p : Nat), p + m = mw_S (mp_D M i) → ∀ acc : Int64, ∃ acc' : Int64, ∀ {σ : ka_S} {A : ma_X} {K36 : ka_S → Int64 → Int32 → Prop} {Q : Int64 → ka_S → Prop}, kx_M A = M → kv σ A → (∀ σ1, kv σ1 A → K36 σ1 acc' (nI (i + 1))) → kw_L_now_81 K36 Q (m + 1) σ acc (nI i) (nI p) := by
  have hS := (ok.2.2.2.2.2.1 i hi).1
  intro m
  induction m with
  | zero =>
    intro p hp acc
    refine ⟨acc, fun {σ A K36 Q} hM hv h => ?_⟩
    subst hM
    rw [kw_L_now_81]
    refine l0_word (k := 0) hv hi (by decide) (fun σ1 h1 => ?_)
    refine kb_lLE (mw_S (mp_D (kx_M A) i)) p (fun _ => ?_) (fun q => absurd q (by omega)) rfl (nI_l (by omega))
    intro x ex
    subst ex
    rw [nI_1]
    exact h σ1 h1
  | succ m ih =>
    intro p hp acc
    obtain ⟨a1, h97⟩ := dn_97 hi (show p < mw_S (mp_D M i) by omega) 8 0 rfl acc
    obtain ⟨a', ih⟩ := ih (p + 1) (by omega) a1
    refine ⟨a', fun {σ A K36 Q} hM hv h => ?_⟩
    subst hM
    rw [kw_L_now_81]
    refine l0_word (k := 0) hv hi (by decide) (fun σ1 h1 => ?_)
    refine kb_lLE (mw_S (mp_D (kx_M A) i)) p (fun q => absurd q (by omega)) (fun _ => ?_) rfl (nI_l (by omega))
    exact ⟨9, h97 rfl h1 (fun σ2 h2 => ih rfl h2 h)⟩
theorem dn_47 {M : ma_P} (ok : mp_ok M) {i : Nat} (hi : i < mp_N M) : ∀ (m k : Nat), k + m = 8 → ∀ acc : Int64, ∃ acc' : Int64, ∀ {σ : ka_S} {A : ma_X} {K36 : ka_S → Int64 → Int32 → Prop} {Q : Int64 → ka_S → Prop}, kx_M A = M → kv σ A → (∀ σ1, kv σ1 A → K36 σ1 acc' (nI (i + 1))) → kw_L_now_47 K36 Q (m + 1) σ acc (nI i) (nI k) := by
  intro m
  induction m with
  | zero =>
    intro k hk acc
    obtain rfl : k = 8 := by omega
    obtain ⟨a', h81⟩ := dn_81 ok hi (mw_S (mp_D M i)) 0 (Nat.zero_add _) acc
    refine ⟨a', fun {σ A K36 Q} hM hv h => ?_⟩
    rw [kw_L_now_47]
    exact kb_le 8 8 (fun _ => ⟨_, h81 hM hv h⟩) (fun q => absurd q (by omega))
  | succ m ih =>
    intro k hk acc
    obtain ⟨a', ih⟩ := ih (k + 1) (by omega) (hm ((1009 : Int64) * acc + lN (mt_word M i k)))
    refine ⟨a', fun {σ A K36 Q} hM hv h => ?_⟩
    subst hM
    rw [kw_L_now_47]
    refine kb_le 8 k (fun q => absurd q (by omega)) (fun _ => ?_)
    refine l0_word hv hi (by omega) (fun σ1 h1 => ?_)
    intro x ex x2 ex2
    subst ex ex2
    rw [nI_1]
    exact ih rfl h1 h
theorem dn_202 {M : ma_P} {e : Nat} (he : e < mp_L M) : ∀ (m k : Nat), k + m = 8 → ∀ acc : Int64, ∃ acc' : Int64, ∀ {σ : ka_S} {A : ma_X} {K187 : ka_S → Int64 → Int32 → Prop} {Q : Int64 → ka_S → Prop}, kx_M A = M → kv σ A → (∀ σ1, kv σ1 A → K187 σ1 acc' (nI (e + 1))) → kw_L_now_202 K187 Q (m + 1) σ acc (nI e) (nI k) := by
  intro m
  induction m with
  | zero =>
    intro k hk acc
    obtain rfl : k = 8 := by omega
    refine ⟨acc, fun {σ A K187 Q} hM hv h => ?_⟩
    rw [kw_L_now_202]
    refine kb_le 8 8 (fun _ => ?_) (fun q => absurd q (by omega))
    intro x ex
    subst ex
    rw [nI_1]
    exact h σ hv
  | succ m ih =>
    intro k hk acc
    obtain ⟨a', ih⟩ := ih (k + 1) (by omega) (hm ((1009 : Int64) * acc + (mi_let (mp_AB M 0 e) k).toInt64 + (200 : Int64) * (mi_let (mp_AB M 1 e) k).toInt64 + (2000 : Int64)))
    refine ⟨a', fun {σ A K187 Q} hM hv h => ?_⟩
    subst hM
    rw [kw_L_now_202]
    refine kb_le 8 k (fun q => absurd q (by omega)) (fun _ => ?_)
    refine l0_entry (b := 0) hv (by decide) he (by omega) (fun σ1 h1 => l0_entry (b := 1) h1 (by decide) he (by omega) (fun σ2 h2 => ?_))
    intro x ex x2 ex2
    subst ex ex2
    rw [nI_1]
    exact ih rfl h2 h
theorem dn_187 {M : ma_P} (ok : mp_ok M) : ∀ (m e : Nat), e + m = mp_L M → ∀ acc : Int64, ∃ acc' : Int64, ∀ {σ : ka_S} {A : ma_X} {Q : Int64 → ka_S → Prop}, kx_M A = M → kv σ A → (∀ σ1, kv σ1 A → Q acc' σ1) → kw_L_now_187 Q (m + 1) σ acc (nI e) := by
  have hL := ok.2.1
  intro m
  induction m with
  | zero =>
    intro e he acc
    refine ⟨acc, fun {σ A Q} hM hv h => ?_⟩
    subst hM
    rw [kw_L_now_187]
    refine l0_about (k := 7) hv (by decide) (fun σ1 h1 => ?_)
    exact kb_lLE (mp_L (kx_M A)) e (fun _ => h σ1 h1) (fun q => absurd q (by omega)) rfl (nI_l (by omega))
  | succ m ih =>
    intro e he acc
    obtain ⟨a1, h202⟩ := dn_202 (show e < mp_L M by omega) 8 0 rfl acc
    obtain ⟨a', ih⟩ := ih (e + 1) (by omega) a1
    refine ⟨a', fun {σ A Q} hM hv h => ?_⟩
    subst hM
    rw [kw_L_now_187]
    refine l0_about (k := 7) hv (by decide) (fun σ1 h1 => ?_)
    exact kb_lLE (mp_L (kx_M A)) e (fun q => absurd q (by omega)) (fun _ => ⟨9, h202 rfl h1 (fun σ2 h2 => ih rfl h2 h)⟩) rfl (nI_l (by omega))
theorem dn_36 {M : ma_P} (ok : mp_ok M) : ∀ (m i : Nat), i + m = mp_N M → ∀ acc : Int64, ∃ acc' : Int64, ∀ {σ : ka_S} {A : ma_X} {Q : Int64 → ka_S → Prop}, kx_M A = M → kv σ A → (∀ σ1, kv σ1 A → Q acc' σ1) → kw_L_now_36 Q (m + 1) σ acc (nI i) := by
  have hN := ok.1
  intro m
  induction m with
  | zero =>
    intro i hi acc
    obtain ⟨a', h187⟩ := dn_187 ok (mp_L M) 0 (Nat.zero_add _) acc
    refine ⟨a', fun {σ A Q} hM hv h => ?_⟩
    subst hM
    rw [kw_L_now_36]
    refine l_words hv (fun σ1 h1 => ?_)
    exact kb_le (mp_N (kx_M A)) i (fun _ => ⟨_, h187 rfl h1 h⟩) (fun q => absurd q (by omega))
  | succ m ih =>
    intro i hi acc
    obtain ⟨a1, h47⟩ := dn_47 ok (show i < mp_N M by omega) 8 0 rfl acc
    obtain ⟨a', ih⟩ := ih (i + 1) (by omega) a1
    refine ⟨a', fun {σ A Q} hM hv h => ?_⟩
    subst hM
    rw [kw_L_now_36]
    refine l_words hv (fun σ1 h1 => ?_)
    exact kb_le (mp_N (kx_M A)) i (fun q => absurd q (by omega)) (fun _ => ⟨9, h47 rfl h1 (fun σ2 h2 => ih rfl h2 h)⟩)
theorem dn_6 {M : ma_P} (ok : mp_ok M) : ∀ (m k : Nat), k + m = 12 → ∀ acc : Int64, ∃ acc' : Int64, ∀ {σ : ka_S} {A : ma_X} {Q : Int64 → ka_S → Prop}, kx_M A = M → kv σ A → (∀ σ1, kv σ1 A → Q acc' σ1) → kw_L_now_6 Q (m + 1) σ acc (nI k) := by
  intro m
  induction m with
  | zero =>
    intro k hk acc
    obtain rfl : k = 12 := by omega
    obtain ⟨a', h36⟩ := dn_36 ok (mp_N M) 0 (Nat.zero_add _) acc
    refine ⟨a', fun {σ A Q} hM hv h => ?_⟩
    rw [kw_L_now_6]
    exact kb_le 12 12 (fun _ => ⟨_, h36 hM hv h⟩) (fun q => absurd q (by omega))
  | succ m ih =>
    intro k hk acc
    obtain ⟨a', ih⟩ := ih (k + 1) (by omega) (hm ((1009 : Int64) * acc + lN (mt_about M k)))
    refine ⟨a', fun {σ A Q} hM hv h => ?_⟩
    subst hM
    rw [kw_L_now_6]
    refine kb_le 12 k (fun q => absurd q (by omega)) (fun _ => ?_)
    refine l0_about hv (by omega) (fun σ1 h1 => ?_)
    intro x ex x2 ex2
    subst ex ex2
    rw [nI_1]
    exact ih rfl h1 h
theorem dn_all (M : ma_P) : ∃ v : Int64, ∀ {σ : ka_S} {A : ma_X} {Q : Int64 → ka_S → Prop}, kx_M A = M → kv σ A → (∀ σ1, kv σ1 A → Q v σ1) → kw_L_now σ Q := by
  rcases Classical.em (mp_ok M) with ok | nok
  · obtain ⟨a', h6⟩ := dn_6 ok 12 0 rfl 109
    refine ⟨a', fun {σ A Q} hM hv h => ?_⟩
    exact ⟨13, h6 hM hv h⟩
  · exact ⟨0, fun {σ A Q} hM hv h => absurd (hM ▸ hv.1.2.2.1) nok⟩
noncomputable def mf_now (M : ma_P) : Int64 := Classical.choose (dn_all M)
theorem l_now {σ : ka_S} {A : ma_X} {Q : Int64 → ka_S → Prop} (hv : kv σ A) (h : ∀ σ1, kv σ1 A → Q (mf_now (kx_M A)) σ1) : kw_L_now σ Q := Classical.choose_spec (dn_all (kx_M A)) rfl hv h
