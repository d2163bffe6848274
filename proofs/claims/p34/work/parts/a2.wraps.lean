/-! ===== branches over numbers ===== -/
theorem kb_eq {α : Type} {x y : α} {A B : Prop} (e : x = y) (f : A) : (x = y → A) ∧ (¬ x = y → B) := ⟨fun _ => f, fun q => absurd e q⟩
theorem kb_ne {α : Type} {x y : α} {A B : Prop} (e : ¬ x = y) (f : B) : (x = y → A) ∧ (¬ x = y → B) := ⟨fun q => absurd q e, fun _ => f⟩
theorem kb_le {x y : Int32} {A B : Prop} (a b : Nat) (f : a ≤ b → A) (g : b < a → B) (hx : x = nI a := by rfl) (hy : y = nI b := by rfl) (ha : a < 2 ^ 31 := by omega) (hb : b < 2 ^ 31 := by omega) : (x ≤ y → A) ∧ (¬ x ≤ y → B) := pk_le a b f g hx hy ha hb
theorem kb_lt {x y : Int32} {A B : Prop} (a b : Nat) (f : a < b → A) (g : b ≤ a → B) (hx : x = nI a := by rfl) (hy : y = nI b := by rfl) (ha : a < 2 ^ 31 := by omega) (hb : b < 2 ^ 31 := by omega) : (x < y → A) ∧ (¬ x < y → B) := pk_lt a b f g hx hy ha hb
theorem kb_i {x y : Int32} {A B : Prop} (a b : Nat) (f : a = b → A) (g : a ≠ b → B) (hx : x = nI a := by rfl) (hy : y = nI b := by rfl) (ha : a < 2 ^ 31 := by omega) (hb : b < 2 ^ 31 := by omega) : (x = y → A) ∧ (¬ x = y → B) := by
  subst hx hy
  rw [nI_eq ha hb]
  exact ⟨f, g⟩
theorem kb_lLE {x y : Int64} {A B : Prop} (a b : Nat) (f : a ≤ b → A) (g : b < a → B) (hx : x = lN a := by rfl) (hy : y = lN b := by rfl) (ha : a < 2 ^ 63 := by omega) (hb : b < 2 ^ 63 := by omega) : (x ≤ y → A) ∧ (¬ x ≤ y → B) := by
  subst hx hy
  rw [pk_lLE ha hb]
  exact ⟨f, fun q => g (Nat.lt_of_not_le q)⟩
theorem kb_lLT {x y : Int64} {A B : Prop} (a b : Nat) (f : a < b → A) (g : b ≤ a → B) (hx : x = lN a := by rfl) (hy : y = lN b := by rfl) (ha : a < 2 ^ 63 := by omega) (hb : b < 2 ^ 63 := by omega) : (x < y → A) ∧ (¬ x < y → B) := by
  subst hx hy
  rw [pk_lLT ha hb]
  exact ⟨f, fun q => g (Nat.le_of_not_lt q)⟩
theorem kb_l {x y : Int64} {A B : Prop} (a b : Nat) (f : a = b → A) (g : a ≠ b → B) (hx : x = lN a := by rfl) (hy : y = lN b := by rfl) (ha : a < 2 ^ 63 := by omega) (hb : b < 2 ^ 63 := by omega) : (x = y → A) ∧ (¬ x = y → B) := by
  subst hx hy
  rw [pk_lEQ ha hb]
  exact ⟨f, g⟩
theorem kI_n1 {k : Nat} (h : k < 2 ^ 31) : ¬ (-1 : Int32) = nI k := fun q => by
  have := nI_pos' h
  rw [← q] at this
  exact absurd this (by decide)
theorem kI_n1p : ¬ (0 : Int32) ≤ -1 := by decide
theorem kI_9l {k : Nat} (h : k < 2 ^ 31) : ¬ lN k = (-9 : Int64) := fun q => by
  have h1 := lN_toInt h
  rw [q] at h1
  have : (-9 : Int64).toInt = -9 := by decide
  omega
theorem kI_let_n {l : List Nat} {d : Nat} (h : l.length ≤ d) : (mi_let l d).toInt64 = -9 := by
  unfold mi_let
  rw [if_neg (by omega)]
  rfl
theorem kI_let {l : List Nat} {d : Nat} (hl : ma_g l) (h : d < l.length) : (mi_let l d).toInt64 = lN (l.getD d 0) ∧ l.getD d 0 < 128 := by
  have hm := (hl.d _ (ma_getD_mem h)).2
  unfold mi_let
  rw [if_pos h, nI_l (by omega)]
  exact ⟨rfl, hm⟩
theorem mw_PG_g {w : ma_W} (ok : mw_ok w) {b p : Nat} (hp : p < mw_S w) : ma_g (mw_PG w b p) := by
  unfold mw_PG
  by_cases e : b = 0
  · rw [if_pos e]; exact (ok.2.2.2.2.1 p hp).1.g
  · rw [if_neg e]; exact (ok.2.2.2.2.1 p hp).2.1
theorem mp_AB_g {M : ma_P} (ok : mp_ok M) {b e : Nat} (he : e < mp_L M) : ma_g (mp_AB M b e) := by
  unfold mp_AB
  by_cases q : b = 0
  · rw [if_pos q]; exact (ok.2.2.2.2.2.2 e he).1.g
  · rw [if_neg q]; exact (ok.2.2.2.2.2.2 e he).2.1
theorem mt_parts_le {M : ma_P} (ok : mp_ok M) : mt_parts M ≤ 48 := by
  have h := ma_sum_le (f := fun i => mw_S (mp_D M i)) (c := 4) (mp_N M) (fun k hk => (ok.2.2.2.2.2.1 k hk).1.2)
  have := ok.1
  unfold mt_parts
  omega
theorem mt_sent_le {M : ma_P} (ok : mp_ok M) : mt_sent M ≤ 12 := by
  have h := ma_sum_le (f := mf_sent M) (c := 1) (mp_N M) (fun k hk => by unfold mf_sent; split <;> omega)
  have := ok.1
  unfold mt_sent
  omega
theorem mt_diff_le {M : ma_P} (ok : mp_ok M) : mt_diff M ≤ 48 := by
  have h := ma_sum_le (f := mt_diffW M) (c := 4) (mp_N M) (fun i hi => by
    have h2 := ma_sum_le (f := mf_diff M i) (c := 1) (mw_S (mp_D M i)) (fun p hp => by unfold mf_diff; split <;> omega)
    have := (ok.2.2.2.2.2.1 i hi).1.2
    unfold mt_diffW
    omega)
  have := ok.1
  unfold mt_diff
  omega
theorem mt_wide_le {M : ma_P} (ok : mp_ok M) (W y : Nat) : ma_sum (mf_wide M W y) (mp_N M) ≤ 12 := by
  have h := ma_sum_le (f := mf_wide M W y) (c := 1) (mp_N M) (fun k hk => by unfold mf_wide; split <;> omega)
  have := ok.1
  omega
theorem mt_about_lt {M : ma_P} (ok : mp_ok M) : ∀ k, mt_about M k < 2 ^ 20
  | 0 => by have := ok.1; show mp_N M < _; omega
  | 1 => by have := mt_parts_le ok; show mt_parts M < _; omega
  | 2 => by have := mt_gapsP_le ok; show mt_gapsP M < _; omega
  | 3 => by have := mt_sent_le ok; show mt_sent M < _; omega
  | 4 => by have := (mt_lay_le (y := mp_Y M) ok ok.2.2.1 (mp_N M) (Nat.le_refl _)).1; have := ok.1; show tl _ < _; omega
  | 5 => by have := mt_rows_le ok; show mt_rows M < _; omega
  | 6 => by have := mt_wide_le ok (mp_W M) (mp_Y M); show ma_sum _ _ < _; omega
  | 7 => by have := ok.2.1; show mp_L M < _; omega
  | 8 => by have := mt_diff_le ok; show mt_diff M < _; omega
  | 9 => by have := ok.2.2.1; show mp_W M < _; omega
  | 10 => by have := ok.2.2.2.1; show mp_S M < _; omega
  | k + 11 => by have := ok.2.2.2.2.1; show mp_Y M < _; omega
theorem mt_gaps_le {w : ma_W} (ok : mw_ok w) : mt_gaps w ≤ 4 := by
  have h := ma_sum_le (f := mf_gap w) (c := 1) (mw_S w) (fun p hp => by unfold mf_gap; split <;> omega)
  have := ok.1.2
  unfold mt_gaps
  omega
theorem ml_sent_le {M : ma_P} {i : Nat} (ok : mp_ok M) (hi : i < mp_N M) : ml_sent M (mp_W M) (mp_Y M) i ≤ 12 := by
  have := (mt_lay_le (y := mp_Y M) ok ok.2.2.1 i (by omega)).2.2.2.1
  have := ok.1
  unfold ml_sent
  omega
theorem mt_word_lt {M : ma_P} (ok : mp_ok M) {i : Nat} (hi : i < mp_N M) : ∀ k, mt_word M i k < 2 ^ 20
  | 0 => by have := (ok.2.2.2.2.2.1 i hi).1; show mw_S _ < _; omega
  | 1 => by have := mt_width_le (ok.2.2.2.2.2.1 i hi) (mp_Y M); show mt_width _ _ < _; omega
  | 2 => by have := ml_col_le (y := mp_Y M) ok ok.2.2.1 hi; show ml_line _ _ _ _ < _; omega
  | 3 => by have := ml_col_le (y := mp_Y M) ok ok.2.2.1 hi; show ml_col _ _ _ _ < _; omega
  | 4 => by have := ml_sent_le ok hi; show ml_sent _ _ _ _ < _; omega
  | 5 => by have := (ok.2.2.2.2.2.1 i hi).2.1; show mw_E _ < _; omega
  | 6 => by have := mt_gaps_le (ok.2.2.2.2.2.1 i hi); show mt_gaps _ < _; omega
  | k + 7 => by have := (ok.2.2.2.2.2.1 i hi).2.2.1; show mw_F _ < _; omega
theorem mr_word_lt {M : ma_P} (ok : mp_ok M) {r : Nat} (hr : r < mt_rows M) : mr_word M (mp_W M) (mp_Y M) r < mp_N M := (mr_facts (y := mp_Y M) ok ok.2.2.1 hr).1
theorem mt_row_lt {M : ma_P} (ok : mp_ok M) {r : Nat} (hr : r < mt_rows M) : ∀ k, mt_row M r k < 2 ^ 20
  | 0 => by show min 2 _ < _; omega
  | 1 => by
    have h := mr_word_lt ok hr
    have h1 := ml_col_le (y := mp_Y M) ok ok.2.2.1 h
    have h2 := mt_width_le (ok.2.2.2.2.2.1 _ h) (mp_Y M)
    have h3 := ok.2.2.1
    show mr_len M (mp_W M) (mp_Y M) r < _
    unfold mr_len
    split <;> omega
  | k + 2 => by have := ml_sent_le ok (mr_word_lt ok hr); show ml_sent _ _ _ _ < _; omega
/-! ===== the law's wrappers, where they return ===== -/
theorem l1_about {σ : ka_S} {A : ma_X} {k : Nat} {Q : Int64 → ka_S → Prop} (hv : kv σ A) (hk : k < 12) (h : ∀ σ1, kv σ1 A → Q (lN (mt_about (kx_M A) k)) σ1) : kw_L_about σ (nI k) Q := by
  unfold kw_L_about
  refine s_about hv (fun k' hk' e σ1 h1 => ?_) (fun z => absurd rfl (z k hk))
  rw [nI_eq (by omega) (by omega)] at e
  subst e
  rw [nI_l (Nat.lt_trans (mt_about_lt hv.1.2.2.1 k) (by decide))]
  exact h σ1 h1
theorem l0_about {σ : ka_S} {A : ma_X} {k : Nat} {Q : Int64 → ka_S → Prop} (hv : kv σ A) (hk : k < 12) (h : ∀ σ1, kv σ1 A → Q (lN (mt_about (kx_M A) k)) σ1) : kw0_L_about σ (nI k) Q := by
  unfold kw0_L_about
  refine s_about hv (fun k' hk' e σ1 h1 => ?_) (fun z => absurd rfl (z k hk))
  rw [nI_eq (by omega) (by omega)] at e
  subst e
  rw [nI_l (Nat.lt_trans (mt_about_lt hv.1.2.2.1 k) (by decide))]
  exact h σ1 h1
theorem l1_word {σ : ka_S} {A : ma_X} {i k : Nat} {Q : Int64 → ka_S → Prop} (hv : kv σ A) (hi : i < mp_N (kx_M A)) (hk : k < 8) (h : ∀ σ1, kv σ1 A → Q (lN (mt_word (kx_M A) i k)) σ1) : kw_L_word σ (nI i) (nI k) Q := by
  unfold kw_L_word
  have hN := hv.1.2.2.1.1
  refine s_word hv (fun j k' hj hk' e e2 σ1 h1 => ?_) (fun z => absurd rfl (z i hi)) (fun j hj e z => absurd rfl (z k hk))
  rw [nI_eq (by omega) (by omega)] at e e2
  subst e e2
  rw [nI_l (Nat.lt_trans (mt_word_lt hv.1.2.2.1 hj k) (by decide))]
  exact h σ1 h1
theorem l0_word {σ : ka_S} {A : ma_X} {i k : Nat} {Q : Int64 → ka_S → Prop} (hv : kv σ A) (hi : i < mp_N (kx_M A)) (hk : k < 8) (h : ∀ σ1, kv σ1 A → Q (lN (mt_word (kx_M A) i k)) σ1) : kw0_L_word σ (nI i) (nI k) Q := by
  unfold kw0_L_word
  have hN := hv.1.2.2.1.1
  refine s_word hv (fun j k' hj hk' e e2 σ1 h1 => ?_) (fun z => absurd rfl (z i hi)) (fun j hj e z => absurd rfl (z k hk))
  rw [nI_eq (by omega) (by omega)] at e e2
  subst e e2
  rw [nI_l (Nat.lt_trans (mt_word_lt hv.1.2.2.1 hj k) (by decide))]
  exact h σ1 h1
theorem l1_part {σ : ka_S} {A : ma_X} {i p k : Nat} {Q : Int64 → ka_S → Prop} (hv : kv σ A) (hi : i < mp_N (kx_M A)) (hp : p < mw_S (mp_D (kx_M A) i)) (hk : k < 4) (h : ∀ σ1, kv σ1 A → Q (mi_part (kx_M A) i p k).toInt64 σ1) : kw_L_part σ (nI i) (nI p) (nI k) Q := by
  unfold kw_L_part
  have hN := hv.1.2.2.1.1
  have hS := (hv.1.2.2.1.2.2.2.2.2.1 i hi).1
  refine s_part hv (fun j q k' hj hq hk' e e2 e3 σ1 h1 => ?_) (fun z => absurd ⟨rfl, rfl⟩ (z i p hi hp)) (fun j q hj hq e e2 z => absurd rfl (z k hk))
  have hS' := (hv.1.2.2.1.2.2.2.2.2.1 j hj).1
  rw [nI_eq (by omega) (by omega)] at e e2 e3
  subst e e2 e3
  exact h σ1 h1
theorem l0_part {σ : ka_S} {A : ma_X} {i p k : Nat} {Q : Int64 → ka_S → Prop} (hv : kv σ A) (hi : i < mp_N (kx_M A)) (hp : p < mw_S (mp_D (kx_M A) i)) (hk : k < 4) (h : ∀ σ1, kv σ1 A → Q (mi_part (kx_M A) i p k).toInt64 σ1) : kw0_L_part σ (nI i) (nI p) (nI k) Q := by
  unfold kw0_L_part
  have hN := hv.1.2.2.1.1
  have hS := (hv.1.2.2.1.2.2.2.2.2.1 i hi).1
  refine s_part hv (fun j q k' hj hq hk' e e2 e3 σ1 h1 => ?_) (fun z => absurd ⟨rfl, rfl⟩ (z i p hi hp)) (fun j q hj hq e e2 z => absurd rfl (z k hk))
  have hS' := (hv.1.2.2.1.2.2.2.2.2.1 j hj).1
  rw [nI_eq (by omega) (by omega)] at e e2 e3
  subst e e2 e3
  exact h σ1 h1
theorem l1_letter {σ : ka_S} {A : ma_X} {i p b d : Nat} {Q : Int64 → ka_S → Prop} (hv : kv σ A) (hb : b ≤ 1) (hi : i < mp_N (kx_M A)) (hp : p < mw_S (mp_D (kx_M A) i)) (hd : d < 2 ^ 31) (h : ∀ σ1, kv σ1 A → Q (mi_let (mw_PG (mp_D (kx_M A) i) b p) d).toInt64 σ1) : kw_L_letter σ (nI i) (nI p) (nI b) (nI d) Q := by
  unfold kw_L_letter
  have hN := hv.1.2.2.1.1
  have hS := (hv.1.2.2.1.2.2.2.2.2.1 i hi).1
  refine s_letter hb hv (fun j q d' hj hq hd' e e2 e3 => ?_) (fun z => absurd ⟨rfl, rfl⟩ (z i p hi hp)) (fun j q hj hq e e2 z => absurd (nI_pos' hd) z)
  have hS' := (hv.1.2.2.1.2.2.2.2.2.1 j hj).1
  rw [nI_eq (by omega) (by omega)] at e e2 e3
  subst e e2 e3
  exact h σ hv
theorem l0_letter {σ : ka_S} {A : ma_X} {i p b d : Nat} {Q : Int64 → ka_S → Prop} (hv : kv σ A) (hb : b ≤ 1) (hi : i < mp_N (kx_M A)) (hp : p < mw_S (mp_D (kx_M A) i)) (hd : d < 2 ^ 31) (h : ∀ σ1, kv σ1 A → Q (mi_let (mw_PG (mp_D (kx_M A) i) b p) d).toInt64 σ1) : kw0_L_letter σ (nI i) (nI p) (nI b) (nI d) Q := by
  unfold kw0_L_letter
  have hN := hv.1.2.2.1.1
  have hS := (hv.1.2.2.1.2.2.2.2.2.1 i hi).1
  refine s_letter hb hv (fun j q d' hj hq hd' e e2 e3 => ?_) (fun z => absurd ⟨rfl, rfl⟩ (z i p hi hp)) (fun j q hj hq e e2 z => absurd (nI_pos' hd) z)
  have hS' := (hv.1.2.2.1.2.2.2.2.2.1 j hj).1
  rw [nI_eq (by omega) (by omega)] at e e2 e3
  subst e e2 e3
  exact h σ hv
theorem l1_entry {σ : ka_S} {A : ma_X} {i b d : Nat} {Q : Int64 → ka_S → Prop} (hv : kv σ A) (hb : b ≤ 1) (hi : i < mp_L (kx_M A)) (hd : d < 2 ^ 31) (h : ∀ σ1, kv σ1 A → Q (mi_let (mp_AB (kx_M A) b i) d).toInt64 σ1) : kw_L_entry σ (nI i) (nI b) (nI d) Q := by
  unfold kw_L_entry
  have hN := hv.1.2.2.1.2.1
  refine s_entry hb hv (fun j d' hj hd' e e3 => ?_) (fun z => absurd rfl (z i hi)) (fun j hj e z => absurd (nI_pos' hd) z)
  rw [nI_eq (by omega) (by omega)] at e e3
  subst e e3
  exact h σ hv
theorem l0_entry {σ : ka_S} {A : ma_X} {i b d : Nat} {Q : Int64 → ka_S → Prop} (hv : kv σ A) (hb : b ≤ 1) (hi : i < mp_L (kx_M A)) (hd : d < 2 ^ 31) (h : ∀ σ1, kv σ1 A → Q (mi_let (mp_AB (kx_M A) b i) d).toInt64 σ1) : kw0_L_entry σ (nI i) (nI b) (nI d) Q := by
  unfold kw0_L_entry
  have hN := hv.1.2.2.1.2.1
  refine s_entry hb hv (fun j d' hj hd' e e3 => ?_) (fun z => absurd rfl (z i hi)) (fun j hj e z => absurd (nI_pos' hd) z)
  rw [nI_eq (by omega) (by omega)] at e e3
  subst e e3
  exact h σ hv
theorem l1_row {σ : ka_S} {A : ma_X} {r k : Nat} {Q : Int64 → ka_S → Prop} (hv : kv σ A) (hr : r < mt_rows (kx_M A)) (hk : k < 3) (h : ∀ σ1, kv σ1 A → Q (lN (mt_row (kx_M A) r k)) σ1) : kw_L_row σ (nI r) (nI k) Q := by
  unfold kw_L_row
  have hN := mt_rows_le hv.1.2.2.1
  refine s_row hv (fun j k' hj hk' e e2 σ1 h1 => ?_) (fun z => absurd rfl (z r hr)) (fun j hj e z => absurd rfl (z k hk))
  rw [nI_eq (by omega) (by omega)] at e e2
  subst e e2
  rw [nI_l (Nat.lt_trans (mt_row_lt hv.1.2.2.1 hj k) (by decide))]
  exact h σ1 h1
theorem l0_row {σ : ka_S} {A : ma_X} {r k : Nat} {Q : Int64 → ka_S → Prop} (hv : kv σ A) (hr : r < mt_rows (kx_M A)) (hk : k < 3) (h : ∀ σ1, kv σ1 A → Q (lN (mt_row (kx_M A) r k)) σ1) : kw0_L_row σ (nI r) (nI k) Q := by
  unfold kw0_L_row
  have hN := mt_rows_le hv.1.2.2.1
  refine s_row hv (fun j k' hj hk' e e2 σ1 h1 => ?_) (fun z => absurd rfl (z r hr)) (fun j hj e z => absurd rfl (z k hk))
  rw [nI_eq (by omega) (by omega)] at e e2
  subst e e2
  rw [nI_l (Nat.lt_trans (mt_row_lt hv.1.2.2.1 hj k) (by decide))]
  exact h σ1 h1
theorem l1_at {σ : ka_S} {A : ma_X} {r c : Nat} {Q : Int64 → ka_S → Prop} (hv : kv σ A) (hr : r < mt_rows (kx_M A)) (hc : c < 2 ^ 31) (h : ∀ σ1, kv σ1 A → Q (mr_code (kx_M A) (mp_W (kx_M A)) (mp_Y (kx_M A)) r c).toInt64 σ1) : kw_L_at σ (nI r) (nI c) Q := by
  unfold kw_L_at
  have hN := mt_rows_le hv.1.2.2.1
  refine s_at hv (fun j c' hj hc' e e2 σ1 h1 => ?_) (fun z => absurd rfl (z r hr)) (fun j hj e z => absurd (nI_pos' hc) z)
  rw [nI_eq (by omega) (by omega)] at e e2
  subst e e2
  exact h σ1 h1
theorem l0_at {σ : ka_S} {A : ma_X} {r c : Nat} {Q : Int64 → ka_S → Prop} (hv : kv σ A) (hr : r < mt_rows (kx_M A)) (hc : c < 2 ^ 31) (h : ∀ σ1, kv σ1 A → Q (mr_code (kx_M A) (mp_W (kx_M A)) (mp_Y (kx_M A)) r c).toInt64 σ1) : kw0_L_at σ (nI r) (nI c) Q := by
  unfold kw0_L_at
  have hN := mt_rows_le hv.1.2.2.1
  refine s_at hv (fun j c' hj hc' e e2 σ1 h1 => ?_) (fun z => absurd rfl (z r hr)) (fun j hj e z => absurd (nI_pos' hc) z)
  rw [nI_eq (by omega) (by omega)] at e e2
  subst e e2
  exact h σ1 h1
theorem l1_gap {σ : ka_S} {A : ma_X} {g : Nat} {Q : Int64 → ka_S → Prop} (hv : kv σ A) (hg : g < 2 ^ 31) (h : ∀ σ1, kv σ1 A → Q (mt_gapP (kx_M A) (mp_N (kx_M A)) 0 g).toInt64 σ1) : kw_L_gap σ (nI g) Q := by
  unfold kw_L_gap
  refine s_gap hv (fun g' hg' e => ?_) (fun z => absurd (nI_pos' hg) z)
  rw [nI_eq (by omega) (by omega)] at e
  subst e
  exact h σ hv
theorem l0_gap {σ : ka_S} {A : ma_X} {g : Nat} {Q : Int64 → ka_S → Prop} (hv : kv σ A) (hg : g < 2 ^ 31) (h : ∀ σ1, kv σ1 A → Q (mt_gapP (kx_M A) (mp_N (kx_M A)) 0 g).toInt64 σ1) : kw0_L_gap σ (nI g) Q := by
  unfold kw0_L_gap
  refine s_gap hv (fun g' hg' e => ?_) (fun z => absurd (nI_pos' hg) z)
  rw [nI_eq (by omega) (by omega)] at e
  subst e
  exact h σ hv
theorem l1_widthFor {σ : ka_S} {A : ma_X} {r : Nat} {Q : Int64 → ka_S → Prop} (hv : kv σ A) (hr : r < 100) (h : ∀ σ1, kv σ1 A → Q (mt_wf (kx_M A) r 51 10).toInt64 σ1) : kw_L_widthFor σ (nI r) Q := by
  unfold kw_L_widthFor
  refine s_widthFor hv (fun r' hr' e σ1 h1 => ?_) (fun z => absurd rfl (z r hr))
  rw [nI_eq (by omega) (by omega)] at e
  subst e
  exact h σ1 h1
theorem l0_widthFor {σ : ka_S} {A : ma_X} {r : Nat} {Q : Int64 → ka_S → Prop} (hv : kv σ A) (hr : r < 100) (h : ∀ σ1, kv σ1 A → Q (mt_wf (kx_M A) r 51 10).toInt64 σ1) : kw0_L_widthFor σ (nI r) Q := by
  unfold kw0_L_widthFor
  refine s_widthFor hv (fun r' hr' e σ1 h1 => ?_) (fun z => absurd rfl (z r hr))
  rw [nI_eq (by omega) (by omega)] at e
  subst e
  exact h σ1 h1
theorem l1_rowsWith {σ : ka_S} {A : ma_X} {w y : Nat} {Q : Int64 → ka_S → Prop} (hv : kv σ A) (hw : 10 ≤ w ∧ w ≤ 60) (hy : y ≤ 1) (h : ∀ σ1, kv σ1 A → Q (lN (tr (mt_lay (kx_M A) w y (mp_N (kx_M A))))) σ1) : kw_L_rowsWith σ (nI w) (nI y) Q := by
  unfold kw_L_rowsWith
  have s9 : mc_set 9 (nI w) := Or.inl ⟨rfl, by rw [nI_toInt (by omega)]; omega, by rw [nI_toInt (by omega)]; omega⟩
  have s11 : mc_set 11 (nI y) := Or.inr (Or.inr ⟨rfl, by rw [nI_toInt (by omega)]; omega, by rw [nI_toInt (by omega)]; omega⟩)
  refine s_rowsWith hv (fun w' y' hw' hy' e e2 σ1 h1 => ?_) (fun z => absurd ⟨s9, s11⟩ z)
  rw [nI_eq (by omega) (by omega)] at e e2
  subst e e2
  have b := (mt_lay_le (y := y) hv.1.2.2.1 hw (mp_N (kx_M A)) (Nat.le_refl _)).2.1
  have hN := hv.1.2.2.1.1
  rw [nI_l (by omega)]
  exact h σ1 h1
theorem l0_rowsWith {σ : ka_S} {A : ma_X} {w y : Nat} {Q : Int64 → ka_S → Prop} (hv : kv σ A) (hw : 10 ≤ w ∧ w ≤ 60) (hy : y ≤ 1) (h : ∀ σ1, kv σ1 A → Q (lN (tr (mt_lay (kx_M A) w y (mp_N (kx_M A))))) σ1) : kw0_L_rowsWith σ (nI w) (nI y) Q := by
  unfold kw0_L_rowsWith
  have s9 : mc_set 9 (nI w) := Or.inl ⟨rfl, by rw [nI_toInt (by omega)]; omega, by rw [nI_toInt (by omega)]; omega⟩
  have s11 : mc_set 11 (nI y) := Or.inr (Or.inr ⟨rfl, by rw [nI_toInt (by omega)]; omega, by rw [nI_toInt (by omega)]; omega⟩)
  refine s_rowsWith hv (fun w' y' hw' hy' e e2 σ1 h1 => ?_) (fun z => absurd ⟨s9, s11⟩ z)
  rw [nI_eq (by omega) (by omega)] at e e2
  subst e e2
  have b := (mt_lay_le (y := y) hv.1.2.2.1 hw (mp_N (kx_M A)) (Nat.le_refl _)).2.1
  have hN := hv.1.2.2.1.1
  rw [nI_l (by omega)]
  exact h σ1 h1
theorem l1_script {σ : ka_S} {A : ma_X} {n s : Nat} {Q : Int64 → ka_S → Prop} (hv : kv σ A) (hn : 1 ≤ n ∧ n ≤ 4) (hs : s < 10000 ^ n) (h : ∀ σ1, kv σ1 A → Q (mi_script s n n 0 (kx_M A)).toInt64 σ1) : kw_L_script σ (nI n) (lN s) Q := by
  unfold kw_L_script
  refine s_script hv (fun n' s' z σ1 h1 => ?_) (fun z => absurd ⟨hn, hs, rfl, rfl⟩ (z n s))
  obtain ⟨z1, z2, z3, z4⟩ := z
  rw [nI_eq (by omega) (by omega)] at z3
  rw [pk_lEQ (mc_scr_lt hn.2 hs) (mc_scr_lt z1.2 z2)] at z4
  subst z3 z4
  exact h σ1 h1
theorem l0_script {σ : ka_S} {A : ma_X} {n s : Nat} {Q : Int64 → ka_S → Prop} (hv : kv σ A) (hn : 1 ≤ n ∧ n ≤ 4) (hs : s < 10000 ^ n) (h : ∀ σ1, kv σ1 A → Q (mi_script s n n 0 (kx_M A)).toInt64 σ1) : kw0_L_script σ (nI n) (lN s) Q := by
  unfold kw0_L_script
  refine s_script hv (fun n' s' z σ1 h1 => ?_) (fun z => absurd ⟨hn, hs, rfl, rfl⟩ (z n s))
  obtain ⟨z1, z2, z3, z4⟩ := z
  rw [nI_eq (by omega) (by omega)] at z3
  rw [pk_lEQ (mc_scr_lt hn.2 hs) (mc_scr_lt z1.2 z2)] at z4
  subst z3 z4
  exact h σ1 h1
theorem l1_simulate {σ : ka_S} {A : ma_X} {n : Nat} {x : Int64} {Q : Int64 → ka_S → Prop} (hv : kv σ A) (hn : 1 ≤ n ∧ n ≤ 99) (h : ∀ σ1, kv σ1 A → Q (mi_sim n x (kx_M A) 0).toInt64 σ1) : kw_L_simulate σ x (nI n) Q := by
  unfold kw_L_simulate
  refine s_simulate hv (fun n' hn' e σ1 h1 => ?_) (fun z => absurd rfl (z n hn.1 hn.2))
  rw [nI_eq (by omega) (by omega)] at e
  subst e
  exact h σ1 h1
theorem l0_simulate {σ : ka_S} {A : ma_X} {n : Nat} {x : Int64} {Q : Int64 → ka_S → Prop} (hv : kv σ A) (hn : 1 ≤ n ∧ n ≤ 99) (h : ∀ σ1, kv σ1 A → Q (mi_sim n x (kx_M A) 0).toInt64 σ1) : kw0_L_simulate σ x (nI n) Q := by
  unfold kw0_L_simulate
  refine s_simulate hv (fun n' hn' e σ1 h1 => ?_) (fun z => absurd rfl (z n hn.1 hn.2))
  rw [nI_eq (by omega) (by omega)] at e
  subst e
  exact h σ1 h1
theorem l1_append {σ : ka_S} {A : ma_X} {c : Nat} {Q : Int64 → ka_S → Prop} (hv : kv σ A) (hc : c < 256) (hn : kx_n A < 60) (h : ∀ σ1, kv σ1 (kx_setT A (kx_n A + 1) (mt_put (kx_t A) (kx_n A) c)) → Q (lN (kx_n A + 1)) σ1) : kw_L_append σ (nI c) Q := by
  unfold kw_L_append
  have t := nI_toInt (n := c) (by omega)
  refine s_append hv (fun c' hc' e hn' σ1 h1 => ?_) (fun z => absurd ⟨by omega, by omega⟩ z) (fun z z2 => absurd z2 (by omega))
  rw [nI_eq (by omega) (by omega)] at e
  subst e
  rw [nI_l (by omega)]
  exact h σ1 h1
theorem l0_append {σ : ka_S} {A : ma_X} {c : Nat} {Q : Int64 → ka_S → Prop} (hv : kv σ A) (hc : c < 256) (hn : kx_n A < 60) (h : ∀ σ1, kv σ1 (kx_setT A (kx_n A + 1) (mt_put (kx_t A) (kx_n A) c)) → Q (lN (kx_n A + 1)) σ1) : kw0_L_append σ (nI c) Q := by
  unfold kw0_L_append
  have t := nI_toInt (n := c) (by omega)
  refine s_append hv (fun c' hc' e hn' σ1 h1 => ?_) (fun z => absurd ⟨by omega, by omega⟩ z) (fun z z2 => absurd z2 (by omega))
  rw [nI_eq (by omega) (by omega)] at e
  subst e
  rw [nI_l (by omega)]
  exact h σ1 h1
theorem l1_load {σ : ka_S} {A : ma_X} {Q : Int64 → ka_S → Prop} (hv : kv σ A) (e : kx_e A = -9) (h : ∀ σ1, kv σ1 (kx_load A) → Q (lN (kx_R A)) σ1) : kw_L_load σ  Q := by
  unfold kw_L_load
  refine s_load hv (fun e σ1 h1 => ?_) (fun z => absurd e z)
  have := kx_R_le hv.1
  rw [nI_l (by omega)]
  exact h σ1 h1
theorem l0_load {σ : ka_S} {A : ma_X} {Q : Int64 → ka_S → Prop} (hv : kv σ A) (e : kx_e A = -9) (h : ∀ σ1, kv σ1 (kx_load A) → Q (lN (kx_R A)) σ1) : kw0_L_load σ  Q := by
  unfold kw0_L_load
  refine s_load hv (fun e σ1 h1 => ?_) (fun z => absurd e z)
  have := kx_R_le hv.1
  rw [nI_l (by omega)]
  exact h σ1 h1
theorem l1_save {σ : ka_S} {A : ma_X} {s : Nat} {Q : Int64 → ka_S → Prop} (hv : kv σ A) (hs : s < 2) (h : ∀ σ1, kv σ1 (kx_save A s) → Q (lN (mp_N (kx_M A))) σ1) : kw_L_save σ (nI s) Q := by
  unfold kw_L_save
  refine s_save hv (fun s' hs' e σ1 h1 => ?_) (fun z => absurd rfl (z s hs))
  rw [nI_eq (by omega) (by omega)] at e
  subst e
  have := hv.1.2.2.1.1
  rw [nI_l (by omega)]
  exact h σ1 h1
theorem l0_save {σ : ka_S} {A : ma_X} {s : Nat} {Q : Int64 → ka_S → Prop} (hv : kv σ A) (hs : s < 2) (h : ∀ σ1, kv σ1 (kx_save A s) → Q (lN (mp_N (kx_M A))) σ1) : kw0_L_save σ (nI s) Q := by
  unfold kw0_L_save
  refine s_save hv (fun s' hs' e σ1 h1 => ?_) (fun z => absurd rfl (z s hs))
  rw [nI_eq (by omega) (by omega)] at e
  subst e
  have := hv.1.2.2.1.1
  rw [nI_l (by omega)]
  exact h σ1 h1
theorem l1_restore {σ : ka_S} {A : ma_X} {s : Nat} {Q : Int64 → ka_S → Prop} (hv : kv σ A) (hs : s < 2) (hb : kx_b A s = 1) (h : ∀ σ1, kv σ1 (kx_rest A s) → Q (lN (mp_N (kx_B A s))) σ1) : kw_L_restore σ (nI s) Q := by
  unfold kw_L_restore
  refine s_restore hv (fun s' hs' e hb' σ1 h1 => ?_) (fun z => absurd rfl (z s hs)) (fun s' hs' e hb' => ?_)
  · rw [nI_eq (by omega) (by omega)] at e
    subst e
    have := ((hv.1.2.2.2.2.2 s hs).2 hb).1
    rw [nI_l (by omega)]
    exact h σ1 h1
  · rw [nI_eq (by omega) (by omega)] at e
    subst e
    omega
theorem l0_restore {σ : ka_S} {A : ma_X} {s : Nat} {Q : Int64 → ka_S → Prop} (hv : kv σ A) (hs : s < 2) (hb : kx_b A s = 1) (h : ∀ σ1, kv σ1 (kx_rest A s) → Q (lN (mp_N (kx_B A s))) σ1) : kw0_L_restore σ (nI s) Q := by
  unfold kw0_L_restore
  refine s_restore hv (fun s' hs' e hb' σ1 h1 => ?_) (fun z => absurd rfl (z s hs)) (fun s' hs' e hb' => ?_)
  · rw [nI_eq (by omega) (by omega)] at e
    subst e
    have := ((hv.1.2.2.2.2.2 s hs).2 hb).1
    rw [nI_l (by omega)]
    exact h σ1 h1
  · rw [nI_eq (by omega) (by omega)] at e
    subst e
    omega
theorem l1_set {σ : ka_S} {A : ma_X} {k x : Nat} {Q : Int64 → ka_S → Prop} (hv : kv σ A) (hk : mc_sx k x) (h : ∀ σ1, kv σ1 (kx_act A (mp_set (kx_M A) k x)) → Q (lN (mt_about (kx_M A) k)) σ1) : kw_L_set σ (nI k) (nI x) Q := by
  unfold kw_L_set
  have g : mc_set (nI k) (nI x) := by
    rcases hk with ⟨rfl, h1, h2⟩ | ⟨rfl, h1, h2⟩ | ⟨rfl, h1⟩
    · exact Or.inl ⟨rfl, by rw [nI_toInt (by omega)]; omega, by rw [nI_toInt (by omega)]; omega⟩
    · exact Or.inr (Or.inl ⟨rfl, by rw [nI_toInt (by omega)]; omega, by rw [nI_toInt (by omega)]; omega⟩)
    · exact Or.inr (Or.inr ⟨rfl, by rw [nI_toInt (by omega)]; omega, by rw [nI_toInt (by omega)]; omega⟩)
  refine s_set hv (fun k' x' hk' e e2 σ1 h1 => ?_) (fun z => absurd g z)
  have b1 : k < 2 ^ 31 ∧ x < 2 ^ 31 := by rcases hk with z | z | z <;> omega
  have b2 : k' < 2 ^ 31 ∧ x' < 2 ^ 31 := by rcases hk' with z | z | z <;> omega
  rw [nI_eq b1.1 b2.1] at e
  rw [nI_eq b1.2 b2.2] at e2
  subst e e2
  rw [nI_l (Nat.lt_trans (mt_about_lt hv.1.2.2.1 k) (by decide))]
  exact h σ1 h1
theorem l0_set {σ : ka_S} {A : ma_X} {k x : Nat} {Q : Int64 → ka_S → Prop} (hv : kv σ A) (hk : mc_sx k x) (h : ∀ σ1, kv σ1 (kx_act A (mp_set (kx_M A) k x)) → Q (lN (mt_about (kx_M A) k)) σ1) : kw0_L_set σ (nI k) (nI x) Q := by
  unfold kw0_L_set
  have g : mc_set (nI k) (nI x) := by
    rcases hk with ⟨rfl, h1, h2⟩ | ⟨rfl, h1, h2⟩ | ⟨rfl, h1⟩
    · exact Or.inl ⟨rfl, by rw [nI_toInt (by omega)]; omega, by rw [nI_toInt (by omega)]; omega⟩
    · exact Or.inr (Or.inl ⟨rfl, by rw [nI_toInt (by omega)]; omega, by rw [nI_toInt (by omega)]; omega⟩)
    · exact Or.inr (Or.inr ⟨rfl, by rw [nI_toInt (by omega)]; omega, by rw [nI_toInt (by omega)]; omega⟩)
  refine s_set hv (fun k' x' hk' e e2 σ1 h1 => ?_) (fun z => absurd g z)
  have b1 : k < 2 ^ 31 ∧ x < 2 ^ 31 := by rcases hk with z | z | z <;> omega
  have b2 : k' < 2 ^ 31 ∧ x' < 2 ^ 31 := by rcases hk' with z | z | z <;> omega
  rw [nI_eq b1.1 b2.1] at e
  rw [nI_eq b1.2 b2.2] at e2
  subst e e2
  rw [nI_l (Nat.lt_trans (mt_about_lt hv.1.2.2.1 k) (by decide))]
  exact h σ1 h1
theorem l1_undo {σ : ka_S} {A : ma_X} {Q : Int64 → ka_S → Prop} (hv : kv σ A) (hn : kx_h A ≠ 0) (h : ∀ σ1, kv σ1 (kx_undo A) → Q (lN (kx_h A - 1)) σ1) : kw_L_undo σ  Q := by
  unfold kw_L_undo
  refine s_undo hv (fun z σ1 h1 => ?_) (fun z => absurd z hn)
  have := hv.1.2.2.2.1
  rw [nI_l (by omega)]
  exact h σ1 h1
theorem l0_undo {σ : ka_S} {A : ma_X} {Q : Int64 → ka_S → Prop} (hv : kv σ A) (hn : kx_h A ≠ 0) (h : ∀ σ1, kv σ1 (kx_undo A) → Q (lN (kx_h A - 1)) σ1) : kw0_L_undo σ  Q := by
  unfold kw0_L_undo
  refine s_undo hv (fun z σ1 h1 => ?_) (fun z => absurd z hn)
  have := hv.1.2.2.2.1
  rw [nI_l (by omega)]
  exact h σ1 h1
theorem l1_remove {σ : ka_S} {A : ma_X} {i : Nat} {Q : Int64 → ka_S → Prop} (hv : kv σ A) (hi : i < mp_N (kx_M A)) (h : ∀ σ1, kv σ1 (kx_act A (mp_remove (kx_M A) i)) → Q (lN (mp_N (kx_M A) - 1)) σ1) : kw_L_remove σ (nI i) Q := by
  unfold kw_L_remove
  have hN := hv.1.2.2.1.1
  refine s_remove hv (fun j hj e σ1 h1 => ?_) (fun z => absurd rfl (z i hi))
  rw [nI_eq (by omega) (by omega)] at e
  subst e
  have := hv.1.2.2.1.1
  rw [nI_l (by omega)]
  exact h σ1 h1
theorem l0_remove {σ : ka_S} {A : ma_X} {i : Nat} {Q : Int64 → ka_S → Prop} (hv : kv σ A) (hi : i < mp_N (kx_M A)) (h : ∀ σ1, kv σ1 (kx_act A (mp_remove (kx_M A) i)) → Q (lN (mp_N (kx_M A) - 1)) σ1) : kw0_L_remove σ (nI i) Q := by
  unfold kw0_L_remove
  have hN := hv.1.2.2.1.1
  refine s_remove hv (fun j hj e σ1 h1 => ?_) (fun z => absurd rfl (z i hi))
  rw [nI_eq (by omega) (by omega)] at e
  subst e
  have := hv.1.2.2.1.1
  rw [nI_l (by omega)]
  exact h σ1 h1
theorem l1_end {σ : ka_S} {A : ma_X} {i : Nat} {Q : Int64 → ka_S → Prop} (hv : kv σ A) (hi : i < mp_N (kx_M A)) (h : ∀ σ1, kv σ1 (kx_act A (mp_setD (kx_M A) i (mw_end (mp_D (kx_M A) i)))) → Q (lN (mt_sent (mp_setD (kx_M A) i (mw_end (mp_D (kx_M A) i))))) σ1) : kw_L_end σ (nI i) Q := by
  unfold kw_L_end
  have hN := hv.1.2.2.1.1
  refine s_end hv (fun j hj e σ1 h1 => ?_) (fun z => absurd rfl (z i hi))
  rw [nI_eq (by omega) (by omega)] at e
  subst e
  have := mt_sent_le (mp_setD_ok (i := i) hv.1.2.2.1 (mw_end_ok (hv.1.2.2.1.2.2.2.2.2.1 i hi)))
  rw [nI_l (by omega)]
  exact h σ1 h1
theorem l0_end {σ : ka_S} {A : ma_X} {i : Nat} {Q : Int64 → ka_S → Prop} (hv : kv σ A) (hi : i < mp_N (kx_M A)) (h : ∀ σ1, kv σ1 (kx_act A (mp_setD (kx_M A) i (mw_end (mp_D (kx_M A) i)))) → Q (lN (mt_sent (mp_setD (kx_M A) i (mw_end (mp_D (kx_M A) i))))) σ1) : kw0_L_end σ (nI i) Q := by
  unfold kw0_L_end
  have hN := hv.1.2.2.1.1
  refine s_end hv (fun j hj e σ1 h1 => ?_) (fun z => absurd rfl (z i hi))
  rw [nI_eq (by omega) (by omega)] at e
  subst e
  have := mt_sent_le (mp_setD_ok (i := i) hv.1.2.2.1 (mw_end_ok (hv.1.2.2.1.2.2.2.2.2.1 i hi)))
  rw [nI_l (by omega)]
  exact h σ1 h1
theorem l1_join {σ : ka_S} {A : ma_X} {i : Nat} {Q : Int64 → ka_S → Prop} (hv : kv σ A) (hi : i < mp_N (kx_M A)) (h : ∀ σ1, kv σ1 (kx_act A (mp_setD (kx_M A) i (mw_join (mp_D (kx_M A) i)))) → Q (lN (mt_sent (mp_setD (kx_M A) i (mw_join (mp_D (kx_M A) i))))) σ1) : kw_L_join σ (nI i) Q := by
  unfold kw_L_join
  have hN := hv.1.2.2.1.1
  refine s_join hv (fun j hj e σ1 h1 => ?_) (fun z => absurd rfl (z i hi))
  rw [nI_eq (by omega) (by omega)] at e
  subst e
  have := mt_sent_le (mp_setD_ok (i := i) hv.1.2.2.1 (mw_join_ok (hv.1.2.2.1.2.2.2.2.2.1 i hi)))
  rw [nI_l (by omega)]
  exact h σ1 h1
theorem l0_join {σ : ka_S} {A : ma_X} {i : Nat} {Q : Int64 → ka_S → Prop} (hv : kv σ A) (hi : i < mp_N (kx_M A)) (h : ∀ σ1, kv σ1 (kx_act A (mp_setD (kx_M A) i (mw_join (mp_D (kx_M A) i)))) → Q (lN (mt_sent (mp_setD (kx_M A) i (mw_join (mp_D (kx_M A) i))))) σ1) : kw0_L_join σ (nI i) Q := by
  unfold kw0_L_join
  have hN := hv.1.2.2.1.1
  refine s_join hv (fun j hj e σ1 h1 => ?_) (fun z => absurd rfl (z i hi))
  rw [nI_eq (by omega) (by omega)] at e
  subst e
  have := mt_sent_le (mp_setD_ok (i := i) hv.1.2.2.1 (mw_join_ok (hv.1.2.2.1.2.2.2.2.2.1 i hi)))
  rw [nI_l (by omega)]
  exact h σ1 h1
theorem l1_learn {σ : ka_S} {A : ma_X} {i p : Nat} {Q : Int64 → ka_S → Prop} (hv : kv σ A) (hi : i < mp_N (kx_M A)) (hp : p < mw_S (mp_D (kx_M A) i)) (hl : mc_learn (kx_M A) i p) (h : ∀ σ1, kv σ1 (kx_act A (mp_learn (kx_M A) (mw_P (mp_D (kx_M A) i) p) (mw_G (mp_D (kx_M A) i) p))) → Q (lN (mp_L (mp_learn (kx_M A) (mw_P (mp_D (kx_M A) i) p) (mw_G (mp_D (kx_M A) i) p)))) σ1) : kw_L_learn σ (nI i) (nI p) Q := by
  unfold kw_L_learn
  have hN := hv.1.2.2.1.1
  have okw := hv.1.2.2.1.2.2.2.2.2.1 i hi
  have hS := okw.1
  have okp := okw.2.2.2.2.1 p hp
  have := (mp_learn_ok hv.1.2.2.1 okp.1 okp.2.1 hl.1 hl.2).2.1
  refine s_learn hv (fun j q hj hq e e2 hl' σ1 h1 => ?_) (fun z => absurd ⟨rfl, rfl⟩ (z i p hi hp)) (fun j q hj hq e e2 hl' => ?_)
  · have hS' := (hv.1.2.2.1.2.2.2.2.2.1 j hj).1
    rw [nI_eq (by omega) (by omega)] at e e2
    subst e e2
    rw [nI_l (by omega)]
    exact h σ1 h1
  · have hS' := (hv.1.2.2.1.2.2.2.2.2.1 j hj).1
    rw [nI_eq (by omega) (by omega)] at e e2
    subst e e2
    exact absurd hl hl'
theorem l0_learn {σ : ka_S} {A : ma_X} {i p : Nat} {Q : Int64 → ka_S → Prop} (hv : kv σ A) (hi : i < mp_N (kx_M A)) (hp : p < mw_S (mp_D (kx_M A) i)) (hl : mc_learn (kx_M A) i p) (h : ∀ σ1, kv σ1 (kx_act A (mp_learn (kx_M A) (mw_P (mp_D (kx_M A) i) p) (mw_G (mp_D (kx_M A) i) p))) → Q (lN (mp_L (mp_learn (kx_M A) (mw_P (mp_D (kx_M A) i) p) (mw_G (mp_D (kx_M A) i) p)))) σ1) : kw0_L_learn σ (nI i) (nI p) Q := by
  unfold kw0_L_learn
  have hN := hv.1.2.2.1.1
  have okw := hv.1.2.2.1.2.2.2.2.2.1 i hi
  have hS := okw.1
  have okp := okw.2.2.2.2.1 p hp
  have := (mp_learn_ok hv.1.2.2.1 okp.1 okp.2.1 hl.1 hl.2).2.1
  refine s_learn hv (fun j q hj hq e e2 hl' σ1 h1 => ?_) (fun z => absurd ⟨rfl, rfl⟩ (z i p hi hp)) (fun j q hj hq e e2 hl' => ?_)
  · have hS' := (hv.1.2.2.1.2.2.2.2.2.1 j hj).1
    rw [nI_eq (by omega) (by omega)] at e e2
    subst e e2
    rw [nI_l (by omega)]
    exact h σ1 h1
  · have hS' := (hv.1.2.2.1.2.2.2.2.2.1 j hj).1
    rw [nI_eq (by omega) (by omega)] at e e2
    subst e e2
    exact absurd hl hl'
theorem l1_forget {σ : ka_S} {A : ma_X} {i : Nat} {Q : Int64 → ka_S → Prop} (hv : kv σ A) (hi : i < mp_L (kx_M A)) (h : ∀ σ1, kv σ1 (kx_act A (mp_forget (kx_M A) i)) → Q (lN (mp_L (kx_M A) - 1)) σ1) : kw_L_forget σ (nI i) Q := by
  unfold kw_L_forget
  have hN := hv.1.2.2.1.2.1
  refine s_forget hv (fun j hj e σ1 h1 => ?_) (fun z => absurd rfl (z i hi))
  rw [nI_eq (by omega) (by omega)] at e
  subst e
  have e3 : mp_L (mp_forget (kx_M A) i) = mp_L (kx_M A) - 1 := rfl
  rw [e3, nI_l (by omega)]
  exact h σ1 h1
theorem l0_forget {σ : ka_S} {A : ma_X} {i : Nat} {Q : Int64 → ka_S → Prop} (hv : kv σ A) (hi : i < mp_L (kx_M A)) (h : ∀ σ1, kv σ1 (kx_act A (mp_forget (kx_M A) i)) → Q (lN (mp_L (kx_M A) - 1)) σ1) : kw0_L_forget σ (nI i) Q := by
  unfold kw0_L_forget
  have hN := hv.1.2.2.1.2.1
  refine s_forget hv (fun j hj e σ1 h1 => ?_) (fun z => absurd rfl (z i hi))
  rw [nI_eq (by omega) (by omega)] at e
  subst e
  have e3 : mp_L (mp_forget (kx_M A) i) = mp_L (kx_M A) - 1 := rfl
  rw [e3, nI_l (by omega)]
  exact h σ1 h1
theorem l_words {σ : ka_S} {A : ma_X} {Q : Int32 → ka_S → Prop} (hv : kv σ A) (h : ∀ σ1, kv σ1 A → Q (nI (mp_N (kx_M A))) σ1) : kw_L_words σ Q := by
  unfold kw_L_words
  refine l0_about (k := 0) hv (by decide) (fun σ1 h1 => ?_)
  rw [lN_i]
  exact h σ1 h1
/-! ===== the law's wrappers, where they throw ===== -/
theorem x_append {σ : ka_S} {A : ma_X} {v : Int32} {Q : Int64 → ka_S → Prop} (hv : kv σ A) (hn : ¬ (0 ≤ v.toInt ∧ v.toInt ≤ 255)) (h : ∀ σ1, kv σ1 A → Q (-9000000000000000002 : Int64) σ1) : kw_L_append σ v Q := by
  unfold kw_L_append
  exact s_append hv (fun c hc e _ σ1 _ => absurd (by rw [e, nI_toInt (by omega)]; omega) hn) (fun _ => h σ hv) (fun z => absurd z hn)
theorem x_about {σ : ka_S} {A : ma_X} {v : Int32} {Q : Int64 → ka_S → Prop} (hv : kv σ A) (hn : ∀ k, k < 12 → v ≠ nI k) (h : ∀ σ1, kv σ1 A → Q (-9000000000000000002 : Int64) σ1) : kw_L_about σ v Q := by
  unfold kw_L_about
  exact s_about hv (fun k hk e => absurd e (hn k hk)) (fun _ => h σ hv)
theorem x_word {σ : ka_S} {A : ma_X} {v u : Int32} {Q : Int64 → ka_S → Prop} (hv : kv σ A) (hn : ∀ j, j < mp_N (kx_M A) → v ≠ nI j) (h : ∀ σ1, kv σ1 A → Q (-9000000000000000001 : Int64) σ1) : kw_L_word σ v u Q := by
  unfold kw_L_word
  exact s_word hv (fun j k hj _ e => absurd e (hn j hj)) (fun _ => h σ hv) (fun j hj e => absurd e (hn j hj))
theorem x_word2 {σ : ka_S} {A : ma_X} {v u : Int32} {Q : Int64 → ka_S → Prop} (hv : kv σ A) (hi : ∃ i, i < mp_N (kx_M A) ∧ v = nI i) (hn : ∀ k, k < 8 → u ≠ nI k) (h : ∀ σ1, kv σ1 A → Q (-9000000000000000002 : Int64) σ1) : kw_L_word σ v u Q := by
  unfold kw_L_word
  exact s_word hv (fun j k hj hk _ e => absurd e (hn k hk)) (fun z => by obtain ⟨i, hi, e⟩ := hi; exact absurd e (z i hi)) (fun j hj e z => h σ hv)
theorem x_part {σ : ka_S} {A : ma_X} {v u x : Int32} {Q : Int64 → ka_S → Prop} (hv : kv σ A) (hn : ∀ j p, j < mp_N (kx_M A) → p < mw_S (mp_D (kx_M A) j) → ¬ (v = nI j ∧ u = nI p)) (h : ∀ σ1, kv σ1 A → Q (-9000000000000000001 : Int64) σ1) : kw_L_part σ v u x Q := by
  unfold kw_L_part
  exact s_part hv (fun j p k hj hp _ e e2 => absurd ⟨e, e2⟩ (hn j p hj hp)) (fun _ => h σ hv) (fun j p hj hp e e2 => absurd ⟨e, e2⟩ (hn j p hj hp))
theorem x_part2 {σ : ka_S} {A : ma_X} {v u x : Int32} {Q : Int64 → ka_S → Prop} (hv : kv σ A) (hi : ∃ i p, i < mp_N (kx_M A) ∧ p < mw_S (mp_D (kx_M A) i) ∧ v = nI i ∧ u = nI p) (hn : ∀ k, k < 4 → x ≠ nI k) (h : ∀ σ1, kv σ1 A → Q (-9000000000000000002 : Int64) σ1) : kw_L_part σ v u x Q := by
  unfold kw_L_part
  exact s_part hv (fun j p k hj hp hk _ _ e => absurd e (hn k hk)) (fun z => by obtain ⟨i, p, hi, hp, e⟩ := hi; exact absurd e (z i p hi hp)) (fun j p hj hp e e2 z => h σ hv)
theorem x_letter {σ : ka_S} {A : ma_X} {v u x : Int32} {b : Nat} {Q : Int64 → ka_S → Prop} (hv : kv σ A) (hb : b ≤ 1) (hn : ∀ j p, j < mp_N (kx_M A) → p < mw_S (mp_D (kx_M A) j) → ¬ (v = nI j ∧ u = nI p)) (h : ∀ σ1, kv σ1 A → Q (-9000000000000000001 : Int64) σ1) : kw_L_letter σ v u (nI b) x Q := by
  unfold kw_L_letter
  exact s_letter hb hv (fun j p d hj hp _ e e2 => absurd ⟨e, e2⟩ (hn j p hj hp)) (fun _ => h σ hv) (fun j p hj hp e e2 => absurd ⟨e, e2⟩ (hn j p hj hp))
theorem x_letter2 {σ : ka_S} {A : ma_X} {v u x : Int32} {b : Nat} {Q : Int64 → ka_S → Prop} (hv : kv σ A) (hb : b ≤ 1) (hi : ∃ i p, i < mp_N (kx_M A) ∧ p < mw_S (mp_D (kx_M A) i) ∧ v = nI i ∧ u = nI p) (hn : ¬ 0 ≤ x) (h : ∀ σ1, kv σ1 A → Q (-9000000000000000002 : Int64) σ1) : kw_L_letter σ v u (nI b) x Q := by
  unfold kw_L_letter
  exact s_letter hb hv (fun j p d hj hp hd _ _ e => absurd (by rw [e]; exact nI_pos' hd) hn) (fun z => by obtain ⟨i, p, hi, hp, e⟩ := hi; exact absurd e (z i p hi hp)) (fun j p hj hp e e2 z => h σ hv)
theorem x_entry {σ : ka_S} {A : ma_X} {v x : Int32} {b : Nat} {Q : Int64 → ka_S → Prop} (hv : kv σ A) (hb : b ≤ 1) (hn : ∀ j, j < mp_L (kx_M A) → v ≠ nI j) (h : ∀ σ1, kv σ1 A → Q (-9000000000000000001 : Int64) σ1) : kw_L_entry σ v (nI b) x Q := by
  unfold kw_L_entry
  exact s_entry hb hv (fun j d hj _ e => absurd e (hn j hj)) (fun _ => h σ hv) (fun j hj e => absurd e (hn j hj))
theorem x_entry2 {σ : ka_S} {A : ma_X} {v x : Int32} {b : Nat} {Q : Int64 → ka_S → Prop} (hv : kv σ A) (hb : b ≤ 1) (hi : ∃ i, i < mp_L (kx_M A) ∧ v = nI i) (hn : ¬ 0 ≤ x) (h : ∀ σ1, kv σ1 A → Q (-9000000000000000002 : Int64) σ1) : kw_L_entry σ v (nI b) x Q := by
  unfold kw_L_entry
  exact s_entry hb hv (fun j d hj hd _ e => absurd (by rw [e]; exact nI_pos' hd) hn) (fun z => by obtain ⟨i, hi, e⟩ := hi; exact absurd e (z i hi)) (fun j hj e z => h σ hv)
theorem x_row {σ : ka_S} {A : ma_X} {v u : Int32} {Q : Int64 → ka_S → Prop} (hv : kv σ A) (hn : ∀ j, j < mt_rows (kx_M A) → v ≠ nI j) (h : ∀ σ1, kv σ1 A → Q (-9000000000000000001 : Int64) σ1) : kw_L_row σ v u Q := by
  unfold kw_L_row
  exact s_row hv (fun j k hj _ e => absurd e (hn j hj)) (fun _ σ1 h1 => h σ1 h1) (fun j hj e => absurd e (hn j hj))
theorem x_row2 {σ : ka_S} {A : ma_X} {v u : Int32} {Q : Int64 → ka_S → Prop} (hv : kv σ A) (hi : ∃ i, i < mt_rows (kx_M A) ∧ v = nI i) (hn : ∀ k, k < 3 → u ≠ nI k) (h : ∀ σ1, kv σ1 A → Q (-9000000000000000002 : Int64) σ1) : kw_L_row σ v u Q := by
  unfold kw_L_row
  exact s_row hv (fun j k hj hk _ e => absurd e (hn k hk)) (fun z => by obtain ⟨i, hi, e⟩ := hi; exact absurd e (z i hi)) (fun j hj e z σ1 h1 => h σ1 h1)
theorem x_at {σ : ka_S} {A : ma_X} {v u : Int32} {Q : Int64 → ka_S → Prop} (hv : kv σ A) (hn : ∀ j, j < mt_rows (kx_M A) → v ≠ nI j) (h : ∀ σ1, kv σ1 A → Q (-9000000000000000001 : Int64) σ1) : kw_L_at σ v u Q := by
  unfold kw_L_at
  exact s_at hv (fun j k hj _ e => absurd e (hn j hj)) (fun _ σ1 h1 => h σ1 h1) (fun j hj e => absurd e (hn j hj))
theorem x_at2 {σ : ka_S} {A : ma_X} {v u : Int32} {Q : Int64 → ka_S → Prop} (hv : kv σ A) (hi : ∃ i, i < mt_rows (kx_M A) ∧ v = nI i) (hn : ¬ 0 ≤ u) (h : ∀ σ1, kv σ1 A → Q (-9000000000000000002 : Int64) σ1) : kw_L_at σ v u Q := by
  unfold kw_L_at
  exact s_at hv (fun j k hj hk _ e => absurd (by rw [e]; exact nI_pos' hk) hn) (fun z => by obtain ⟨i, hi, e⟩ := hi; exact absurd e (z i hi)) (fun j hj e z σ1 h1 => h σ1 h1)
theorem x_insert {σ : ka_S} {A : ma_X} {v : Int32} {Q : Int64 → ka_S → Prop} (hv : kv σ A) (hn : ∀ j, j < mp_N (kx_M A) + 1 → v ≠ nI j) (h : ∀ σ1, kv σ1 A → Q (-9000000000000000001 : Int64) σ1) : kw_L_insert σ v Q := by
  unfold kw_L_insert
  exact s_insert hv (fun j hj e => absurd e (hn j hj)) (fun _ => h σ hv) (fun j hj e => absurd e (hn j hj))
theorem x_remove {σ : ka_S} {A : ma_X} {v : Int32} {Q : Int64 → ka_S → Prop} (hv : kv σ A) (hn : ∀ j, j < mp_N (kx_M A) → v ≠ nI j) (h : ∀ σ1, kv σ1 A → Q (-9000000000000000001 : Int64) σ1) : kw_L_remove σ v Q := by
  unfold kw_L_remove
  exact s_remove hv (fun j hj e => absurd e (hn j hj)) (fun _ => h σ hv)
theorem x_end {σ : ka_S} {A : ma_X} {v : Int32} {Q : Int64 → ka_S → Prop} (hv : kv σ A) (hn : ∀ j, j < mp_N (kx_M A) → v ≠ nI j) (h : ∀ σ1, kv σ1 A → Q (-9000000000000000001 : Int64) σ1) : kw_L_end σ v Q := by
  unfold kw_L_end
  exact s_end hv (fun j hj e => absurd e (hn j hj)) (fun _ => h σ hv)
theorem x_join {σ : ka_S} {A : ma_X} {v : Int32} {Q : Int64 → ka_S → Prop} (hv : kv σ A) (hn : ∀ j, j < mp_N (kx_M A) → v ≠ nI j) (h : ∀ σ1, kv σ1 A → Q (-9000000000000000001 : Int64) σ1) : kw_L_join σ v Q := by
  unfold kw_L_join
  exact s_join hv (fun j hj e => absurd e (hn j hj)) (fun _ => h σ hv)
theorem x_setFree {σ : ka_S} {A : ma_X} {v : Int32} {Q : Int64 → ka_S → Prop} (hv : kv σ A) (hn : ∀ j, j < mp_N (kx_M A) → v ≠ nI j) (h : ∀ σ1, kv σ1 A → Q (-9000000000000000001 : Int64) σ1) : kw_L_setFree σ v Q := by
  unfold kw_L_setFree
  exact s_setFree hv (fun j hj e => absurd e (hn j hj)) (fun _ => h σ hv) (fun j hj e => absurd e (hn j hj))
theorem x_setGloss {σ : ka_S} {A : ma_X} {v u : Int32} {Q : Int64 → ka_S → Prop} (hv : kv σ A) (hn : ∀ j p, j < mp_N (kx_M A) → p < mw_S (mp_D (kx_M A) j) → ¬ (v = nI j ∧ u = nI p)) (h : ∀ σ1, kv σ1 A → Q (-9000000000000000001 : Int64) σ1) : kw_L_setGloss σ v u Q := by
  unfold kw_L_setGloss
  exact s_setGloss hv (fun j p hj hp e e2 => absurd ⟨e, e2⟩ (hn j p hj hp)) (fun _ => h σ hv) (fun j p hj hp e e2 => absurd ⟨e, e2⟩ (hn j p hj hp))
theorem x_set {σ : ka_S} {A : ma_X} {v u : Int32} {Q : Int64 → ka_S → Prop} (hv : kv σ A) (hn : ¬ mc_set v u) (h : ∀ σ1, kv σ1 A → Q (-9000000000000000002 : Int64) σ1) : kw_L_set σ v u Q := by
  unfold kw_L_set
  exact s_set hv (fun k x hk e e2 => absurd (by
    subst e e2
    rcases hk with ⟨rfl, h1, h2⟩ | ⟨rfl, h1, h2⟩ | ⟨rfl, h1⟩
    · exact Or.inl ⟨rfl, by rw [nI_toInt (by omega)]; omega, by rw [nI_toInt (by omega)]; omega⟩
    · exact Or.inr (Or.inl ⟨rfl, by rw [nI_toInt (by omega)]; omega, by rw [nI_toInt (by omega)]; omega⟩)
    · exact Or.inr (Or.inr ⟨rfl, by rw [nI_toInt (by omega)]; omega, by rw [nI_toInt (by omega)]; omega⟩)) hn) (fun _ => h σ hv)
theorem x_learn {σ : ka_S} {A : ma_X} {v u : Int32} {Q : Int64 → ka_S → Prop} (hv : kv σ A) (hn : ∀ j p, j < mp_N (kx_M A) → p < mw_S (mp_D (kx_M A) j) → ¬ (v = nI j ∧ u = nI p)) (h : ∀ σ1, kv σ1 A → Q (-9000000000000000001 : Int64) σ1) : kw_L_learn σ v u Q := by
  unfold kw_L_learn
  exact s_learn hv (fun j p hj hp e e2 => absurd ⟨e, e2⟩ (hn j p hj hp)) (fun _ => h σ hv) (fun j p hj hp e e2 => absurd ⟨e, e2⟩ (hn j p hj hp))
theorem x_forget {σ : ka_S} {A : ma_X} {v : Int32} {Q : Int64 → ka_S → Prop} (hv : kv σ A) (hn : ∀ j, j < mp_L (kx_M A) → v ≠ nI j) (h : ∀ σ1, kv σ1 A → Q (-9000000000000000001 : Int64) σ1) : kw_L_forget σ v Q := by
  unfold kw_L_forget
  exact s_forget hv (fun j hj e => absurd e (hn j hj)) (fun _ => h σ hv)
theorem x_gap {σ : ka_S} {A : ma_X} {v : Int32} {Q : Int64 → ka_S → Prop} (hv : kv σ A) (hn : ¬ 0 ≤ v) (h : ∀ σ1, kv σ1 A → Q (-9000000000000000002 : Int64) σ1) : kw_L_gap σ v Q := by
  unfold kw_L_gap
  exact s_gap hv (fun g hg e => absurd (by rw [e]; exact nI_pos' hg) hn) (fun _ => h σ hv)
theorem x_widthFor {σ : ka_S} {A : ma_X} {v : Int32} {Q : Int64 → ka_S → Prop} (hv : kv σ A) (hn : ∀ k, k < 100 → v ≠ nI k) (h : ∀ σ1, kv σ1 A → Q (-9000000000000000002 : Int64) σ1) : kw_L_widthFor σ v Q := by
  unfold kw_L_widthFor
  exact s_widthFor hv (fun k hk e => absurd e (hn k hk)) (fun _ => h σ hv)
theorem x_rowsWith {σ : ka_S} {A : ma_X} {v u : Int32} {Q : Int64 → ka_S → Prop} (hv : kv σ A) (hn : ¬ (mc_set 9 v ∧ mc_set 11 u)) (h : ∀ σ1, kv σ1 A → Q (-9000000000000000002 : Int64) σ1) : kw_L_rowsWith σ v u Q := by
  unfold kw_L_rowsWith
  exact s_rowsWith hv (fun w y hw hy e e2 => absurd (by
    subst e e2
    exact ⟨Or.inl ⟨rfl, by rw [nI_toInt (by omega)]; omega, by rw [nI_toInt (by omega)]; omega⟩, Or.inr (Or.inr ⟨rfl, by rw [nI_toInt (by omega)]; omega, by rw [nI_toInt (by omega)]; omega⟩)⟩) hn) (fun _ => h σ hv)
theorem x_script {σ : ka_S} {A : ma_X} {v : Int32} {x : Int64} {Q : Int64 → ka_S → Prop} (hv : kv σ A) (hn : ∀ n s, ¬ mc_scr v x n s) (h : ∀ σ1, kv σ1 A → Q (-9000000000000000002 : Int64) σ1) : kw_L_script σ v x Q := by
  unfold kw_L_script
  exact s_script hv (fun n s z => absurd z (hn n s)) (fun _ => h σ hv)
theorem x_simulate {σ : ka_S} {A : ma_X} {v : Int32} {x : Int64} {Q : Int64 → ka_S → Prop} (hv : kv σ A) (hn : ∀ n, 1 ≤ n → n ≤ 99 → v ≠ nI n) (h : ∀ σ1, kv σ1 A → Q (-9000000000000000002 : Int64) σ1) : kw_L_simulate σ x v Q := by
  unfold kw_L_simulate
  exact s_simulate hv (fun n z e => absurd e (hn n z.1 z.2)) (fun _ => h σ hv)
theorem x_save {σ : ka_S} {A : ma_X} {v : Int32} {Q : Int64 → ka_S → Prop} (hv : kv σ A) (hn : ∀ k, k < 2 → v ≠ nI k) (h : ∀ σ1, kv σ1 A → Q (-9000000000000000001 : Int64) σ1) : kw_L_save σ v Q := by
  unfold kw_L_save
  exact s_save hv (fun k hk e => absurd e (hn k hk)) (fun _ => h σ hv)
theorem x_restore {σ : ka_S} {A : ma_X} {v : Int32} {Q : Int64 → ka_S → Prop} (hv : kv σ A) (hn : ∀ k, k < 2 → v ≠ nI k) (h : ∀ σ1, kv σ1 A → Q (-9000000000000000001 : Int64) σ1) : kw_L_restore σ v Q := by
  unfold kw_L_restore
  exact s_restore hv (fun k hk e => absurd e (hn k hk)) (fun _ => h σ hv) (fun k hk e => absurd e (hn k hk))
theorem x_undo {σ : ka_S} {A : ma_X} {Q : Int64 → ka_S → Prop} (hv : kv σ A) (hn : kx_h A = 0) (h : ∀ σ1, kv σ1 A → Q (-9000000000000000003 : Int64) σ1) : kw_L_undo σ  Q := by
  unfold kw_L_undo
  exact s_undo hv (fun z => absurd hn z) (fun _ => h σ hv)
