/-! ===== tells: a text that is words ===== -/
theorem kI_andN (z : Int32) (k : Nat) (hk : k ≤ 20) : ∃ n, n < 2 ^ k ∧ z &&& nI (2 ^ k - 1) = nI n := by
  obtain ⟨a, ha, rfl⟩ := wb_of32 z
  have hp : (2 : Nat) ^ k ≤ 2 ^ 20 := Nat.pow_le_pow_right (by decide) hk
  have hb : (2 : Nat) ^ k - 1 < 2 ^ 32 := Nat.lt_of_le_of_lt (Nat.sub_le _ _) (Nat.lt_of_le_of_lt hp (by decide))
  refine ⟨a % 2 ^ k, Nat.mod_lt _ (Nat.two_pow_pos k), ?_⟩
  apply Int32.toBitVec_inj.mp
  rw [Int32.toBitVec_and]
  show BitVec.ofNat 32 a &&& BitVec.ofNat 32 (2 ^ k - 1) = BitVec.ofNat 32 (a % 2 ^ k)
  apply BitVec.eq_of_toNat_eq
  rw [BitVec.toNat_and, BitVec.toNat_ofNat, BitVec.toNat_ofNat, BitVec.toNat_ofNat, Nat.mod_eq_of_lt ha, Nat.mod_eq_of_lt hb, Nat.and_two_pow_sub_one_eq_mod, Nat.mod_eq_of_lt (Nat.lt_of_le_of_lt (Nat.mod_le _ _) ha)]
theorem kI_rem3 (v : Int32) : (∃ k, 1 ≤ k ∧ k ≤ 3 ∧ (1 : Int32) + (v - v / (3 : Int32) * (3 : Int32)) = nI k) ∨ (1 : Int32) + (v - v / (3 : Int32) * (3 : Int32)) ≤ 0 := by
  have b1 := Int32.le_toInt v
  have b2 := Int32.toInt_lt v
  have e3 : (3 : Int32).toInt = 3 := by decide
  have h1 := Int.tmod_add_mul_tdiv v.toInt 3
  have h2 := Int.tmod_lt_of_pos v.toInt (b := 3) (by decide)
  have h3 := Int.lt_tmod_of_pos v.toInt (b := 3) (by decide)
  have d1 : (v / (3 : Int32)).toInt = v.toInt.tdiv 3 := by rw [Int32.toInt_div_of_ne_right v 3 (by decide), e3]
  have d3 : (v - v / (3 : Int32) * (3 : Int32)).toInt = v.toInt.tmod 3 := by
    rw [Int32.toInt_sub, Int32.toInt_mul, d1, e3, Int.sub_bmod_bmod]
    rw [show v.toInt - v.toInt.tdiv 3 * 3 = v.toInt.tmod 3 by omega]
    exact Int.bmod_eq_of_le (by omega) (by omega)
  have d4 : ((1 : Int32) + (v - v / (3 : Int32) * (3 : Int32))).toInt = 1 + v.toInt.tmod 3 := by
    rw [Int32.toInt_add, d3, show (1 : Int32).toInt = 1 from by decide]
    exact Int.bmod_eq_of_le (by omega) (by omega)
  generalize (1 : Int32) + (v - v / (3 : Int32) * (3 : Int32)) = r at d4 ⊢
  by_cases q : 0 < r.toInt
  · obtain ⟨k, hk, e⟩ := kI_ex (v := r) (n := 4) (by omega) (by omega)
    refine Or.inl ⟨k, ?_, by omega, e⟩
    rw [e, nI_toInt (by omega)] at q
    omega
  · exact Or.inr (Int32.le_iff_toInt_le.mpr (by rw [show (0 : Int32).toInt = 0 from by decide]; omega))
def mv_go (t : Nat → Nat) : Nat → Option ma_A
  | 0 => some mv_0
  | k + 1 => match mv_go t k with
    | some s => mv_take s (t k)
    | none => none
theorem mv_go_congr {t t' : Nat → Nat} : ∀ k, (∀ j, j < k → t j = t' j) → mv_go t k = mv_go t' k
  | 0, _ => rfl
  | k + 1, h => by
    rw [mv_go, mv_go, mv_go_congr k (fun j hj => h j (by omega)), h k (by omega)]
theorem mv_go_none {t : Nat → Nat} {k : Nat} (h : mv_go t k = none) : ∀ m, mv_go t (k + m) = none
  | 0 => h
  | m + 1 => by
    show mv_go t (k + m + 1) = none
    rw [mv_go, mv_go_none h m]
theorem mv_go_run {t : Nat → Nat} : ∀ (m k : Nat) (s s' : ma_A), mv_go t k = some s → mv_go t (k + m) = some s' → mv_run t m k s = (if mv_wh s' then -9 else nI (k + m), s')
  | 0, k, s, s', h, h' => by
    have e : s = s' := Option.some.inj (h.symm.trans h')
    subst e
    rfl
  | m + 1, k, s, s', h, h' => by
    have e : mv_go t (k + 1) = mv_take s (t k) := by rw [mv_go, h]
    rw [mv_run]
    cases hs : mv_take s (t k) with
    | none =>
      rw [hs] at e
      have := mv_go_none e m
      rw [show k + 1 + m = k + (m + 1) by omega, h'] at this
      cases this
    | some s1 =>
      rw [hs] at e
      have := mv_go_run m (k + 1) s1 s' e (by rw [show k + 1 + m = k + (m + 1) by omega]; exact h')
      rw [show k + 1 + m = k + (m + 1) by omega] at this
      exact this
def tI (A : ma_X) (s : ma_A) : Prop := mv_go (kx_t A) (kx_n A) = some s ∧ mv_ok s
def kx_put (A : ma_X) (c : Nat) : ma_X := kx_setT A (kx_n A + 1) (mt_put (kx_t A) (kx_n A) c)
theorem tI_put {A : ma_X} {s s' : ma_A} {c : Nat} (h : tI A s) (e : mv_take s c = some s') : tI (kx_put A c) s' := by
  refine ⟨?_, ?_⟩
  · show mv_go (mt_put (kx_t A) (kx_n A) c) (kx_n A + 1) = some s'
    have e9 : mv_go (mt_put (kx_t A) (kx_n A) c) (kx_n A) = mv_go (kx_t A) (kx_n A) := mv_go_congr _ (fun j hj => by unfold mt_put; rw [if_neg (by omega)])
    rw [mv_go, e9, h.1]
    show mv_take s (if kx_n A = kx_n A then c else kx_t A (kx_n A)) = some s'
    rw [if_pos rfl]
    exact e
  · have := mv_take_ok (c := c) h.2
    rw [e] at this
    exact this
theorem tI_e {A : ma_X} {s : ma_A} (h : tI A s) (w : mv_wh s) : kx_e A = -9 := by
  have := mv_go_run (kx_n A) 0 mv_0 s rfl (by rw [Nat.zero_add]; exact h.1)
  unfold kx_e mv_read
  rw [this, if_pos w]
theorem l_put {σ : ka_S} {A : ma_X} {c : Nat} {Q : Int64 → ka_S → Prop} (hv : kv σ A) (hc : c < 256) (hn : kx_n A < 60) (h : ∀ σ1, kv σ1 (kx_put A c) → Q (lN (kx_n A + 1)) σ1) : kw0_L_append σ (nI c) Q := l0_append hv hc hn h
/-- the mark ahead of part p -/
def mk_ (v : Int32) (p : Nat) : Nat := if (v >>> (nI p &&& 31)) &&& (1 : Int32) = (0 : Int32) then 45 else 61
theorem mkv_or (v : Int32) (p : Nat) : mk_ v p = 45 ∨ mk_ v p = 61 := by
  unfold mk_
  split
  · exact Or.inl rfl
  · exact Or.inr rfl
/-- part p is open and empty -/
def tO (v : Int32) (A : ma_X) (s : ma_A) (R p : Nat) : Prop := tI A s ∧ mv_R s = R ∧ mv_g s = 0 ∧ mw_S (mv_w s) = p + 1 ∧ mv_p s = p ∧ mw_P (mv_w s) p = [] ∧ ∀ q, 1 ≤ q → q < p + 1 → mw_M (mv_w s) q = mk_ v q
/-- p parts are told -/
def tP (v : Int32) (A : ma_X) (s : ma_A) (R p : Nat) : Prop := tI A s ∧ mv_R s = R ∧ mv_g s = 0 ∧ mw_S (mv_w s) = p ∧ mv_p s + 1 = p ∧ 0 < (mw_P (mv_w s) (mv_p s)).length ∧ ∀ q, 1 ≤ q → q < p → mw_M (mv_w s) q = mk_ v q
theorem tO_let {v : Int32} {A : ma_X} {s : ma_A} {R p c : Nat} (h : tO v A s R p) (hc : 97 ≤ c ∧ c ≤ 122) : ∃ s', tP v (kx_put A c) s' R (p + 1) ∧ (mw_P (mv_w s') (mv_p s')).length = 1 := by
  obtain ⟨h1, h2, h3, h4, h5, h6, h7⟩ := h
  have e : (mw_P (mv_w s) (mv_p s)).length = 0 := by rw [h5, h6]; rfl
  have ew : mw_P (mw_addP (mv_w s) (mv_p s) c) (mv_p s) = mw_P (mv_w s) (mv_p s) ++ [c] := if_pos rfl
  have el : (mw_P (mv_w (mv_set s (mw_addP (mv_w s) (mv_p s) c) 0 (mv_p s))) (mv_p s)).length = 1 := by rw [mv_set_w, ew, List.length_append, e]; rfl
  refine ⟨mv_set s (mw_addP (mv_w s) (mv_p s) c) 0 (mv_p s), ⟨tI_put h1 (mv_take_l0 h3 hc (by omega)), h2, rfl, by rw [mv_set_w]; exact h4, by show mv_p s + 1 = p + 1; omega, ?_, fun q q1 q2 => by rw [mv_set_w]; exact h7 q q1 q2⟩, el⟩
  show 0 < (mw_P (mv_w (mv_set s (mw_addP (mv_w s) (mv_p s) c) 0 (mv_p s))) (mv_p s)).length
  omega
theorem tP_let {v : Int32} {A : ma_X} {s : ma_A} {R p c : Nat} (h : tP v A s R p) (h8 : (mw_P (mv_w s) (mv_p s)).length < 8) (hc : 97 ≤ c ∧ c ≤ 122) : ∃ s', tP v (kx_put A c) s' R p := by
  obtain ⟨h1, h2, h3, h4, h5, h6, h7⟩ := h
  have ew : mw_P (mw_addP (mv_w s) (mv_p s) c) (mv_p s) = mw_P (mv_w s) (mv_p s) ++ [c] := if_pos rfl
  refine ⟨mv_set s (mw_addP (mv_w s) (mv_p s) c) 0 (mv_p s), tI_put h1 (mv_take_l0 h3 hc h8), h2, rfl, by rw [mv_set_w]; exact h4, h5, ?_, fun q q1 q2 => by rw [mv_set_w]; exact h7 q q1 q2⟩
  show 0 < (mw_P (mv_w (mv_set s (mw_addP (mv_w s) (mv_p s) c) 0 (mv_p s))) (mv_p s)).length
  rw [mv_set_w, ew, List.length_append]
  omega
theorem tP_mark {v : Int32} {A : ma_X} {s : ma_A} {R p : Nat} (h : tP v A s R p) (h4p : p < 4) : ∃ s', tO v (kx_put A (mk_ v p)) s' R p := by
  obtain ⟨h1, h2, h3, h4, h5, h6, h7⟩ := h
  refine ⟨mv_set s (mw_part (mv_w s) (mk_ v p)) 0 (mv_p s + 1), tI_put h1 (mv_take_m0 h3 (Or.inl ⟨h3, h6⟩) (mkv_or v p) (by omega)), h2, rfl, ?_, h5, ?_, fun q q1 q2 => ?_⟩
  · rw [mv_set_w]
    show mw_S (mv_w s) + 1 = p + 1
    omega
  · rw [mv_set_w]
    show (if p = mw_S (mv_w s) then [] else mw_P (mv_w s) p) = []
    rw [if_pos h4.symm]
  · rw [mv_set_w]
    show (if q = mw_S (mv_w s) then mk_ v p else mw_M (mv_w s) q) = mk_ v q
    by_cases z : q = mw_S (mv_w s)
    · rw [if_pos z, z, h4]
    · rw [if_neg z]
      exact h7 q q1 (by omega)
/-- the gloss of part p is open and empty -/
def tG (v : Int32) (A : ma_X) (s : ma_A) (R P p : Nat) : Prop := tI A s ∧ mv_R s = R ∧ mv_g s = 1 ∧ mw_S (mv_w s) = P ∧ mv_p s = p ∧ p < P ∧ ∀ q, 1 ≤ q → q < P → mw_M (mv_w s) q = mk_ v q
/-- p glosses are told -/
def tE (v : Int32) (A : ma_X) (s : ma_A) (R P p : Nat) : Prop := tI A s ∧ mv_R s = R ∧ mv_g s = 1 ∧ mw_S (mv_w s) = P ∧ mv_p s + 1 = p ∧ p ≤ P ∧ ∀ q, 1 ≤ q → q < P → mw_M (mv_w s) q = mk_ v q
theorem tG_E {v : Int32} {A : ma_X} {s : ma_A} {R P p : Nat} (h : tG v A s R P p) : tE v A s R P (p + 1) := by
  obtain ⟨h1, h2, h3, h4, h5, h6, h7⟩ := h
  exact ⟨h1, h2, h3, h4, by omega, by omega, h7⟩
theorem tP_colon {v : Int32} {A : ma_X} {s : ma_A} {R P : Nat} (h : tP v A s R P) : ∃ s', tG v (kx_put A 58) s' R P 0 ∧ mw_G (mv_w s') 0 = [] := by
  obtain ⟨h1, h2, h3, h4, h5, h6, h7⟩ := h
  have hg := h1.2.2.2.2.2.2.2.2.2.2 0 (by omega) (Or.inl h3)
  refine ⟨mv_set s (mv_w s) 1 0, ⟨tI_put h1 (mv_take_c h3 (Or.inl ⟨h3, h6⟩) rfl), h2, rfl, by rw [mv_set_w]; exact h4, rfl, by omega, fun q q1 q2 => by rw [mv_set_w]; exact h7 q q1 q2⟩, by rw [mv_set_w]; exact hg⟩
theorem tG_let {v : Int32} {A : ma_X} {s : ma_A} {R P p c : Nat} (h : tG v A s R P p) (hg : mw_G (mv_w s) p = []) (hc : 97 ≤ c ∧ c ≤ 122) : ∃ s', tE v (kx_put A c) s' R P (p + 1) := by
  obtain ⟨h1, h2, h3, h4, h5, h6, h7⟩ := h
  refine ⟨mv_set s (mw_setG (mv_w s) (mv_p s) (mw_G (mv_w s) (mv_p s) ++ [c])) 1 (mv_p s), tI_put h1 (mv_take_l1 (by omega) (Or.inl hc) (by rw [h5, hg]; decide)), h2, rfl, by rw [mv_set_w]; exact h4, by show mv_p s + 1 = p + 1; omega, by omega, fun q q1 q2 => by rw [mv_set_w]; exact h7 q q1 q2⟩
theorem tE_mark {v : Int32} {A : ma_X} {s : ma_A} {R P p : Nat} (h : tE v A s R P p) (hp : p < P) (h0 : 1 ≤ p) : ∃ s', tG v (kx_put A (mk_ v p)) s' R P p ∧ mw_G (mv_w s') p = [] := by
  obtain ⟨h1, h2, h3, h4, h5, h6, h7⟩ := h
  have hg := h1.2.2.2.2.2.2.2.2.2.2 p (by omega) (Or.inr (by omega))
  refine ⟨mv_set s (mv_w s) 1 (mv_p s + 1), ⟨tI_put h1 (mv_take_m1 (by omega) (mkv_or v p) (by omega) (by rw [h5]; exact h7 p h0 hp)), h2, rfl, by rw [mv_set_w]; exact h4, h5, hp, fun q q1 q2 => by rw [mv_set_w]; exact h7 q q1 q2⟩, by rw [mv_set_w]; exact hg⟩
/-- a word that is whole -/
def tW (A : ma_X) (s : ma_A) (R : Nat) : Prop := tI A s ∧ mv_R s = R ∧ mv_wh s
theorem tW_blank {v : Int32} {A : ma_X} {s : ma_A} {R : Nat} (h : tW A s R) (hR : R < 12) : tO v (kx_put A 32) (mv_next s) (R + 1) 0 := by
  obtain ⟨h1, h2, h3⟩ := h
  refine ⟨tI_put h1 (mv_take_b h3 rfl (by omega)), by show mv_R s + 1 = R + 1; omega, rfl, by rw [mv_next_w]; rfl, rfl, by rw [mv_next_w]; rfl, fun q q1 q2 => by omega⟩
theorem tO_0 {v : Int32} {A : ma_X} (h : kx_n A = 0) : tO v A mv_0 1 0 := by
  refine ⟨⟨by rw [h]; rfl, mv_0_ok⟩, rfl, rfl, rfl, rfl, rfl, fun q q1 q2 => by omega⟩
theorem tP_W {v : Int32} {A : ma_X} {s : ma_A} {R P : Nat} (h : tP v A s R P) : tW A s R := by
  obtain ⟨h1, h2, h3, h4, h5, h6, h7⟩ := h
  exact ⟨h1, h2, Or.inl ⟨h3, h6⟩⟩
theorem tE_W {v : Int32} {A : ma_X} {s : ma_A} {R P : Nat} (h : tE v A s R P P) : tW A s R := by
  obtain ⟨h1, h2, h3, h4, h5, h6, h7⟩ := h
  exact ⟨h1, h2, Or.inr ⟨by omega, by omega⟩⟩
/-! the loops -/
theorem lt_135 {v1 v2 v5 : Int32} {A : ma_X} {s : ma_A} {R p : Nat} (h : tO v1 A s R p) : ∃ A' s', tP v1 A' s' R (p + 1) ∧ A'.2 = A.2 ∧ kx_n A' ≤ kx_n A + 2 ∧ (kx_n A + 2 ≤ 60 → ∀ {σ : ka_S} {v3 v6 v7 : Int32} {K23 : ka_S → Int32 → Int32 → Int32 → Int32 → Int32 → Prop} {K93 : ka_S → Int32 → Int32 → Int32 → Int32 → Int32 → Int32 → Int32 → Int32 → Prop} {Q : Int32 → ka_S → Prop}, kv σ A → (∀ σ1, kv σ1 A' → K93 σ1 v1 v2 v3 1 v5 v6 v7 (nI (p + 1))) → kw_L_tells_135 K23 K93 Q σ v1 v2 v3 v5 v6 v7 (nI p)) := by
  obtain ⟨z, hz, ez⟩ := kI_andN (v2 >>> ((nI p + v5) &&& 31)) 10 (by decide)
  have m4 : z % 4 < 4 := Nat.mod_lt _ (by decide)
  have ec : (97 : Int32) + (((v2 >>> ((nI p + v5) &&& 31)) &&& (1023 : Int32)) - ((v2 >>> ((nI p + v5) &&& 31)) &&& (1023 : Int32)) / (4 : Int32) * (4 : Int32)) = nI (97 + z % 4) := by
    rw [show (v2 >>> ((nI p + v5) &&& 31)) &&& (1023 : Int32) = nI z from ez, show nI z - nI z / (4 : Int32) * (4 : Int32) = nI (z % 4) from pk_rem (d := 4) (by omega) (by decide) (by decide)]
    exact nI_add 97 _
  obtain ⟨s1, g1, g2⟩ := tO_let (c := 97 + z % 4) h (by omega)
  by_cases hb : (v2 >>> (((2 : Int32) * nI p) &&& 31)) &&& (1 : Int32) = (0 : Int32)
  · refine ⟨_, s1, g1, rfl, by show kx_n A + 1 ≤ _; omega, fun hn {σ v3 v6 v7 K23 K93 Q} hv k => ?_⟩
    unfold kw_L_tells_135
    rw [ec]
    refine l_put hv (by omega) (by omega) (fun σ1 h1 => kb_lLE (kx_n A + 1) 0 (fun q => absurd q (by omega)) (fun _ => ⟨fun _ => ?_, fun q => absurd hb q⟩))
    intro x ex
    subst ex
    rw [nI_1]
    exact k σ1 h1
  · obtain ⟨s2, g3⟩ := tP_let (c := 98) g1 (by omega) (by decide)
    refine ⟨_, s2, g3, rfl, by show kx_n A + 1 + 1 ≤ _; omega, fun hn {σ v3 v6 v7 K23 K93 Q} hv k => ?_⟩
    unfold kw_L_tells_135
    rw [ec]
    refine l_put hv (by omega) (by omega) (fun σ1 h1 => kb_lLE (kx_n A + 1) 0 (fun q => absurd q (by omega)) (fun _ => ⟨fun q => absurd q hb, fun _ => ?_⟩))
    have e1 : kx_n (kx_put A (97 + z % 4)) = kx_n A + 1 := rfl
    refine l_put (c := 98) h1 (by decide) (by omega) (fun σ2 h2 => kb_lLE (kx_n A + 1 + 1) 0 (fun q => absurd q (by omega)) (fun _ => ?_))
    intro x ex
    subst ex
    rw [nI_1]
    exact k σ2 h2
theorem lt_127 {v1 v2 v5 : Int32} {A : ma_X} {s : ma_A} {R p : Nat} (h : tP v1 A s R p) (hp : p < 4) : ∃ A' s', tP v1 A' s' R (p + 1) ∧ A'.2 = A.2 ∧ kx_n A' ≤ kx_n A + 3 ∧ (kx_n A + 3 ≤ 60 → ∀ {σ : ka_S} {v3 v6 v7 : Int32} {K23 : ka_S → Int32 → Int32 → Int32 → Int32 → Int32 → Prop} {K93 : ka_S → Int32 → Int32 → Int32 → Int32 → Int32 → Int32 → Int32 → Int32 → Prop} {Q : Int32 → ka_S → Prop}, kv σ A → (∀ σ1, kv σ1 A' → K93 σ1 v1 v2 v3 1 v5 v6 v7 (nI (p + 1))) → kw_L_tells_127 K23 K93 Q σ v1 v2 v3 v5 v6 v7 (nI p) (nI (mk_ v1 p))) := by
  obtain ⟨s1, g1⟩ := tP_mark h hp
  obtain ⟨A', s', g2, g3, g4, g5⟩ := lt_135 (v2 := v2) (v5 := v5) g1
  have e1 : kx_n (kx_put A (mk_ v1 p)) = kx_n A + 1 := rfl
  have hm := mkv_or v1 p
  refine ⟨A', s', g2, g3.trans rfl, by omega, fun hn {σ v3 v6 v7 K23 K93 Q} hv k => ?_⟩
  unfold kw_L_tells_127
  exact l_put hv (by omega) (by omega) (fun σ1 h1 => kb_lLE (kx_n A + 1) 0 (fun q => absurd q (by omega)) (fun _ => g5 (by omega) h1 k))
theorem lt_93 {v1 v2 v5 : Int32} {R P : Nat} (hP : P ≤ 3) : ∀ (m p : Nat), p + m = P → 1 ≤ p → ∀ (A : ma_X) (s : ma_A), tP v1 A s R p → ∃ A' s', tP v1 A' s' R P ∧ A'.2 = A.2 ∧ kx_n A' ≤ kx_n A + 3 * m ∧ (kx_n A + 3 * m ≤ 60 → ∀ {σ : ka_S} {v3 v7 : Int32} {K23 : ka_S → Int32 → Int32 → Int32 → Int32 → Int32 → Prop} {Q : Int32 → ka_S → Prop}, kv σ A → (∀ σ1, kv σ1 A' → kw_L_tells_195 K23 Q σ1 v1 v2 v3 1 v5 (nI P) v7) → kw_L_tells_93 K23 Q (m + 1) σ v1 v2 v3 1 v5 (nI P) v7 (nI p)) := by
  intro m
  induction m with
  | zero =>
    intro p hp h1 A s h
    obtain rfl : p = P := by omega
    refine ⟨A, s, h, rfl, by omega, fun hn {σ v3 v7 K23 Q} hv k => ?_⟩
    rw [kw_L_tells_93]
    exact kb_le p p (fun _ => k σ hv) (fun q => absurd q (by omega))
  | succ m ih =>
    intro p hp h1 A s h
    obtain ⟨A1, s1, g1, g2, g3, g4⟩ := lt_127 (v2 := v2) (v5 := v5) h (by omega)
    obtain ⟨A', s', f1, f2, f3, f4⟩ := ih (p + 1) (by omega) (by omega) A1 s1 g1
    refine ⟨A', s', f1, f2.trans g2, by omega, fun hn {σ v3 v7 K23 Q} hv k => ?_⟩
    rw [kw_L_tells_93]
    refine kb_le P p (fun q => absurd q (by omega)) (fun _ => kb_ne (by decide) (kb_i p 0 (fun q => absurd q (by omega)) (fun _ => ?_)))
    have g5 := g4 (by omega) (σ := σ) (v3 := v3) (v6 := nI P) (v7 := v7) (K23 := K23) (K93 := kw_L_tells_93 K23 Q (m + 1)) (Q := Q) hv (fun σ1 hh => f4 (by omega) hh k)
    refine ⟨fun c => ?_, fun c => ?_⟩
    · rw [show mk_ v1 p = 45 from if_pos c] at g5
      exact g5
    · rw [show mk_ v1 p = 61 from if_neg c] at g5
      exact g5
/-- the parts of a word -/
theorem lt_93_0 {v1 v2 v5 : Int32} {R P : Nat} (h1P : 1 ≤ P) (hP : P ≤ 3) {A : ma_X} {s : ma_A} (h : tO v1 A s R 0) : ∃ A' s', tP v1 A' s' R P ∧ A'.2 = A.2 ∧ kx_n A' ≤ kx_n A + 8 ∧ (kx_n A + 8 ≤ 60 → ∀ {σ : ka_S} {v3 v7 : Int32} {K23 : ka_S → Int32 → Int32 → Int32 → Int32 → Int32 → Prop} {Q : Int32 → ka_S → Prop}, kv σ A → (∀ σ1, kv σ1 A' → kw_L_tells_195 K23 Q σ1 v1 v2 v3 1 v5 (nI P) v7) → kw_L_tells_93 K23 Q (P + 1) σ v1 v2 v3 1 v5 (nI P) v7 (0 : Int32)) := by
  obtain ⟨A1, s1, g1, g2, g3, g4⟩ := lt_135 (v2 := v2) (v5 := v5) h
  obtain ⟨A', s', f1, f2, f3, f4⟩ := lt_93 (v2 := v2) (v5 := v5) hP (P - 1) 1 (by omega) (Nat.le_refl _) A1 s1 g1
  refine ⟨A', s', f1, f2.trans g2, by omega, fun hn {σ v3 v7 K23 Q} hv k => ?_⟩
  rw [kw_L_tells_93]
  refine kb_le P 0 (fun q => absurd q (by omega)) (fun _ => kb_ne (by decide) (kb_eq rfl ?_))
  refine g4 (by omega) hv (fun σ1 hh => ?_)
  have := f4 (by omega) (σ := σ1) (v3 := v3) (v7 := v7) (K23 := K23) (Q := Q) hh k
  rw [show P - 1 + 1 = P by omega] at this
  exact this
theorem lt_273 {v1 v2 v5 : Int32} {A : ma_X} {s : ma_A} {R P p : Nat} (h : tG v1 A s R P p) (hg : mw_G (mv_w s) p = []) : ∃ A' s', tE v1 A' s' R P (p + 1) ∧ A'.2 = A.2 ∧ kx_n A' ≤ kx_n A + 1 ∧ (kx_n A + 1 ≤ 60 → ∀ {σ : ka_S} {v3 v6 v7 : Int32} {K23 : ka_S → Int32 → Int32 → Int32 → Int32 → Int32 → Prop} {K226 : ka_S → Int32 → Int32 → Int32 → Int32 → Int32 → Int32 → Int32 → Int32 → Prop} {Q : Int32 → ka_S → Prop}, kv σ A → (∀ σ1, kv σ1 A' → K226 σ1 v1 v2 v3 1 v5 v6 v7 (nI (p + 1))) → kw_L_tells_273 K23 K226 Q σ v1 v2 v3 v5 v6 v7 (nI p)) := by
  obtain ⟨z, hz, ez⟩ := kI_andN (v2 >>> (nI p &&& 31)) 8 (by decide)
  have m3 : z % 3 < 3 := Nat.mod_lt _ (by decide)
  have ec : (120 : Int32) + (((v2 >>> (nI p &&& 31)) &&& (255 : Int32)) - ((v2 >>> (nI p &&& 31)) &&& (255 : Int32)) / (3 : Int32) * (3 : Int32)) = nI (120 + z % 3) := by
    rw [show (v2 >>> (nI p &&& 31)) &&& (255 : Int32) = nI z from ez, show nI z - nI z / (3 : Int32) * (3 : Int32) = nI (z % 3) from pk_rem (d := 3) (by omega) (by decide) (by decide)]
    exact nI_add 120 _
  by_cases hb : (v1 >>> ((((2 : Int32) * nI p) + v5) &&& 31)) &&& (1 : Int32) = (0 : Int32)
  · refine ⟨A, s, tG_E h, rfl, by omega, fun hn {σ v3 v6 v7 K23 K226 Q} hv k => ?_⟩
    unfold kw_L_tells_273
    refine ⟨fun _ => ?_, fun q => absurd hb q⟩
    intro x ex
    subst ex
    rw [nI_1]
    exact k σ hv
  · obtain ⟨s1, g1⟩ := tG_let (c := 120 + z % 3) h hg (by omega)
    refine ⟨_, s1, g1, rfl, by show kx_n A + 1 ≤ _; omega, fun hn {σ v3 v6 v7 K23 K226 Q} hv k => ?_⟩
    unfold kw_L_tells_273
    refine ⟨fun q => absurd q hb, fun _ => ?_⟩
    rw [ec]
    refine l_put hv (by omega) (by omega) (fun σ1 h1 => kb_lLE (kx_n A + 1) 0 (fun q => absurd q (by omega)) (fun _ => ?_))
    intro x ex
    subst ex
    rw [nI_1]
    exact k σ1 h1
theorem lt_265 {v1 v2 v5 : Int32} {A : ma_X} {s : ma_A} {R P p : Nat} (h : tE v1 A s R P p) (hp : p < P) (h0 : 1 ≤ p) : ∃ A' s', tE v1 A' s' R P (p + 1) ∧ A'.2 = A.2 ∧ kx_n A' ≤ kx_n A + 2 ∧ (kx_n A + 2 ≤ 60 → ∀ {σ : ka_S} {v3 v6 v7 : Int32} {K23 : ka_S → Int32 → Int32 → Int32 → Int32 → Int32 → Prop} {K226 : ka_S → Int32 → Int32 → Int32 → Int32 → Int32 → Int32 → Int32 → Int32 → Prop} {Q : Int32 → ka_S → Prop}, kv σ A → (∀ σ1, kv σ1 A' → K226 σ1 v1 v2 v3 1 v5 v6 v7 (nI (p + 1))) → kw_L_tells_265 K23 K226 Q σ v1 v2 v3 v5 v6 v7 (nI p) (nI (mk_ v1 p))) := by
  obtain ⟨s1, g1, gg⟩ := tE_mark h hp h0
  obtain ⟨A', s', g2, g3, g4, g5⟩ := lt_273 (v2 := v2) (v5 := v5) g1 gg
  have e1 : kx_n (kx_put A (mk_ v1 p)) = kx_n A + 1 := rfl
  have hm := mkv_or v1 p
  refine ⟨A', s', g2, g3.trans rfl, by omega, fun hn {σ v3 v6 v7 K23 K226 Q} hv k => ?_⟩
  unfold kw_L_tells_265
  exact l_put hv (by omega) (by omega) (fun σ1 h1 => kb_lLE (kx_n A + 1) 0 (fun q => absurd q (by omega)) (fun _ => g5 (by omega) h1 k))
theorem lt_226 {v1 v2 : Int32} {i R P : Nat} (hP : P ≤ 3) : ∀ (m p : Nat), p + m = P → 1 ≤ p → ∀ (A : ma_X) (s : ma_A), tE v1 A s R P p → ∃ A' s', tE v1 A' s' R P P ∧ A'.2 = A.2 ∧ kx_n A' ≤ kx_n A + 2 * m ∧ (kx_n A + 2 * m ≤ 60 → ∀ {σ : ka_S} {v3 : Int32} {K23 : ka_S → Int32 → Int32 → Int32 → Int32 → Int32 → Prop} {Q : Int32 → ka_S → Prop}, kv σ A → (∀ σ1, kv σ1 A' → K23 σ1 v1 v2 v3 1 (nI (i + 1))) → kw_L_tells_226 K23 Q (m + 1) σ v1 v2 v3 1 (nI i) (nI P) 1 (nI p)) := by
  intro m
  induction m with
  | zero =>
    intro p hp h1 A s h
    obtain rfl : p = P := by omega
    refine ⟨A, s, h, rfl, by omega, fun hn {σ v3 K23 Q} hv k => ?_⟩
    rw [kw_L_tells_226]
    refine kb_le p p (fun _ => ?_) (fun q => absurd q (by omega))
    intro x ex
    subst ex
    rw [nI_1]
    exact k σ hv
  | succ m ih =>
    intro p hp h1 A s h
    obtain ⟨A1, s1, g1, g2, g3, g4⟩ := lt_265 (v2 := v2) (v5 := nI i) h (by omega) h1
    obtain ⟨A', s', f1, f2, f3, f4⟩ := ih (p + 1) (by omega) (by omega) A1 s1 g1
    refine ⟨A', s', f1, f2.trans g2, by omega, fun hn {σ v3 K23 Q} hv k => ?_⟩
    rw [kw_L_tells_226]
    refine kb_le P p (fun q => absurd q (by omega)) (fun _ => kb_ne (by decide) (kb_ne (by decide) (kb_i p 0 (fun q => absurd q (by omega)) (fun _ => ?_))))
    have g5 := g4 (by omega) (σ := σ) (v3 := v3) (v6 := nI P) (v7 := 1) (K23 := K23) (K226 := kw_L_tells_226 K23 Q (m + 1)) (Q := Q) hv (fun σ1 hh => f4 (by omega) hh k)
    refine ⟨fun c => ?_, fun c => ?_⟩
    · rw [show mk_ v1 p = 45 from if_pos c] at g5
      exact g5
    · rw [show mk_ v1 p = 61 from if_neg c] at g5
      exact g5
theorem lt_226_0 {v1 v2 : Int32} {i R P : Nat} (h1P : 1 ≤ P) (hP : P ≤ 3) {A : ma_X} {s : ma_A} (h : tG v1 A s R P 0) (hg : mw_G (mv_w s) 0 = []) : ∃ A' s', tE v1 A' s' R P P ∧ A'.2 = A.2 ∧ kx_n A' ≤ kx_n A + 5 ∧ (kx_n A + 5 ≤ 60 → ∀ {σ : ka_S} {v3 : Int32} {K23 : ka_S → Int32 → Int32 → Int32 → Int32 → Int32 → Prop} {Q : Int32 → ka_S → Prop}, kv σ A → (∀ σ1, kv σ1 A' → K23 σ1 v1 v2 v3 1 (nI (i + 1))) → kw_L_tells_226 K23 Q (P + 1) σ v1 v2 v3 1 (nI i) (nI P) 1 (0 : Int32)) := by
  obtain ⟨A1, s1, g1, g2, g3, g4⟩ := lt_273 (v2 := v2) (v5 := nI i) h hg
  obtain ⟨A', s', f1, f2, f3, f4⟩ := lt_226 (v2 := v2) (i := i) hP (P - 1) 1 (by omega) (Nat.le_refl _) A1 s1 g1
  refine ⟨A', s', f1, f2.trans g2, by omega, fun hn {σ v3 K23 Q} hv k => ?_⟩
  rw [kw_L_tells_226]
  refine kb_le P 0 (fun q => absurd q (by omega)) (fun _ => kb_ne (by decide) (kb_ne (by decide) (kb_eq rfl ?_)))
  refine g4 (by omega) hv (fun σ1 hh => ?_)
  have := f4 (by omega) (σ := σ1) (v3 := v3) (K23 := K23) (Q := Q) hh k
  rw [show P - 1 + 1 = P by omega] at this
  exact this
/-- one word -/
theorem lt_195 {v1 v2 : Int32} {i g R P : Nat} (hg1 : g ≤ 1) (h1P : 1 ≤ P) (hP : P ≤ 3) {A : ma_X} {s : ma_A} (h : tP v1 A s R P) : ∃ A' s', tW A' s' R ∧ A'.2 = A.2 ∧ kx_n A' ≤ kx_n A + 6 ∧ (kx_n A + 6 ≤ 60 → ∀ {σ : ka_S} {v3 : Int32} {K23 : ka_S → Int32 → Int32 → Int32 → Int32 → Int32 → Prop} {Q : Int32 → ka_S → Prop}, kv σ A → (∀ σ1, kv σ1 A' → K23 σ1 v1 v2 v3 1 (nI (i + 1))) → kw_L_tells_195 K23 Q σ v1 v2 v3 1 (nI i) (nI P) (nI g)) := by
  rcases (show g = 0 ∨ g = 1 by omega) with rfl | rfl
  · refine ⟨A, s, tP_W h, rfl, by omega, fun hn {σ v3 K23 Q} hv k => ?_⟩
    unfold kw_L_tells_195
    refine kb_ne (by decide) (kb_eq rfl ⟨1, ?_⟩)
    rw [kw_L_tells_226]
    refine kb_le P 0 (fun q => absurd q (by omega)) (fun _ => kb_ne (by decide) (kb_eq rfl ?_))
    intro x ex
    subst ex
    rw [nI_1]
    exact k σ hv
  · obtain ⟨s1, g1, gg⟩ := tP_colon h
    obtain ⟨A', s', f1, f2, f3, f4⟩ := lt_226_0 (v2 := v2) (i := i) h1P hP g1 gg
    have e1 : kx_n (kx_put A 58) = kx_n A + 1 := rfl
    refine ⟨A', s', tE_W f1, f2.trans rfl, by omega, fun hn {σ v3 K23 Q} hv k => ?_⟩
    unfold kw_L_tells_195
    refine kb_ne (by decide) (kb_ne (by decide) ?_)
    refine l_put (c := 58) hv (by decide) (by omega) (fun σ1 h1 => kb_lLE (kx_n A + 1) 0 (fun q => absurd q (by omega)) (fun _ => ⟨_, f4 (by omega) h1 k⟩))
theorem lt_65 {v1 v2 : Int32} {i g P : Nat} (hi : i ≤ 3) (hg1 : g ≤ 1) (h1P : 1 ≤ P) (hP : P ≤ 3) {A : ma_X} {s : ma_A} (h0 : i = 0 → kx_n A = 0) (h1 : 0 < i → tW A s i) : ∃ A' s', tW A' s' (i + 1) ∧ A'.2 = A.2 ∧ kx_n A' ≤ kx_n A + 15 ∧ (kx_n A + 15 ≤ 60 → ∀ {σ : ka_S} {v3 : Int32} {K23 : ka_S → Int32 → Int32 → Int32 → Int32 → Int32 → Prop} {Q : Int32 → ka_S → Prop}, kv σ A → (∀ σ1, kv σ1 A' → K23 σ1 v1 v2 v3 1 (nI (i + 1))) → kw_L_tells_65 K23 Q σ v1 v2 v3 (nI i) (nI P) (nI g)) := by
  by_cases hz : i = 0
  · subst hz
    obtain ⟨A1, s1, g1, g2, g3, g4⟩ := lt_93_0 (v2 := v2) (v5 := 0) h1P hP (tO_0 (v := v1) (h0 rfl))
    obtain ⟨A', s', f1, f2, f3, f4⟩ := lt_195 (v2 := v2) (i := 0) hg1 h1P hP g1
    refine ⟨A', s', f1, f2.trans g2, by omega, fun hn {σ v3 K23 Q} hv k => ?_⟩
    unfold kw_L_tells_65
    exact kb_eq rfl ⟨_, g4 (by omega) hv (fun σ1 hh => f4 (by omega) hh k)⟩
  · have gb := tW_blank (v := v1) (h1 (by omega)) (by omega)
    obtain ⟨A1, s1, g1, g2, g3, g4⟩ := lt_93_0 (v2 := v2) (v5 := nI i) h1P hP gb
    obtain ⟨A', s', f1, f2, f3, f4⟩ := lt_195 (v2 := v2) (i := i) hg1 h1P hP g1
    have e1 : kx_n (kx_put A 32) = kx_n A + 1 := rfl
    refine ⟨A', s', f1, (f2.trans g2).trans rfl, by omega, fun hn {σ v3 K23 Q} hv k => ?_⟩
    unfold kw_L_tells_65
    refine kb_i i 0 (fun q => absurd q hz) (fun _ => ?_)
    exact l_put (c := 32) hv (by decide) (by omega) (fun σ1 h1 => kb_lLE (kx_n A + 1) 0 (fun q => absurd q (by omega)) (fun _ => ⟨_, g4 (by omega) h1 (fun σ2 hh => f4 (by omega) hh k)⟩))
theorem lt_328 {σ : ka_S} {A : ma_X} {Q : Int32 → ka_S → Prop} (hv : kv σ A) (h : ∀ σ1, kv σ1 A → Q (if kx_e A = -9 then 1 else 0) σ1) : kw_L_tells_328 Q σ 1 := by
  unfold kw_L_tells_328
  refine kb_ne (by decide) (s_errorPosition hv (fun σ1 h1 => ⟨fun c => ?_, fun c => ?_⟩))
  · have := h σ1 h1
    rw [if_pos c] at this
    exact this
  · have := h σ1 h1
    rw [if_neg c] at this
    exact this
theorem lt_23 {v1 v2 : Int32} {n : Nat} (hn : n ≤ 3) : ∀ (m i : Nat), i + m = n → ∀ (A : ma_X) (s : ma_A), kx_n A ≤ 15 * i → (0 < i → tW A s i) → ∃ A' s', (0 < n → tW A' s' n) ∧ A'.2 = A.2 ∧ ∀ {σ : ka_S} {Q : Int32 → ka_S → Prop}, kv σ A → (∀ σ1, kv σ1 A' → Q (if kx_e A' = -9 then 1 else 0) σ1) → kw_L_tells_23 Q (m + 1) σ v1 v2 (nI n) 1 (nI i) := by
  intro m
  induction m with
  | zero =>
    intro i hi A s hA h
    obtain rfl : i = n := by omega
    refine ⟨A, s, h, rfl, fun {σ Q} hv k => ?_⟩
    rw [kw_L_tells_23]
    exact kb_le i i (fun _ => lt_328 hv k) (fun q => absurd q (by omega))
  | succ m ih =>
    intro i hi A s hA h
    obtain ⟨z, hz, ez⟩ := kI_andN (v2 >>> (nI i &&& 31)) 8 (by decide)
    have m3 : z % 3 < 3 := Nat.mod_lt _ (by decide)
    have ec : (1 : Int32) + (((v2 >>> (nI i &&& 31)) &&& (255 : Int32)) - ((v2 >>> (nI i &&& 31)) &&& (255 : Int32)) / (3 : Int32) * (3 : Int32)) = nI (1 + z % 3) := by
      rw [show (v2 >>> (nI i &&& 31)) &&& (255 : Int32) = nI z from ez, show nI z - nI z / (3 : Int32) * (3 : Int32) = nI (z % 3) from pk_rem (d := 3) (by omega) (by decide) (by decide)]
      exact nI_add 1 _
    by_cases hb : (v1 >>> ((nI i + (3 : Int32)) &&& 31)) &&& (1 : Int32) = (1 : Int32)
    · obtain ⟨A1, s1, g1, g2, g3, g4⟩ := lt_65 (v1 := v1) (v2 := v2) (i := i) (g := 1) (P := 1 + z % 3) (s := s) (by omega) (by decide) (by omega) (by omega) (fun q => by omega) h
      obtain ⟨A', s', f1, f2, f3⟩ := ih (i + 1) (by omega) A1 s1 (by omega) (fun _ => g1)
      refine ⟨A', s', f1, f2.trans g2, fun {σ Q} hv k => ?_⟩
      rw [kw_L_tells_23]
      refine kb_le n i (fun q => absurd q (by omega)) (fun _ => kb_ne (by decide) ?_)
      intro x ex
      rw [ec] at ex
      subst ex
      exact ⟨fun _ => g4 (by omega) hv (fun σ1 hh => f3 hh k), fun q => absurd hb q⟩
    · obtain ⟨A1, s1, g1, g2, g3, g4⟩ := lt_65 (v1 := v1) (v2 := v2) (i := i) (g := 0) (P := 1 + z % 3) (s := s) (by omega) (by decide) (by omega) (by omega) (fun q => by omega) h
      obtain ⟨A', s', f1, f2, f3⟩ := ih (i + 1) (by omega) A1 s1 (by omega) (fun _ => g1)
      refine ⟨A', s', f1, f2.trans g2, fun {σ Q} hv k => ?_⟩
      rw [kw_L_tells_23]
      refine kb_le n i (fun q => absurd q (by omega)) (fun _ => kb_ne (by decide) ?_)
      intro x ex
      rw [ec] at ex
      subst ex
      exact ⟨fun q => absurd q hb, fun _ => g4 (by omega) hv (fun σ1 hh => f3 hh k)⟩
theorem lt_tells (v1 v2 : Int32) (A : ma_X) : ∃ (A' : ma_X) (r : Int32), A'.2 = A.2 ∧ (∀ x, x < 2 ^ 31 → v1 = nI x → r = 1 ∧ kx_e A' = -9) ∧ ∀ {σ : ka_S} {Q : Int32 → ka_S → Prop}, kv σ A → (∀ σ1, kv σ1 A' → Q r σ1) → kw_L_tells σ v1 v2 Q := by
  rcases kI_rem3 v1 with ⟨n, h1, h3, e⟩ | hle
  · obtain ⟨A', s', f1, f2, f3⟩ := lt_23 (v1 := v1) (v2 := v2) h3 n 0 (Nat.zero_add _) (kx_setT A 0 (kx_t A)) mv_0 (Nat.zero_le _) (fun q => absurd q (Nat.not_lt_zero 0))
    have ee : kx_e A' = -9 := tI_e (f1 (by omega)).1 (f1 (by omega)).2.2
    refine ⟨A', 1, f2.trans rfl, fun _ _ _ => ⟨rfl, ee⟩, fun {σ Q} hv k => ?_⟩
    unfold kw_L_tells
    rw [e]
    intro x ex
    subst ex
    have hn := hv.1.1
    refine s_clearText hv (fun σ1 hh => kb_lt (kx_n A) 0 (fun q => absurd q (Nat.not_lt_zero _)) (fun _ => ⟨n + 1, f3 hh (fun σ2 hh2 => ?_)⟩))
    rw [if_pos ee]
    exact k σ2 hh2
  · refine ⟨kx_setT A 0 (kx_t A), if kx_e (kx_setT A 0 (kx_t A)) = -9 then 1 else 0, rfl, fun x hx e => ?_, fun {σ Q} hv k => ?_⟩
    · subst e
      rw [show nI x - nI x / (3 : Int32) * (3 : Int32) = nI (x % 3) from pk_rem (d := 3) hx (by decide) (by decide), show (1 : Int32) + nI (x % 3) = nI (1 + x % 3) from nI_add 1 _, show (0 : Int32) = nI 0 from rfl, nI_leI (by omega) (by decide)] at hle
      omega
    · unfold kw_L_tells
      intro x ex
      rw [← ex] at hle
      have hn := hv.1.1
      refine s_clearText hv (fun σ1 hh => kb_lt (kx_n A) 0 (fun q => absurd q (Nat.not_lt_zero _)) (fun _ => ⟨1, ?_⟩))
      rw [kw_L_tells_23]
      exact ⟨fun _ => lt_328 hh k, fun q => absurd hle q⟩
