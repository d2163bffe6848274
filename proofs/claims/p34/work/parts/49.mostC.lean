/-! ===== the most used part; the gaps filled (class) ===== -/
theorem mt_use_le {M : ma_P} (ok : mp_ok M) (l : List Nat) : mt_use M l ≤ 48 := by
  have hN := ok.1
  have h := ma_sum_le (f := mt_useW M l) (c := 4) (mp_N M) (fun i hi => by
    have hS := (ok.2.2.2.2.2.1 i hi).1
    have := ma_sum_le (f := mf_use M l i) (c := 1) (mw_S (mp_D M i)) (fun k _ => by
      unfold mf_use
      by_cases q : mw_P (mp_D M i) k = l
      · rw [if_pos q]; exact Nat.le_refl _
      · rw [if_neg q]; exact Nat.zero_le _)
    show ma_sum (mf_use M l i) (mw_S (mp_D M i)) ≤ 4
    omega)
  show ma_sum (mt_useW M l) (mp_N M) ≤ 48
  omega
abbrev ma_U : Type := Int32 × Nat × List Nat
def mu_pick (s : ma_U) (v c : Nat) (l : List Nat) (t : Prop) [Decidable t] : ma_U := if s.2.1 < c ∨ (c = s.2.1 ∧ t) then (nI v, c, l) else s
def mu_ok (s : ma_U) : Prop := s.2.1 ≤ 48 ∧ (ma_p s.2.2 ∨ s.2.2 = [])
theorem mu_ok.g {s : ma_U} (h : mu_ok s) : ma_g s.2.2 := by
  rcases h.2 with q | q
  · exact q.g
  · rw [q]; exact ⟨by decide, fun c hc => absurd hc List.not_mem_nil⟩
def mt_mostW (M : ma_P) (i : Nat) : Nat → Nat → ma_U → ma_U
  | 0, _, s => s
  | n + 1, p, s => mt_mostW M i n (p + 1) (mu_pick s (10 * i + p) (mt_use M (mw_P (mp_D M i) p)) (mw_P (mp_D M i) p) (ma_C (mw_P (mp_D M i) p) < ma_C s.2.2))
def mt_mostP (M : ma_P) : Nat → Nat → ma_U → ma_U
  | 0, _, s => s
  | n + 1, i, s => mt_mostP M n (i + 1) (mt_mostW M i (mw_S (mp_D M i)) 0 s)
theorem mu_pick_ok {s : ma_U} {v c : Nat} {l : List Nat} {t : Prop} [Decidable t] (h : mu_ok s) (hc : c ≤ 48) (hl : ma_p l) : mu_ok (mu_pick s v c l t) := by
  unfold mu_pick
  by_cases q : s.2.1 < c ∨ (c = s.2.1 ∧ t)
  · rw [if_pos q]; exact ⟨hc, Or.inl hl⟩
  · rw [if_neg q]; exact h
theorem sp_X4_placeOfMostUsed_22 {σ : ka_S} {o i : Nat} {M : ma_P} {K : ka_S → Int32 → Int32 → Int64 → Int32 → Prop} {Q : Int32 → ka_S → Prop} {J : ma_U → Prop} (hp : rc_P σ o M) (ok : mp_ok M) (hi : i < mp_N M)
    (h : ∀ s, mu_ok s → J s → K σ s.1 (nI s.2.1) (lN (ma_C s.2.2)) (nI (i + 1))) :
    ∀ (n k m : Nat) (s : ma_U), k + m = mw_S (mp_D M i) → m < n → mu_ok s → J (mt_mostW M i m k s) → kw_X4_placeOfMostUsed_22 o K Q n σ s.1 (nI s.2.1) (lN (ma_C s.2.2)) (nI i) (nI k) := by
  intro n
  induction n with
  | zero => intro k m s h1 h2; omega
  | succ n ih =>
    intro k m s h1 h2 hs hJ
    have hN := ok.1
    have hS := (ok.2.2.2.2.2.1 i hi).1
    have hii : vp_in (nI i) 12 := (kI_in (by omega)).mpr (by omega)
    rw [kw_X4_placeOfMostUsed_22]
    refine ⟨hii, ?_⟩
    rw [nI_clamp (by omega), (hp.2.2 i hi).1.1]
    refine ⟨fun q => ?_, fun q => ⟨hii, (kI_in (by omega)).mpr ?_, ?_⟩⟩
    · simp (disch := omega) only [nI_leI, nI_ltI, nI_eq, nI_add, nI_clamp, kI_in, pk_mul, pk_sub, kI_lit, kI_litL, nI_l, lN_i, lN_add, pk_lEQ, forall_eq, kI_m1, Nat.reduceAdd, Nat.reduceMul, Nat.reduceSub, Nat.reduceLT, Nat.reduceLeDiff, Nat.reduceEqDiff, Nat.reducePow, Nat.reduceMod, Nat.reduceDiv, true_implies, false_implies, and_true, true_and, not_true_eq_false, not_false_eq_true, implies_true, Nat.zero_add, Nat.add_zero] at q
      obtain rfl : m = 0 := by omega
      rw [forall_eq, show (nI i + 1 : Int32) = nI (i + 1) from nI_1 i]
      exact h s hs hJ
    · simp (disch := omega) only [nI_leI, nI_ltI, nI_eq, nI_add, nI_clamp, kI_in, pk_mul, pk_sub, kI_lit, kI_litL, nI_l, lN_i, lN_add, pk_lEQ, forall_eq, kI_m1, Nat.reduceAdd, Nat.reduceMul, Nat.reduceSub, Nat.reduceLT, Nat.reduceLeDiff, Nat.reduceEqDiff, Nat.reducePow, Nat.reduceMod, Nat.reduceDiv, true_implies, false_implies, and_true, true_and, not_true_eq_false, not_false_eq_true, implies_true, Nat.zero_add, Nat.add_zero] at q
      omega
    · simp (disch := omega) only [nI_leI, nI_ltI, nI_eq, nI_add, nI_clamp, kI_in, pk_mul, pk_sub, kI_lit, kI_litL, nI_l, lN_i, lN_add, pk_lEQ, forall_eq, kI_m1, Nat.reduceAdd, Nat.reduceMul, Nat.reduceSub, Nat.reduceLT, Nat.reduceLeDiff, Nat.reduceEqDiff, Nat.reducePow, Nat.reduceMod, Nat.reduceDiv, true_implies, false_implies, and_true, true_and, not_true_eq_false, not_false_eq_true, implies_true, Nat.zero_add, Nat.add_zero] at q
      obtain ⟨m, rfl⟩ : ∃ m', m = m' + 1 := ⟨m - 1, by omega⟩
      have hk : k < mw_S (mp_D M i) := by omega
      have hw := (ok.2.2.2.2.2.1 i hi).2.2.2.2.1 k hk
      unfold mt_mostW at hJ
      have hu := mt_use_le ok (mw_P (mp_D M i) k)
      have hs1 := hs.1
      have b1 := ma_C_lt hw.1.g
      have b2 := ma_C_lt hs.g
      have cmp : ma_C (mw_P (mp_D M i) k) < ma_C s.2.2 ↔ ma_C (mw_P (mp_D M i) k) < ma_C s.2.2 := Iff.rfl
      have hok := mu_pick_ok (v := 10 * i + k) (t := ma_C (mw_P (mp_D M i) k) < ma_C s.2.2) hs hu hw.1
      have hn := ih (k + 1) m _ (by omega) (by omega) hok hJ
      rw [forall_eq, nI_clamp (by omega), rc_p (hp.2.2 i hi) hk]
      refine sp_X4_countUses hp ok hw.1.g ?_
      have yes : s.2.1 < mt_use M (mw_P (mp_D M i) k) ∨ (mt_use M (mw_P (mp_D M i) k) = s.2.1 ∧ ma_C (mw_P (mp_D M i) k) < ma_C s.2.2) → kw_X4_placeOfMostUsed_79 o K (kw_X4_placeOfMostUsed_22 o K Q n) Q σ (nI i) (nI k) (lN (ma_C (mw_P (mp_D M i) k))) (nI (mt_use M (mw_P (mp_D M i) k))) := by
        intro c
        unfold mu_pick at hn
        rw [if_pos c] at hn
        unfold kw_X4_placeOfMostUsed_79
        simp (disch := omega) only [nI_leI, nI_ltI, nI_eq, nI_add, nI_clamp, kI_in, pk_mul, pk_sub, kI_lit, kI_litL, nI_l, lN_i, lN_add, pk_lEQ, forall_eq, kI_m1, Nat.reduceAdd, Nat.reduceMul, Nat.reduceSub, Nat.reduceLT, Nat.reduceLeDiff, Nat.reduceEqDiff, Nat.reducePow, Nat.reduceMod, Nat.reduceDiv, true_implies, false_implies, and_true, true_and, not_true_eq_false, not_false_eq_true, implies_true, Nat.zero_add, Nat.add_zero]
        exact hn
      have no : ¬ (s.2.1 < mt_use M (mw_P (mp_D M i) k) ∨ (mt_use M (mw_P (mp_D M i) k) = s.2.1 ∧ ma_C (mw_P (mp_D M i) k) < ma_C s.2.2)) → kw_X4_placeOfMostUsed_22 o K Q n σ s.1 (nI s.2.1) (lN (ma_C s.2.2)) (nI i) (nI (k + 1)) := by
        intro c
        unfold mu_pick at hn
        rw [if_neg c] at hn
        exact hn
      refine ⟨fun z => ?_, fun z => ⟨fun z2 => ⟨fun z3 => ?_, fun z3 => ?_⟩, fun z2 => ?_⟩⟩
      · rw [nI_ltI (by omega) (by omega)] at z
        exact yes (Or.inl z)
      · rw [nI_ltI (by omega) (by omega)] at z
        rw [nI_eq (by omega) (by omega)] at z2
        rw [pk_lLE (by omega) (by omega)] at z3
        rw [forall_eq, show (nI k + 1 : Int32) = nI (k + 1) from nI_1 k]
        refine no (fun q => ?_)
        rcases q with q | q
        · exact z q
        · have := cmp.mpr q.2
          omega
      · rw [nI_eq (by omega) (by omega)] at z2
        rw [pk_lLE (by omega) (by omega)] at z3
        exact yes (Or.inr ⟨z2, cmp.mp (by omega)⟩)
      · rw [nI_ltI (by omega) (by omega)] at z
        rw [nI_eq (by omega) (by omega)] at z2
        rw [forall_eq, show (nI k + 1 : Int32) = nI (k + 1) from nI_1 k]
        exact no (fun q => by rcases q with q | q <;> omega)
theorem mt_mostW_ok {M : ma_P} (ok : mp_ok M) {i : Nat} (hi : i < mp_N M) : ∀ (m k : Nat) (s : ma_U), k + m = mw_S (mp_D M i) → mu_ok s → mu_ok (mt_mostW M i m k s) := by
  intro m
  induction m with
  | zero => intro k s _ h; exact h
  | succ m ih =>
    intro k s h1 h
    unfold mt_mostW
    exact ih (k + 1) _ (by omega) (mu_pick_ok h (mt_use_le ok _) ((ok.2.2.2.2.2.1 i hi).2.2.2.2.1 k (by omega)).1)
theorem sp_X4_placeOfMostUsed_10 {σ : ka_S} {o : Nat} {M : ma_P} {Q : Int32 → ka_S → Prop} (hp : rc_P σ o M) (ok : mp_ok M) :
    ∀ (n k m : Nat) (s : ma_U), k + m = mp_N M → m < n → mu_ok s → Q (mt_mostP M m k s).1 σ → kw_X4_placeOfMostUsed_10 o Q n σ s.1 (nI s.2.1) (lN (ma_C s.2.2)) (nI k) := by
  intro n
  induction n with
  | zero => intro k m s h1 h2; omega
  | succ n ih =>
    intro k m s h1 h2 hs hJ
    have hN := ok.1
    rw [kw_X4_placeOfMostUsed_10, hp.1.1]
    refine ⟨fun q => ?_, fun q => ?_⟩
    · simp (disch := omega) only [nI_leI, nI_ltI, nI_eq, nI_add, nI_clamp, kI_in, pk_mul, pk_sub, kI_lit, kI_litL, nI_l, lN_i, lN_add, pk_lEQ, forall_eq, kI_m1, Nat.reduceAdd, Nat.reduceMul, Nat.reduceSub, Nat.reduceLT, Nat.reduceLeDiff, Nat.reduceEqDiff, Nat.reducePow, Nat.reduceMod, Nat.reduceDiv, true_implies, false_implies, and_true, true_and, not_true_eq_false, not_false_eq_true, implies_true, Nat.zero_add, Nat.add_zero] at q
      obtain rfl : m = 0 := by omega
      exact hJ
    · simp (disch := omega) only [nI_leI, nI_ltI, nI_eq, nI_add, nI_clamp, kI_in, pk_mul, pk_sub, kI_lit, kI_litL, nI_l, lN_i, lN_add, pk_lEQ, forall_eq, kI_m1, Nat.reduceAdd, Nat.reduceMul, Nat.reduceSub, Nat.reduceLT, Nat.reduceLeDiff, Nat.reduceEqDiff, Nat.reducePow, Nat.reduceMod, Nat.reduceDiv, true_implies, false_implies, and_true, true_and, not_true_eq_false, not_false_eq_true, implies_true, Nat.zero_add, Nat.add_zero] at q
      obtain ⟨m, rfl⟩ : ∃ m', m = m' + 1 := ⟨m - 1, by omega⟩
      have hk : k < mp_N M := by omega
      exact ⟨5, sp_X4_placeOfMostUsed_22 (J := fun s => Q (mt_mostP M m (k + 1) s).1 σ) hp ok hk (fun s hs h => ih (k + 1) m s (by omega) (by omega) hs h) 5 0 _ s (Nat.zero_add _) (by have := (ok.2.2.2.2.2.1 k hk).1; omega) hs hJ⟩
def mi_most (M : ma_P) : Int32 := (mt_mostP M (mp_N M) 0 (-9, 0, [])).1
theorem sp_X4_placeOfMostUsed {σ : ka_S} {o : Nat} {M : ma_P} {Q : Int32 → ka_S → Prop} (hp : rc_P σ o M) (ok : mp_ok M) (h : Q (mi_most M) σ) : kw_X4_placeOfMostUsed σ o Q :=
  ⟨13, sp_X4_placeOfMostUsed_10 hp ok 13 0 _ (-9, 0, []) (Nat.zero_add _) (by have := ok.1; omega) ⟨by decide, Or.inr rfl⟩ h⟩
/-- a gloss is set -/
def mw_setG (w : ma_W) (p : Nat) (g : List Nat) : ma_W := (w.1, (w.2.1.1, fun q => if q = p then g else w.2.1.2 q), w.2.2)
def mp_setG (M : ma_P) (i p : Nat) (g : List Nat) : ma_P := (M.1, (fun j => if j = i then mw_setG (mp_D M i) p g else mp_D M j), M.2.2)
theorem mw_setG_ok {w : ma_W} {p : Nat} {g : List Nat} (ok : mw_ok w) (hg : ma_g g) : mw_ok (mw_setG w p g) := by
  refine ⟨ok.1, ok.2.1, ok.2.2.1, ok.2.2.2.1, fun q hq => ⟨(ok.2.2.2.2.1 q hq).1, ?_, (ok.2.2.2.2.1 q hq).2.2⟩, ok.2.2.2.2.2⟩
  show ma_g (if q = p then g else mw_G w q)
  by_cases e : q = p
  · rw [if_pos e]; exact hg
  · rw [if_neg e]; exact (ok.2.2.2.2.1 q hq).2.1
theorem mp_setG_ok {M : ma_P} {i p : Nat} {g : List Nat} (ok : mp_ok M) (hi : i < mp_N M) (hg : ma_g g) : mp_ok (mp_setG M i p g) := by
  refine ⟨ok.1, ok.2.1, ok.2.2.1, ok.2.2.2.1, ok.2.2.2.2.1, fun j hj => ?_, ok.2.2.2.2.2.2⟩
  show mw_ok (if j = i then mw_setG (mp_D M i) p g else mp_D M j)
  by_cases e : j = i
  · rw [if_pos e]; exact mw_setG_ok (ok.2.2.2.2.2.1 i hi) hg
  · rw [if_neg e]; exact ok.2.2.2.2.2.1 j hj
theorem rc_P_setG {σ : ka_S} {o i p : Nat} {M : ma_P} {g : List Nat} {x : Int64} (hp : rc_P σ o M) (hi : i < mp_N M) (hx : x = lN (ma_C g)) : rc_P (ka_wL σ (7, o, i) p x) o (mp_setG M i p g) := by
  refine ⟨hp.1, ⟨hp.2.1.1, fun e he => ?_⟩, fun j hj => ?_⟩
  · simp only [st_I, st_L, st_I2, st_L1, Prod.mk.injEq, Nat.reduceEqDiff, false_and, and_false, true_and, and_true, and_self, if_false, if_true, reduceIte]
    exact hp.2.1.2 e he
  · show rc_W _ o j (if j = i then mw_setG (mp_D M i) p g else mp_D M j)
    by_cases e : j = i
    · subst e
      rw [if_pos rfl]
      have hw := hp.2.2 j hj
      refine ⟨hw.1, fun q hq => ?_, hw.2.2⟩
      simp only [st_I, st_L, st_I2, st_L1, Prod.mk.injEq, Nat.reduceEqDiff, false_and, and_false, true_and, and_true, and_self, if_false, if_true, reduceIte]
      refine ⟨(hw.2.1 q hq).1, ?_, (hw.2.1 q hq).2.2⟩
      show _ = lN (ma_C (if q = p then g else mw_G (mp_D M j) q))
      by_cases e : q = p
      · rw [if_pos e, if_pos e, hx]
      · rw [if_neg e, if_neg e]
        exact (hw.2.1 q hq).2.1
    · rw [if_neg e]
      have hw := hp.2.2 j hj
      refine ⟨hw.1, fun q hq => ?_, hw.2.2⟩
      simp only [st_I, st_L, st_I2, st_L1, Prod.mk.injEq, Nat.reduceEqDiff, false_and, and_false, true_and, and_true, and_self, if_false, if_true, reduceIte]
      rw [if_neg (fun q => e q.1)]
      exact hw.2.1 q hq
