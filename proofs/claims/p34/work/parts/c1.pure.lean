/-! ===== follows: pure facts ===== -/
theorem ma_sum_upd {f g : Nat → Nat} {a d : Nat} : ∀ {n : Nat}, (∀ k, k < n → k ≠ a → f k = g k) → a < n → f a = g a + d → ma_sum f n = ma_sum g n + d
  | 0, _, ha, _ => absurd ha (Nat.not_lt_zero a)
  | n + 1, h, ha, e => by
    show ma_sum f n + f n = ma_sum g n + g n + d
    by_cases q : a = n
    · subst q
      rw [ma_sum_congr (g := g) a (fun k hk => h k (Nat.lt_succ_of_lt hk) (Nat.ne_of_lt hk)), e]
      omega
    · rw [ma_sum_upd (fun k hk => h k (Nat.lt_succ_of_lt hk)) (by omega) e, h n (Nat.lt_succ_self n) (fun z => q z.symm)]
      omega
theorem ma_sum_ge {f : Nat → Nat} {a : Nat} : ∀ {n : Nat}, a < n → f a ≤ ma_sum f n
  | 0, ha => absurd ha (Nat.not_lt_zero a)
  | n + 1, ha => by
    show f a ≤ ma_sum f n + f n
    by_cases q : a = n
    · subst q; omega
    · have := ma_sum_ge (f := f) (a := a) (n := n) (by omega)
      omega
theorem mt_lay_same {M M' : ma_P} (h1 : ∀ i, mp_D M' i = mp_D M i) (h2 : mp_S M' = mp_S M) {W y : Nat} : ∀ i, mt_lay M' W y i = mt_lay M W y i
  | 0 => rfl
  | i + 1 => by
    show mt_step M' W y (mt_lay M' W y i) i = mt_step M W y (mt_lay M W y i) i
    rw [mt_lay_same h1 h2 i]
    unfold mt_step mf_fit
    rw [h1, h2]
theorem mt_wf_spec {M : ma_P} {r : Nat} : ∀ (n w : Nat), mt_wf M r n w = -9 ∨ ∃ v, w ≤ v ∧ v < w + n ∧ mt_wf M r n w = nI v ∧ tr (mt_lay M v (mp_Y M) (mp_N M)) ≤ r ∧ (v = w ∨ r < tr (mt_lay M (v - 1) (mp_Y M) (mp_N M)))
  | 0, _ => Or.inl rfl
  | n + 1, w => by
    rw [mt_wf]
    by_cases q : r < tr (mt_lay M w (mp_Y M) (mp_N M))
    · rw [if_pos q]
      rcases mt_wf_spec (M := M) (r := r) n (w + 1) with h | ⟨v, h1, h2, h3, h4, h5⟩
      · exact Or.inl h
      · refine Or.inr ⟨v, by omega, by omega, h3, h4, Or.inr ?_⟩
        rcases h5 with h5 | h5
        · rw [h5, Nat.add_sub_cancel]; exact q
        · exact h5
    · rw [if_neg q]
      exact Or.inr ⟨w, Nat.le_refl _, by omega, rfl, by omega, Or.inl rfl⟩
/-! gaps -/
theorem mt_gapW_spec {w : ma_W} {i : Nat} {K : Nat → Int32} : ∀ (n p g : Nat), (ma_sum (mf_gap w) (p + n) ≤ ma_sum (mf_gap w) p + g → mt_gapW w i K n p g = K (ma_sum (mf_gap w) p + g - ma_sum (mf_gap w) (p + n))) ∧ (ma_sum (mf_gap w) p + g < ma_sum (mf_gap w) (p + n) → ∃ q, q < p + n ∧ mt_gapW w i K n p g = nI (10 * i + q))
  | 0, p, g => ⟨fun _ => by show K g = K _; congr 1; rw [Nat.add_zero]; omega, fun h => by rw [Nat.add_zero] at h; omega⟩
  | n + 1, p, g => by
    have e : ma_sum (mf_gap w) (p + 1) = ma_sum (mf_gap w) p + mf_gap w p := rfl
    have e2 : p + (n + 1) = p + 1 + n := by omega
    rw [mt_gapW, e2]
    by_cases q : mw_G w p = []
    · have eg : mf_gap w p = 1 := if_pos q
      rw [if_pos q]
      by_cases z : g = 0
      · rw [if_pos z]
        have m := ma_sum_mono2 (f := mf_gap w) (show p + 1 ≤ p + 1 + n by omega)
        exact ⟨fun h => by omega, fun _ => ⟨p, by omega, rfl⟩⟩
      · rw [if_neg z]
        have ih := mt_gapW_spec (w := w) (i := i) (K := K) n (p + 1) (g - 1)
        refine ⟨fun h => ?_, fun h => ?_⟩
        · rw [ih.1 (by omega)]
          congr 1
          omega
        · exact ih.2 (by omega)
    · have eg : mf_gap w p = 0 := if_neg q
      rw [if_neg q]
      have ih := mt_gapW_spec (w := w) (i := i) (K := K) n (p + 1) g
      refine ⟨fun h => ?_, fun h => ?_⟩
      · rw [ih.1 (by omega)]
        congr 1
        omega
      · exact ih.2 (by omega)
theorem mt_gapP_spec {M : ma_P} (ok : mp_ok M) : ∀ (n i g : Nat), i + n ≤ mp_N M → (ma_sum (fun i => mt_gaps (mp_D M i)) (i + n) ≤ ma_sum (fun i => mt_gaps (mp_D M i)) i + g → mt_gapP M n i g = -9) ∧ (ma_sum (fun i => mt_gaps (mp_D M i)) i + g < ma_sum (fun i => mt_gaps (mp_D M i)) (i + n) → ∃ q, q < 1000 ∧ mt_gapP M n i g = nI q)
  | 0, i, g, _ => ⟨fun _ => rfl, fun h => by rw [Nat.add_zero] at h; omega⟩
  | n + 1, i, g, hi => by
    have hN := ok.1
    have hS := (ok.2.2.2.2.2.1 i (by omega)).1
    have e : ma_sum (fun i => mt_gaps (mp_D M i)) (i + 1) = ma_sum (fun i => mt_gaps (mp_D M i)) i + mt_gaps (mp_D M i) := rfl
    have e2 : i + (n + 1) = i + 1 + n := by omega
    have e0 : mt_gaps (mp_D M i) = ma_sum (mf_gap (mp_D M i)) (0 + mw_S (mp_D M i)) := by rw [Nat.zero_add]; rfl
    have e00 : ma_sum (mf_gap (mp_D M i)) 0 = 0 := rfl
    have sp := mt_gapW_spec (w := mp_D M i) (i := i) (K := fun g' => mt_gapP M n (i + 1) g') (mw_S (mp_D M i)) 0 g
    rw [← e0, e00, Nat.zero_add] at sp
    rw [mt_gapP, e2]
    have m := ma_sum_mono2 (f := fun i => mt_gaps (mp_D M i)) (show i + 1 ≤ i + 1 + n by omega)
    rcases Nat.lt_or_ge g (mt_gaps (mp_D M i)) with z | z
    · obtain ⟨q, hq, eq⟩ := sp.2 z
      refine ⟨fun h => by omega, fun _ => ⟨10 * i + q, by omega, eq⟩⟩
    · have ih := mt_gapP_spec ok n (i + 1) (g - mt_gaps (mp_D M i)) (by omega)
      rw [sp.1 z]
      exact ⟨fun h => ih.1 (by omega), fun h => ih.2 (by omega)⟩
/-! fill -/
theorem mf_gap_setG {w : ma_W} {p q : Nat} {g : List Nat} (h : q ≠ p) : mf_gap (mw_setG w p g) q = mf_gap w q := by
  have e : mw_G (mw_setG w p g) q = mw_G w q := if_neg h
  unfold mf_gap
  rw [e]
theorem mt_gaps_setG {w : ma_W} {p : Nat} {g : List Nat} (hp : p < mw_S w) (h0 : mw_G w p = []) (hg : g ≠ []) : mt_gaps w = mt_gaps (mw_setG w p g) + 1 := by
  have e : mw_G (mw_setG w p g) p = g := if_pos rfl
  show ma_sum (mf_gap w) (mw_S w) = ma_sum (mf_gap (mw_setG w p g)) (mw_S w) + 1
  refine ma_sum_upd (a := p) (fun k _ hk => (mf_gap_setG hk).symm) hp ?_
  unfold mf_gap
  rw [e, if_pos h0, if_neg hg]
theorem mt_gapsP_setG {M : ma_P} {i p : Nat} {g : List Nat} (hi : i < mp_N M) (hp : p < mw_S (mp_D M i)) (h0 : mw_G (mp_D M i) p = []) (hg : g ≠ []) : mt_gapsP M = mt_gapsP (mp_setG M i p g) + 1 := by
  show ma_sum (fun i => mt_gaps (mp_D M i)) (mp_N M) = ma_sum (fun j => mt_gaps (mp_D (mp_setG M i p g) j)) (mp_N M) + 1
  refine ma_sum_upd (a := i) (fun k _ hk => ?_) hi ?_
  · have e : mp_D (mp_setG M i p g) k = mp_D M k := if_neg hk
    show mt_gaps (mp_D M k) = mt_gaps (mp_D (mp_setG M i p g) k)
    rw [e]
  · have e : mp_D (mp_setG M i p g) i = mw_setG (mp_D M i) p g := if_pos rfl
    show mt_gaps (mp_D M i) = mt_gaps (mp_D (mp_setG M i p g) i) + 1
    rw [e]
    exact mt_gaps_setG hp h0 hg
def mk_cl (M : ma_P) (i p : Nat) : Prop := ¬ (mw_G (mp_D M i) p = [] ∧ mq_find M (mw_P (mp_D M i) p) < mp_L M)
theorem mu_fill_sum {s : ma_P × Nat} {i p : Nat} (ok : mp_ok s.1) (hi : i < mp_N s.1) (hp : p < mw_S (mp_D s.1 i)) : mt_gapsP (mu_fill s i p).1 + (mu_fill s i p).2 = mt_gapsP s.1 + s.2 := by
  unfold mu_fill
  by_cases q : mw_G (mp_D s.1 i) p = [] ∧ mq_find s.1 (mw_P (mp_D s.1 i) p) < mp_L s.1
  · rw [if_pos q]
    have := mt_gapsP_setG hi hp q.1 (ok.2.2.2.2.2.2 _ q.2).2.2
    show mt_gapsP (mp_setG s.1 i p (mp_B s.1 (mq_find s.1 (mw_P (mp_D s.1 i) p)))) + (s.2 + 1) = _
    omega
  · rw [if_neg q]
theorem mu_fill_id {s : ma_P × Nat} {i p : Nat} (h : mk_cl s.1 i p) : mu_fill s i p = s := if_neg h
theorem mk_setG {M : ma_P} {i p j q : Nat} {g : List Nat} (hg : g ≠ []) (h : mk_cl M j q ∨ (j = i ∧ q = p)) : mk_cl (mp_setG M i p g) j q := by
  intro z
  have z1 : mw_G (if j = i then mw_setG (mp_D M i) p g else mp_D M j) q = [] := z.1
  have z2 : mq_find M (mw_P (if j = i then mw_setG (mp_D M i) p g else mp_D M j) q) < mp_L M := z.2
  by_cases e : j = i
  · rw [if_pos e] at z1 z2
    have z1' : (if q = p then g else mw_G (mp_D M i) q) = [] := z1
    by_cases e2 : q = p
    · rw [if_pos e2] at z1'
      exact hg z1'
    · rw [if_neg e2] at z1'
      rcases h with h | h
      · subst e
        exact h ⟨z1', z2⟩
      · exact e2 h.2
  · rw [if_neg e] at z1 z2
    rcases h with h | h
    · exact h ⟨z1, z2⟩
    · exact e h.1
theorem mu_fill_cl {s : ma_P × Nat} {i p j q : Nat} (ok : mp_ok s.1) (h : mk_cl s.1 j q ∨ (j = i ∧ q = p)) : mk_cl (mu_fill s i p).1 j q := by
  unfold mu_fill
  by_cases z : mw_G (mp_D s.1 i) p = [] ∧ mq_find s.1 (mw_P (mp_D s.1 i) p) < mp_L s.1
  · rw [if_pos z]
    exact mk_setG (ok.2.2.2.2.2.2 _ z.2).2.2 h
  · rw [if_neg z]
    rcases h with h | ⟨h1, h2⟩
    · exact h
    · subst h1 h2
      exact z
theorem mt_fillW_S {i : Nat} : ∀ (n p : Nat) (s : ma_P × Nat) (j : Nat), mw_S (mp_D (mt_fillW i n p s).1 j) = mw_S (mp_D s.1 j)
  | 0, _, _, _ => rfl
  | n + 1, p, s, j => by
    rw [mt_fillW, mt_fillW_S n (p + 1) (mu_fill s i p) j]
    exact mu_fill_S s i p j
theorem mt_fillW_sum {i : Nat} : ∀ (n p : Nat) (s : ma_P × Nat), mp_ok s.1 → i < mp_N s.1 → p + n ≤ mw_S (mp_D s.1 i) → mt_gapsP (mt_fillW i n p s).1 + (mt_fillW i n p s).2 = mt_gapsP s.1 + s.2
  | 0, _, _, _, _, _ => rfl
  | n + 1, p, s, ok, hi, hp => by
    rw [mt_fillW, mt_fillW_sum n (p + 1) (mu_fill s i p) (mu_fill_ok ok hi) (by rw [mu_fill_N]; exact hi) (by rw [mu_fill_S]; omega)]
    exact mu_fill_sum ok hi (by omega)
theorem mt_fillW_cl {i : Nat} : ∀ (n p : Nat) (s : ma_P × Nat), mp_ok s.1 → i < mp_N s.1 → ∀ j q, (mk_cl s.1 j q ∨ (j = i ∧ p ≤ q ∧ q < p + n)) → mk_cl (mt_fillW i n p s).1 j q
  | 0, p, s, _, _, j, q, h => by
    rcases h with h | h
    · exact h
    · omega
  | n + 1, p, s, ok, hi, j, q, h => by
    rw [mt_fillW]
    refine mt_fillW_cl n (p + 1) (mu_fill s i p) (mu_fill_ok ok hi) (by rw [mu_fill_N]; exact hi) j q ?_
    rcases h with h | ⟨h1, h2, h3⟩
    · exact Or.inl (mu_fill_cl ok (Or.inl h))
    · by_cases z : q = p
      · exact Or.inl (mu_fill_cl ok (Or.inr ⟨h1, z⟩))
      · exact Or.inr ⟨h1, by omega, by omega⟩
theorem mt_fillP_S : ∀ (n i : Nat) (s : ma_P × Nat) (j : Nat), mw_S (mp_D (mt_fillP n i s).1 j) = mw_S (mp_D s.1 j)
  | 0, _, _, _ => rfl
  | n + 1, i, s, j => by
    rw [mt_fillP, mt_fillP_S n (i + 1) _ j]
    exact mt_fillW_S _ _ _ _
theorem mt_fillP_sum : ∀ (n i : Nat) (s : ma_P × Nat), mp_ok s.1 → i + n ≤ mp_N s.1 → mt_gapsP (mt_fillP n i s).1 + (mt_fillP n i s).2 = mt_gapsP s.1 + s.2
  | 0, _, _, _, _ => rfl
  | n + 1, i, s, ok, hi => by
    have w := mt_fillW_ok (mw_S (mp_D s.1 i)) 0 s ok (show i < mp_N s.1 by omega)
    rw [mt_fillP, mt_fillP_sum n (i + 1) _ w.1 (by rw [w.2]; omega)]
    exact mt_fillW_sum _ 0 s ok (by omega) (by omega)
theorem mt_fillP_cl : ∀ (n i : Nat) (s : ma_P × Nat), mp_ok s.1 → i + n ≤ mp_N s.1 → ∀ j q, (mk_cl s.1 j q ∨ (i ≤ j ∧ j < i + n ∧ q < mw_S (mp_D s.1 j))) → mk_cl (mt_fillP n i s).1 j q
  | 0, i, s, _, _, j, q, h => by
    rcases h with h | h
    · exact h
    · omega
  | n + 1, i, s, ok, hi, j, q, h => by
    have w := mt_fillW_ok (mw_S (mp_D s.1 i)) 0 s ok (show i < mp_N s.1 by omega)
    rw [mt_fillP]
    refine mt_fillP_cl n (i + 1) _ w.1 (by rw [w.2]; omega) j q ?_
    rcases h with h | ⟨h1, h2, h3⟩
    · exact Or.inl (mt_fillW_cl _ 0 s ok (by omega) j q (Or.inl h))
    · by_cases z : j = i
      · subst z
        exact Or.inl (mt_fillW_cl _ 0 s ok (by omega) j q (Or.inr ⟨rfl, Nat.zero_le _, by omega⟩))
      · exact Or.inr ⟨by omega, by omega, by rw [mt_fillW_S]; exact h3⟩
theorem mt_fillW_id {i : Nat} : ∀ (n p : Nat) (s : ma_P × Nat), (∀ q, p ≤ q → q < p + n → mk_cl s.1 i q) → mt_fillW i n p s = s
  | 0, _, _, _ => rfl
  | n + 1, p, s, h => by
    rw [mt_fillW, mu_fill_id (h p (Nat.le_refl _) (by omega))]
    exact mt_fillW_id n (p + 1) s (fun q h1 h2 => h q (by omega) (by omega))
theorem mt_fillP_id : ∀ (n i : Nat) (s : ma_P × Nat), (∀ j, i ≤ j → j < i + n → ∀ q, q < mw_S (mp_D s.1 j) → mk_cl s.1 j q) → mt_fillP n i s = s
  | 0, _, _, _ => rfl
  | n + 1, i, s, h => by
    rw [mt_fillP, mt_fillW_id _ 0 s (fun q _ h2 => h i (Nat.le_refl _) (by omega) q (by omega))]
    exact mt_fillP_id n (i + 1) s (fun j h1 h2 => h j (by omega) (by omega))
theorem mt_fill_sum {M : ma_P} (ok : mp_ok M) : mt_gapsP (mt_fill M).1 + (mt_fill M).2 = mt_gapsP M := mt_fillP_sum (mp_N M) 0 (M, 0) ok (by show 0 + mp_N M ≤ mp_N M; omega)
theorem mt_fill_two {M : ma_P} (ok : mp_ok M) : (mt_fill (mt_fill M).1).2 = 0 := by
  have eN : mp_N (mt_fill M).1 = mp_N M := congrArg (fun t => t.1.1) (mt_fill_x M).1
  have e : mt_fill (mt_fill M).1 = ((mt_fill M).1, 0) := mt_fillP_id (mp_N (mt_fill M).1) 0 ((mt_fill M).1, 0) (fun j _ h2 q hq => by
    have hS : mw_S (mp_D (mt_fill M).1 j) = mw_S (mp_D M j) := mt_fillP_S (mp_N M) 0 (M, 0) j
    have hq' : q < mw_S (mp_D (mt_fill M).1 j) := hq
    exact mt_fillP_cl (mp_N M) 0 (M, 0) ok (by show 0 + mp_N M ≤ mp_N M; omega) j q (Or.inr ⟨Nat.zero_le _, by omega, by show q < mw_S (mp_D M j); omega⟩))
  rw [e]
/-! sentences -/
theorem mt_sent_end {M : ma_P} {i : Nat} (hi : i < mp_N M) : mt_sent (mp_setD M i (mw_end (mp_D M i))) = mt_sent M + (if mw_E (mp_D M i) = 1 ∨ i + 1 = mp_N M then 0 else 1) := by
  show ma_sum (mf_sent (mp_setD M i (mw_end (mp_D M i)))) (mp_N M) = ma_sum (mf_sent M) (mp_N M) + _
  refine ma_sum_upd (a := i) (fun k _ hk => ?_) hi ?_
  · have e : mp_D (mp_setD M i (mw_end (mp_D M i))) k = mp_D M k := if_neg hk
    unfold mf_sent
    rw [e]
    rfl
  · have e : mp_D (mp_setD M i (mw_end (mp_D M i))) i = mw_end (mp_D M i) := if_pos rfl
    unfold mf_sent
    rw [e, if_pos (show mw_E (mw_end (mp_D M i)) = 1 ∨ i + 1 = mp_N (mp_setD M i (mw_end (mp_D M i))) from Or.inl rfl)]
    split <;> rfl
theorem mt_sent_join {M : ma_P} {i : Nat} (hi : i < mp_N M) (hE : mw_E (mp_D M i) ≤ 1) : mt_sent M = mt_sent (mp_setD M i (mw_join (mp_D M i))) + (if mw_E (mp_D M i) = 1 ∧ i + 1 ≠ mp_N M then 1 else 0) := by
  show ma_sum (mf_sent M) (mp_N M) = ma_sum (mf_sent (mp_setD M i (mw_join (mp_D M i)))) (mp_N M) + _
  refine ma_sum_upd (a := i) (fun k _ hk => ?_) hi ?_
  · have e : mp_D (mp_setD M i (mw_join (mp_D M i))) k = mp_D M k := if_neg hk
    unfold mf_sent
    rw [e]
    rfl
  · have e : mp_D (mp_setD M i (mw_join (mp_D M i))) i = mw_join (mp_D M i) := if_pos rfl
    have e0 : mw_E (mw_join (mp_D M i)) = 0 := rfl
    have eN : mp_N (mp_setD M i (mw_join (mp_D M i))) = mp_N M := rfl
    unfold mf_sent
    rw [e, e0, eN]
    by_cases q : i + 1 = mp_N M
    · rw [if_pos (Or.inr q), if_pos (Or.inr q), if_neg (fun z => z.2 q)]
    · rw [if_neg (show ¬ ((0 : Nat) = 1 ∨ i + 1 = mp_N M) by omega)]
      by_cases q2 : mw_E (mp_D M i) = 1
      · rw [if_pos (Or.inl q2), if_pos ⟨q2, q⟩]
      · rw [if_neg (by omega), if_neg (fun z => q2 z.1)]
/-! the part used most -/
def mk_pl (M : ma_P) (v : Int32) : Prop := ∃ a b, a < mp_N M ∧ b < mw_S (mp_D M a) ∧ v = nI (10 * a + b)
theorem mt_use_pos {M : ma_P} {i p : Nat} (hi : i < mp_N M) (hp : p < mw_S (mp_D M i)) : 1 ≤ mt_use M (mw_P (mp_D M i) p) := by
  have h1 : mf_use M (mw_P (mp_D M i) p) i p = 1 := if_pos rfl
  have h2 := ma_sum_ge (f := mf_use M (mw_P (mp_D M i) p) i) hp
  have h3 := ma_sum_ge (f := mt_useW M (mw_P (mp_D M i) p)) hi
  have h4 : mt_useW M (mw_P (mp_D M i) p) i = ma_sum (mf_use M (mw_P (mp_D M i) p) i) (mw_S (mp_D M i)) := rfl
  have h5 : mt_use M (mw_P (mp_D M i) p) = ma_sum (mt_useW M (mw_P (mp_D M i) p)) (mp_N M) := rfl
  omega
def mk_J (M : ma_P) (s : ma_U) : Prop := s.2.1 = 0 ∨ mk_pl M s.1
theorem mk_pick {M : ma_P} {s : ma_U} {a b c : Nat} {l : List Nat} {t : Prop} [Decidable t] (ha : a < mp_N M) (hb : b < mw_S (mp_D M a)) (hc : 1 ≤ c) (h : mk_J M s) : mk_pl M (mu_pick s (10 * a + b) c l t).1 := by
  unfold mu_pick
  split
  · exact ⟨a, b, ha, hb, rfl⟩
  · rcases h with h | h
    · omega
    · exact h
theorem mk_mostW {M : ma_P} {i : Nat} (hi : i < mp_N M) : ∀ (n p : Nat) (s : ma_U), p + n ≤ mw_S (mp_D M i) → (mk_J M s → mk_J M (mt_mostW M i n p s)) ∧ (mk_J M s → 0 < n → mk_pl M (mt_mostW M i n p s).1) ∧ (mk_pl M s.1 → mk_pl M (mt_mostW M i n p s).1)
  | 0, _, _, _ => ⟨fun h => h, fun _ h => absurd h (Nat.lt_irrefl 0), fun h => h⟩
  | n + 1, p, s, hp => by
    have ih := fun s' => mk_mostW hi n (p + 1) s' (by omega)
    have pk := fun (h : mk_J M s) => mk_pick (l := mw_P (mp_D M i) p) (t := ma_C (mw_P (mp_D M i) p) < ma_C s.2.2) hi (show p < _ by omega) (mt_use_pos hi (show p < _ by omega)) h
    rw [mt_mostW]
    exact ⟨fun h => Or.inr ((ih _).2.2 (pk h)), fun h _ => (ih _).2.2 (pk h), fun h => (ih _).2.2 (pk (Or.inr h))⟩
theorem mk_mostP {M : ma_P} (ok : mp_ok M) : ∀ (n i : Nat) (s : ma_U), i + n ≤ mp_N M → (mk_pl M s.1 → mk_pl M (mt_mostP M n i s).1) ∧ (mk_J M s → 0 < n → mk_pl M (mt_mostP M n i s).1)
  | 0, _, _, _ => ⟨fun h => h, fun _ h => absurd h (Nat.lt_irrefl 0)⟩
  | n + 1, i, s, hi => by
    have hS := (ok.2.2.2.2.2.1 i (by omega)).1
    have w := mk_mostW (show i < mp_N M by omega) (mw_S (mp_D M i)) 0 s (by omega)
    have ih := fun s' => mk_mostP ok n (i + 1) s' (by omega)
    rw [mt_mostP]
    exact ⟨fun h => (ih _).1 (w.2.2 h), fun h _ => (ih _).1 (w.2.1 h (by omega))⟩
theorem mi_most_pl {M : ma_P} (ok : mp_ok M) (hN : 0 < mp_N M) : mk_pl M (mi_most M) := (mk_mostP ok (mp_N M) 0 (-9, 0, []) (by omega)).2 (Or.inl rfl) hN
/-! learn, forget -/
theorem mp_learn_L {M : ma_P} {l g : List Nat} : mp_L (mp_learn M l g) = mp_L M + (if mq_find M l < mp_L M then 0 else 1) := by
  unfold mp_learn
  by_cases q : mq_find M l < mp_L M
  · rw [if_pos q, if_pos q]; rfl
  · rw [if_neg q, if_neg q]; rfl
theorem mp_learn_D {M : ma_P} {l g : List Nat} : (mp_learn M l g).2.1 = M.2.1 := by
  unfold mp_learn
  split <;> rfl
theorem mp_learn_N {M : ma_P} {l g : List Nat} : mp_N (mp_learn M l g) = mp_N M := by
  unfold mp_learn
  split <;> rfl
theorem mp_learn_B {M : ma_P} {l g : List Nat} (ok : mp_ok M) (so : mp_so M) (hl : ma_g l) : mq_find (mp_learn M l g) l < mp_L (mp_learn M l g) ∧ mp_B (mp_learn M l g) (mq_find (mp_learn M l g) l) = g := by
  have so' := mp_so_learn (g := g) ok so hl
  have pl := mt_pos_le M l (mp_L M)
  by_cases q : mq_find M l < mp_L M
  · have e : mp_learn M l g = (M.1, M.2.1, (mp_A M, fun e => if e = mq_find M l then g else mp_B M e)) := if_pos q
    have e2 : mq_find (mp_learn M l g) l = mq_find M l := by rw [e]; rfl
    rw [e2, e]
    exact ⟨q, if_pos rfl⟩
  · have e : mp_learn M l g = (((mp_N M, mp_L M + 1), M.1.2), M.2.1, (mf_ins (mp_A M) (mt_pos M l (mp_L M)) l, mf_ins (mp_B M) (mt_pos M l (mp_L M)) g)) := if_neg q
    have eL : mp_L (mp_learn M l g) = mp_L M + 1 := by rw [e]; rfl
    have eA : mp_A (mp_learn M l g) (mt_pos M l (mp_L M)) = l := by
      rw [e]
      show mf_ins (mp_A M) (mt_pos M l (mp_L M)) l (mt_pos M l (mp_L M)) = l
      unfold mf_ins
      rw [if_neg (Nat.lt_irrefl _), if_pos rfl]
    have eB : mp_B (mp_learn M l g) (mt_pos M l (mp_L M)) = g := by
      rw [e]
      show mf_ins (mp_B M) (mt_pos M l (mp_L M)) g (mt_pos M l (mp_L M)) = g
      unfold mf_ins
      rw [if_neg (Nat.lt_irrefl _), if_pos rfl]
    have f := mq_find_of so' (e := mt_pos M l (mp_L M)) (by omega)
    rw [eA] at f
    rw [f, eL]
    exact ⟨by omega, eB⟩
theorem mp_forget_find {M : ma_P} {e : Nat} (so : mp_so M) (he : e < mp_L M) : ¬ mq_find (mp_forget M e) (mp_A M e) < mp_L (mp_forget M e) := fun q => by
  have a := mq_find_at q
  have q' : mq_find (mp_forget M e) (mp_A M e) < mp_L M - 1 := q
  generalize mq_find (mp_forget M e) (mp_A M e) = k at a q'
  have a' : (if k < e then mp_A M k else mp_A M (k + 1)) = mp_A M e := a
  by_cases z : k < e
  · rw [if_pos z] at a'
    have := mp_so_lt2 so z he
    rw [a'] at this
    omega
  · rw [if_neg z] at a'
    have := mp_so_lt2 so (show e < k + 1 by omega) (by omega)
    rw [a'] at this
    omega
/-! the history -/
theorem mh_last {h : Nat} {H : Nat → ma_P} {M : ma_P} : mh_H h H M (mh_n h - 1) = M := by
  unfold mh_H mh_n
  by_cases q : h = 14
  · rw [if_pos q, if_pos q, if_pos (by omega)]
  · rw [if_neg q, if_neg q, if_pos (by omega)]
theorem mh_last2 {h : Nat} {H : Nat → ma_P} {M M1 : ma_P} (hh : h ≤ 14) : mh_H (mh_n h) (mh_H h H M) M1 (mh_n (mh_n h) - 1 - 1) = M := by
  by_cases q : h = 14
  · subst q
    rfl
  · have e : mh_n h = h + 1 := if_neg q
    rw [e]
    by_cases q2 : h + 1 = 14
    · obtain rfl : h = 13 := by omega
      rfl
    · have e2 : mh_n (h + 1) = h + 1 + 1 := if_neg q2
      rw [e2]
      unfold mh_H
      rw [if_neg q2, if_neg (by omega : ¬ h + 1 + 1 - 1 - 1 = h + 1), if_neg q, if_pos (by omega)]
theorem mh_n_pos (h : Nat) : 1 ≤ mh_n h := by unfold mh_n; split <;> omega
theorem mh_n_pos2 (h : Nat) : 2 ≤ mh_n (mh_n h) := by unfold mh_n; split <;> split <;> omega
theorem kx_un1 {A : ma_X} {h : Nat} {H : Nat → ma_P} {M' : ma_P} : ∃ h' H', kx_undo (kx_act (kx_setH A h H) M') = kx_setH A h' H' := by
  refine ⟨mh_n h - 1, mh_H h H (kx_M A), ?_⟩
  show (A.1, mh_H h H (kx_M A) (mh_n h - 1), (mh_n h - 1, mh_H h H (kx_M A)), A.2.2.2) = (A.1, A.2.1, (mh_n h - 1, mh_H h H (kx_M A)), A.2.2.2)
  rw [mh_last]
  rfl
theorem kx_un2 {A : ma_X} {h : Nat} {H : Nat → ma_P} {M1 M2 : ma_P} (hh : h ≤ 14) : ∃ h' H', kx_undo (kx_undo (kx_act (kx_act (kx_setH A h H) M1) M2)) = kx_setH A h' H' := by
  refine ⟨mh_n (mh_n h) - 1 - 1, mh_H (mh_n h) (mh_H h H (kx_M A)) M1, ?_⟩
  show (A.1, mh_H (mh_n h) (mh_H h H (kx_M A)) M1 (mh_n (mh_n h) - 1 - 1), (mh_n (mh_n h) - 1 - 1, mh_H (mh_n h) (mh_H h H (kx_M A)) M1), A.2.2.2) = (A.1, A.2.1, (mh_n (mh_n h) - 1 - 1, mh_H (mh_n h) (mh_H h H (kx_M A)) M1), A.2.2.2)
  rw [mh_last2 hh]
  rfl
