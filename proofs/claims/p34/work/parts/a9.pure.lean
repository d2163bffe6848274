/-! ===== pages: sums, lines, rows, letters in order ===== -/
theorem ma_sum_three {f g h : Nat → Nat} : ∀ (n : Nat), (∀ k, k < n → f k + g k ≤ h k) → ma_sum f n + ma_sum g n ≤ ma_sum h n
  | 0, _ => Nat.le_refl _
  | n + 1, hh => by
    have h1 := ma_sum_three n (fun k hk => hh k (Nat.lt_succ_of_lt hk))
    have h2 := hh n (Nat.lt_succ_self n)
    show ma_sum f n + f n + (ma_sum g n + g n) ≤ ma_sum h n + h n
    omega
theorem ma_sum_id1 : ∀ n, ma_sum (fun _ => 1) n = n
  | 0 => rfl
  | n + 1 => by show ma_sum (fun _ => 1) n + 1 = n + 1; rw [ma_sum_id1 n]
theorem mt_width_ge {w : ma_W} (y : Nat) : (mw_S w - 1) + ma_sum (mf_p w) (mw_S w) ≤ mt_width w y := by
  unfold mt_width
  have h := ma_sum_le2 (f := mf_p w) (g := mf_x w) (mw_S w) (fun k _ => Nat.le_max_left _ _)
  split
  · omega
  · have := Nat.le_max_left (ma_sum (mf_p w) (mw_S w)) (ma_sum (mf_s w) (mw_S w))
    omega
def mf_most (w : ma_W) (p : Nat) : Nat := mf_p w p + (mw_G w p).length + 1
theorem mf_s_le1 (w : ma_W) (p : Nat) : mf_s w p ≤ (mw_G w p).length + 1 := by
  unfold mf_s mw_sg
  split
  · show 1 ≤ _
    omega
  · omega
theorem mt_width_most {w : ma_W} (y : Nat) : mt_width w y ≤ (mw_S w - 1) + ma_sum (mf_most w) (mw_S w) := by
  unfold mt_width
  have h1 := ma_sum_le2 (f := mf_p w) (g := mf_most w) (mw_S w) (fun k _ => by unfold mf_most; omega)
  have h2 := ma_sum_le2 (f := mf_s w) (g := mf_most w) (mw_S w) (fun k _ => by have := mf_s_le1 w k; unfold mf_most; omega)
  have h3 := ma_sum_le2 (f := mf_x w) (g := mf_most w) (mw_S w) (fun k _ => by
    have := mf_s_le1 w k
    unfold mf_x mf_most
    omega)
  split
  · omega
  · omega
theorem mt_diff_gaps (M : ma_P) : mt_diff M + mt_gapsP M ≤ mt_parts M := by
  refine ma_sum_three (mp_N M) (fun i _ => ?_)
  have h := ma_sum_three (f := mf_diff M i) (g := mf_gap (mp_D M i)) (h := fun _ => 1) (mw_S (mp_D M i)) (fun p _ => by
    unfold mf_diff mf_gap
    by_cases q : mw_G (mp_D M i) p = []
    · rw [if_neg (fun z => z.1 q), if_pos q]; exact Nat.le_refl _
    · rw [if_neg q]
      split <;> omega)
  rw [ma_sum_id1] at h
  exact h
/-! sentences -/
def mf_ends (M : ma_P) (i : Nat) : Nat := if mw_E (mp_D M i) = 0 then 0 else 1
theorem ts_sum (M : ma_P) (W y : Nat) : ∀ i, ts (mt_lay M W y i) = ma_sum (mf_ends M) i
  | 0 => rfl
  | i + 1 => by
    show (if mw_E (mp_D M i) = 0 then ts (mt_lay M W y i) else ts (mt_lay M W y i) + 1) = ma_sum (mf_ends M) i + (if mw_E (mp_D M i) = 0 then 0 else 1)
    rw [ts_sum M W y i]
    split <;> rfl
theorem mt_sent_eq {M : ma_P} (ok : mp_ok M) (W y : Nat) (hN : 0 < mp_N M) : mt_sent M = ml_sent M W y (mp_N M - 1) + 1 := by
  obtain ⟨n, hn⟩ : ∃ n, mp_N M = n + 1 := ⟨mp_N M - 1, by omega⟩
  have e : ma_sum (mf_sent M) n = ma_sum (mf_ends M) n := ma_sum_congr n (fun k hk => by
    have hE := (ok.2.2.2.2.2.1 k (by omega)).2.1
    unfold mf_sent mf_ends
    by_cases q : mw_E (mp_D M k) = 0
    · rw [if_pos q, if_neg (by omega)]
    · rw [if_neg q, if_pos (Or.inl (by omega))])
  unfold mt_sent ml_sent
  rw [ts_sum, hn]
  show ma_sum (mf_sent M) n + mf_sent M n = ma_sum (mf_ends M) (n + 1 - 1) + 1
  rw [e, Nat.add_sub_cancel]
  congr 1
  unfold mf_sent
  rw [if_pos (Or.inr hn.symm)]
theorem ma_sum_mono2 {f : Nat → Nat} {n m : Nat} (h : n ≤ m) : ma_sum f n ≤ ma_sum f m := ma_sum_mono h
theorem ml_sent_lt {M : ma_P} (ok : mp_ok M) {W y i : Nat} (hi : i < mp_N M) : ml_sent M W y i + 1 ≤ mt_sent M := by
  rw [mt_sent_eq ok W y (by omega)]
  unfold ml_sent
  rw [ts_sum, ts_sum]
  have := ma_sum_mono2 (f := mf_ends M) (show i ≤ mp_N M - 1 by omega)
  omega
/-! rows -/
theorem ml_row_mono1 {M : ma_P} (ok : mp_ok M) {W y i : Nat} (hW : 10 ≤ W ∧ W ≤ 60) (hi : i < mp_N M) : ml_row M W y i ≤ ml_row M W y (i + 1) := by
  have t := ml_row_tr (y := y) ok hW hi
  show _ ≤ (if mf_fit M W y (mt_lay M W y (i + 1)) (i + 1) then tr (mt_lay M W y (i + 1)) else tr (mt_lay M W y (i + 1)) + 2) - 2
  split <;> omega
theorem ml_row_mono {M : ma_P} (ok : mp_ok M) {W y : Nat} (hW : 10 ≤ W ∧ W ≤ 60) : ∀ (d i : Nat), i + d < mp_N M → ml_row M W y i ≤ ml_row M W y (i + d)
  | 0, i, _ => Nat.le_refl _
  | d + 1, i, hi => Nat.le_trans (ml_row_mono ok hW d i (by omega)) (ml_row_mono1 ok hW (by omega))
theorem tr_mono1 {M : ma_P} {W y i : Nat} : tr (mt_lay M W y i) ≤ tr (mt_lay M W y (i + 1)) := by
  show _ ≤ (if mf_fit M W y (mt_lay M W y i) i then tr (mt_lay M W y i) else tr (mt_lay M W y i) + 2) + _
  split <;> omega
theorem tr_mono {M : ma_P} {W y i : Nat} : ∀ d, tr (mt_lay M W y i) ≤ tr (mt_lay M W y (i + d))
  | 0 => Nat.le_refl _
  | d + 1 => Nat.le_trans (tr_mono d) tr_mono1
def mf_h (f : Nat → Nat) : Nat → Nat → Nat
  | 0, _ => 0
  | i + 1, r => if f i = r then 1 else mf_h f i r
theorem mf_h_1 {f : Nat → Nat} {r : Nat} : ∀ {i k : Nat}, k < i → f k = r → mf_h f i r = 1
  | 0, k, h, _ => absurd h (Nat.not_lt_zero k)
  | i + 1, k, h, e => by
    rw [mf_h]
    by_cases q : f i = r
    · rw [if_pos q]
    · rw [if_neg q]
      refine mf_h_1 (k := k) ?_ e
      rcases Nat.lt_or_ge k i with z | z
      · exact z
      · obtain rfl : k = i := by omega
        exact absurd e q
theorem mf_h_0 {f : Nat → Nat} {r : Nat} : ∀ {i : Nat}, (∀ k, k < i → f k ≠ r) → mf_h f i r = 0
  | 0, _ => rfl
  | i + 1, h => by
    rw [mf_h, if_neg (h i (Nat.lt_succ_self i))]
    exact mf_h_0 (fun k hk => h k (Nat.lt_succ_of_lt hk))
theorem ma_sum_hit {g : Nat → Nat} {a : Nat} (h : g a = 0) : ∀ {R : Nat}, a < R → ma_sum (fun r => if a = r then 1 else g r) R = ma_sum g R + 1
  | 0, hR => absurd hR (Nat.not_lt_zero a)
  | R + 1, hR => by
    show ma_sum (fun r => if a = r then 1 else g r) R + (if a = R then 1 else g R) = ma_sum g R + g R + 1
    by_cases q : a = R
    · subst q
      rw [if_pos rfl, h, ma_sum_congr (g := g) a (fun k hk => if_neg (by omega))]
    · rw [if_neg q, ma_sum_hit h (by omega)]
      omega
theorem ml_row_fit {M : ma_P} (ok : mp_ok M) {W y i : Nat} (hW : 10 ≤ W ∧ W ≤ 60) (hi : i + 1 ≤ mp_N M) (q : mf_fit M W y (mt_lay M W y (i + 1)) (i + 1)) : ml_row M W y (i + 1) = ml_row M W y i := by
  have t := ml_row_tr (y := y) ok hW (show i < mp_N M by omega)
  have e : mw_E (mp_D M i) = 0 := q.1
  rw [if_pos e] at t
  show (if mf_fit M W y (mt_lay M W y (i + 1)) (i + 1) then tr (mt_lay M W y (i + 1)) else tr (mt_lay M W y (i + 1)) + 2) - 2 = _
  rw [if_pos q]
  omega
theorem ml_row_new {M : ma_P} {W y i : Nat} (q : ¬ mf_fit M W y (mt_lay M W y i) i) : ml_row M W y i = tr (mt_lay M W y i) := by
  show (if mf_fit M W y (mt_lay M W y i) i then tr (mt_lay M W y i) else tr (mt_lay M W y i) + 2) - 2 = _
  rw [if_neg q]
  omega
theorem mf_h_sum {M : ma_P} (ok : mp_ok M) {W y : Nat} (hW : 10 ≤ W ∧ W ≤ 60) : ∀ i, i ≤ mp_N M → ∀ R, tr (mt_lay M W y i) ≤ R → ma_sum (mf_h (ml_row M W y) i) R = tl (mt_lay M W y i)
  | 0, _, R, _ => by
    have : ma_sum (mf_h (ml_row M W y) 0) R ≤ R * 0 := ma_sum_le R (fun k _ => Nat.le_refl _)
    show ma_sum (mf_h (ml_row M W y) 0) R = 0
    omega
  | i + 1, hi, R, hR => by
    have ih := mf_h_sum ok (W := W) (y := y) hW i (by omega) R (Nat.le_trans tr_mono1 hR)
    have t := ml_row_tr (y := y) ok hW (show i < mp_N M by omega)
    have et : tl (mt_lay M W y (i + 1)) = if mf_fit M W y (mt_lay M W y i) i then tl (mt_lay M W y i) else tl (mt_lay M W y i) + 1 := rfl
    rw [et]
    by_cases q : mf_fit M W y (mt_lay M W y i) i
    · rw [if_pos q, ← ih]
      refine ma_sum_congr R (fun r _ => ?_)
      rw [mf_h]
      by_cases z : ml_row M W y i = r
      · rw [if_pos z]
        match i, q, hi, z with
        | 0, q, _, _ => exact absurd (show (1 : Nat) = 0 from q.1) (by decide)
        | j + 1, q, hi, z => exact (mf_h_1 (Nat.lt_succ_self j) ((ml_row_fit ok hW (by omega) q).symm.trans z)).symm
      · rw [if_neg z]
    · rw [if_neg q, ← ih]
      have e := ml_row_new q
      have h0 : mf_h (ml_row M W y) i (ml_row M W y i) = 0 := mf_h_0 (fun k hk => by
        have tk := ml_row_tr (y := y) ok hW (show k < mp_N M by omega)
        have m := tr_mono (M := M) (W := W) (y := y) (i := k + 1) (i - (k + 1))
        rw [show k + 1 + (i - (k + 1)) = i by omega] at m
        omega)
      exact ma_sum_hit h0 (by omega)
def mf_k0 (M : ma_P) (W y r : Nat) : Nat := if mr_kind M W y r = 0 then 1 else 0
theorem mf_k0_h {M : ma_P} (ok : mp_ok M) {W y r : Nat} (hW : 10 ≤ W ∧ W ≤ 60) (hr : r < tr (mt_lay M W y (mp_N M))) : mf_k0 M W y r = mf_h (ml_row M W y) (mp_N M) r := by
  have f := mr_facts ok hW hr
  have o : mr_off M W y r = r - ml_row M W y (mr_word M W y r) := rfl
  have k : mr_kind M W y r = min 2 (mr_off M W y r) := rfl
  unfold mf_k0
  by_cases q : mr_kind M W y r = 0
  · rw [if_pos q]
    exact (mf_h_1 f.1 (by omega)).symm
  · rw [if_neg q]
    refine (mf_h_0 (fun j hj e => q ?_)).symm
    have hjw : j ≤ mr_word M W y r := by
      rcases Nat.lt_or_ge (mr_word M W y r) j with z | z
      · have := f.2.2.2 j z hj
        omega
      · exact z
    have m := ml_row_mono ok (y := y) hW (mr_word M W y r - j) j (by omega)
    rw [show j + (mr_word M W y r - j) = mr_word M W y r by omega] at m
    omega
theorem mf_k0_sum {M : ma_P} (ok : mp_ok M) {W y : Nat} (hW : 10 ≤ W ∧ W ≤ 60) : ma_sum (mf_k0 M W y) (tr (mt_lay M W y (mp_N M))) = tl (mt_lay M W y (mp_N M)) := by
  rw [ma_sum_congr (g := mf_h (ml_row M W y) (mp_N M)) _ (fun r hr => mf_k0_h ok hW hr)]
  exact mf_h_sum ok hW (mp_N M) (Nat.le_refl _) _ (Nat.le_refl _)
/-- a row of glosses: the row ahead of it -/
theorem mr_kind1 {M : ma_P} (ok : mp_ok M) {W y r : Nat} (hW : 10 ≤ W ∧ W ≤ 60) (hr : r < tr (mt_lay M W y (mp_N M))) (h : mr_kind M W y r = 1) : 1 ≤ r ∧ mr_word M W y (r - 1) = mr_word M W y r ∧ mr_kind M W y (r - 1) = 0 := by
  have f := mr_facts ok hW hr
  have g := mr_facts (y := y) ok hW (show r - 1 < tr (mt_lay M W y (mp_N M)) by omega)
  have o : mr_off M W y r = r - ml_row M W y (mr_word M W y r) := rfl
  have k : mr_kind M W y r = min 2 (mr_off M W y r) := rfl
  have h1 : r - ml_row M W y (mr_word M W y r) = 1 := by omega
  have e : mr_word M W y (r - 1) = mr_word M W y r := by
    rcases Nat.lt_trichotomy (mr_word M W y (r - 1)) (mr_word M W y r) with z | z | z
    · have := g.2.2.2 _ z f.1
      omega
    · exact z
    · have := f.2.2.2 _ z g.1
      have := g.2.1
      omega
  refine ⟨by omega, e, ?_⟩
  show min 2 (r - 1 - ml_row M W y (mr_word M W y (r - 1))) = 0
  rw [e]
  omega
/-- rows: two a line, and those of free lines -/
def mf_fr (M : ma_P) (W i : Nat) : Nat := (mw_F (mp_D M i) + W - 1) / W
theorem tr_eq {M : ma_P} (ok : mp_ok M) {W y : Nat} (hW : 10 ≤ W ∧ W ≤ 60) : ∀ i, i ≤ mp_N M → tr (mt_lay M W y i) = 2 * tl (mt_lay M W y i) + ma_sum (mf_fr M W) i
  | 0, _ => rfl
  | i + 1, hi => by
    have ih := tr_eq ok (W := W) (y := y) hW i (by omega)
    have okw := ok.2.2.2.2.2.1 i (by omega)
    have e : (if mw_E (mp_D M i) = 0 then 0 else mf_row (mp_D M i) W) = mf_fr M W i := by
      by_cases q : mw_E (mp_D M i) = 0
      · rw [if_pos q]
        have hF : mw_F (mp_D M i) = 0 := by
          rcases Nat.eq_zero_or_pos (mw_F (mp_D M i)) with z | z
          · exact z
          · have := okw.2.2.2.1 z
            omega
        unfold mf_fr
        rw [hF]
        exact (Nat.div_eq_of_lt (by omega)).symm
      · rw [if_neg q]; rfl
    show (if mf_fit M W y (mt_lay M W y i) i then tr (mt_lay M W y i) else tr (mt_lay M W y i) + 2) + (if mw_E (mp_D M i) = 0 then 0 else mf_row (mp_D M i) W) = 2 * (if mf_fit M W y (mt_lay M W y i) i then tl (mt_lay M W y i) else tl (mt_lay M W y i) + 1) + (ma_sum (mf_fr M W) i + mf_fr M W i)
    rw [e]
    split <;> omega
/-! characters of rows -/
theorem mf_txt_lt {w : ma_W} (ok : mw_ok w) {line p c : Nat} (hp : p < mw_S w) (hc : c < (mf_txt w line p).length) : (mf_txt w line p).getD c 0 < 128 := by
  have hm := ma_getD_mem hc
  rcases mf_txt_s ok (line := line) hp with h | h
  · exact (h.d _ hm).2
  · rw [h] at hm ⊢
    have : [42].getD c 0 = 42 := by
      rw [h] at hc
      have : c = 0 := by
        have : c < 1 := hc
        omega
      subst this
      rfl
    omega
theorem mt_shown_lt {w : ma_W} (ok : mw_ok w) {line y : Nat} : ∀ (n c p : Nat), p < mw_S w → mt_shown w line y n c p < 128
  | 0, c, p, _ => by show 32 < 128; decide
  | n + 1, c, p, hp => by
    have hm : p + 1 < mw_S w → mw_M w (p + 1) < 128 := fun q => by
      have := (ok.2.2.2.2.1 (p + 1) q).2.2 (by omega)
      omega
    rw [mt_shown]
    split
    · split
      · exact mf_txt_lt ok hp (by assumption)
      · decide
    · split
      · split
        · exact hm (by assumption)
        · decide
      · split
        · exact mt_shown_lt ok n _ _ (by assumption)
        · decide
theorem mr_scan_lt {M : ma_P} (ok : mp_ok M) {W y r kind c : Nat} : ∀ k, k ≤ mp_N M → mr_scan M W y r kind c k < 128
  | 0, _ => by show 32 < 128; decide
  | k + 1, hk => by
    have okw := ok.2.2.2.2.2.1 k (by omega)
    rw [mr_scan]
    split
    · split
      · exact mr_scan_lt ok k (by omega)
      · exact mt_shown_lt okw _ _ _ (by have := okw.1; omega)
    · decide
theorem mr_code_in {M : ma_P} (ok : mp_ok M) {r c : Nat} (hr : r < mt_rows M) (hc : c < mr_len M (mp_W M) (mp_Y M) r) : ∃ n, n < 128 ∧ mr_code M (mp_W M) (mp_Y M) r c = nI n := by
  have f := mr_facts (y := mp_Y M) ok ok.2.2.1 hr
  unfold mr_code
  rw [if_pos hc]
  by_cases q : mr_kind M (mp_W M) (mp_Y M) r = 2
  · rw [if_pos q]
    have okw := ok.2.2.2.2.2.1 _ f.1
    have hl : mr_len M (mp_W M) (mp_Y M) r = min (mw_F (mp_D M (mr_word M (mp_W M) (mp_Y M) r)) - mr_from M (mp_W M) (mp_Y M) r) (mp_W M) := by
      unfold mr_len
      rw [if_pos q]
    have := okw.2.2.2.2.2 (mr_from M (mp_W M) (mp_Y M) r + c) (by omega)
    exact ⟨_, by omega, rfl⟩
  · rw [if_neg q]
    exact ⟨_, mr_scan_lt ok _ (by omega), rfl⟩
theorem mr_code_out {M : ma_P} {W y r c : Nat} (hc : mr_len M W y r ≤ c) : mr_code M W y r c = -9 := by
  unfold mr_code
  rw [if_neg (by omega)]
/-! letters in order -/
theorem ma_lt_first : ∀ {l l' : List Nat}, ma_lt l l' → ∃ k, k < l'.length ∧ k ≤ l.length ∧ (∀ j, j < k → mi_let l j = mi_let l' j) ∧ (k < l.length → l.getD k 0 < l'.getD k 0)
  | [], [], h => by cases h
  | _ :: _, [], h => by cases h
  | [], y :: u, _ => ⟨0, by simp, Nat.le_refl _, fun j hj => absurd hj (Nat.not_lt_zero j), fun h => absurd h (Nat.not_lt_zero 0)⟩
  | x :: t, y :: u, h => by
    rcases h with h | ⟨rfl, h⟩
    · exact ⟨0, by simp, Nat.zero_le _, fun j hj => absurd hj (Nat.not_lt_zero j), fun _ => h⟩
    · obtain ⟨k, h1, h2, h3, h4⟩ := ma_lt_first h
      refine ⟨k + 1, by simpa using h1, by simpa using h2, fun j hj => ?_, fun hk => ?_⟩
      · match j, hj with
        | 0, _ =>
          unfold mi_let
          rw [if_pos (by simp), if_pos (by simp)]
          rfl
        | j + 1, hj =>
          have := h3 j (by omega)
          unfold mi_let at this ⊢
          simpa using this
      · have := h4 (by simpa using hk)
        simpa using this
