/-! ===== the reference reads the text ===== -/
def xrm (k : ka_K) (n : Nat) : Prop := k = (36, 0, 0) ∨ (k = (25, 0, 0) ∧ n = 3)
def mv_n (s : ma_A) : Nat := if mv_g s = 0 then (mw_P (mv_w s) (mv_p s)).length else (mw_G (mv_w s) (mv_p s)).length
theorem mv_n_le {s : ma_A} (ok : mv_ok s) : mv_n s ≤ 8 := by
  have h := mv_len ok
  unfold mv_n
  by_cases z : mv_g s = 0
  · rw [if_pos z]; exact h.1
  · rw [if_neg z]; exact h.2
theorem mv_n_set {s : ma_A} {w : ma_W} {g p : Nat} : mv_n (mv_set s w g p) = if g = 0 then (mw_P w p).length else (mw_G w p).length := by
  unfold mv_n
  rw [mv_set_w]
  rfl
theorem mv_n_next {s : ma_A} : mv_n (mv_next s) = 0 := by
  unfold mv_n
  rw [mv_next_w]
  rfl
/-! the five ways -/
abbrev mv_let (s : ma_A) (c : Nat) : Prop := ((mv_g s = 0 ∧ 97 ≤ c ∧ c ≤ 122) ∨ (mv_g s ≠ 0 ∧ ((97 ≤ c ∧ c ≤ 122) ∨ c = 46))) ∧ mv_n s < 8
theorem mv_take_none {s : ma_A} {c : Nat} (ok : mv_ok s) (n1 : ¬ mv_let s c) (n2 : ¬ (mv_g s = 0 ∧ mv_wh s ∧ (c = 45 ∨ c = 61) ∧ mv_p s < 3)) (n3 : ¬ (mv_g s = 0 ∧ mv_wh s ∧ c = 58)) (n4 : ¬ (mv_g s ≠ 0 ∧ ¬ mv_wh s ∧ c = mw_M (mv_w s) (mv_p s + 1))) (n5 : ¬ (mv_wh s ∧ c = 32 ∧ mv_R s < 12)) : mv_take s c = none := by
  obtain ⟨c1, c2, c3, c4, c5, c6, _⟩ := ok.2.2.2
  unfold mv_take
  by_cases e1 : c = 32
  · rw [if_pos e1, if_neg (fun q => n5 ⟨q.1, e1, q.2⟩)]
  · rw [if_neg e1]
    by_cases e2 : c = 58
    · rw [if_pos e2, if_neg (fun q => n3 ⟨q.1, q.2, e2⟩)]
    · rw [if_neg e2]
      by_cases e3 : c = 45 ∨ c = 61
      · rw [if_pos e3]
        by_cases z : mv_g s = 0
        · rw [if_pos z, if_neg (fun q => n2 ⟨z, q.1, e3, by have := c6 z; omega⟩)]
        · rw [if_neg z, if_neg (fun q => n4 ⟨z, fun w => w.elim (fun w => z w.1) (fun w => by have := q.1; omega), q.2.symm⟩)]
      · rw [if_neg e3]
        by_cases z : mv_g s = 0
        · have en : mv_n s = (mw_P (mv_w s) (mv_p s)).length := if_pos z
          rw [if_pos z, if_neg (fun q => n1 ⟨Or.inl ⟨z, q.1⟩, by rw [en]; exact q.2⟩)]
        · have en : mv_n s = (mw_G (mv_w s) (mv_p s)).length := if_neg z
          rw [if_neg z, if_neg (fun q => n1 ⟨Or.inr ⟨z, q.1⟩, by rw [en]; exact q.2⟩)]
theorem mv_take_l0 {s : ma_A} {c : Nat} (z : mv_g s = 0) (hc : 97 ≤ c ∧ c ≤ 122) (h8 : (mw_P (mv_w s) (mv_p s)).length < 8) : mv_take s c = some (mv_set s (mw_addP (mv_w s) (mv_p s) c) 0 (mv_p s)) := by
  unfold mv_take
  rw [if_neg (by omega), if_neg (by omega), if_neg (by omega), if_pos z, if_pos ⟨hc, h8⟩]
theorem mv_take_l1 {s : ma_A} {c : Nat} (z : ¬ mv_g s = 0) (hc : (97 ≤ c ∧ c ≤ 122) ∨ c = 46) (h8 : (mw_G (mv_w s) (mv_p s)).length < 8) : mv_take s c = some (mv_set s (mw_setG (mv_w s) (mv_p s) (mw_G (mv_w s) (mv_p s) ++ [c])) 1 (mv_p s)) := by
  unfold mv_take
  rw [if_neg (by omega), if_neg (by omega), if_neg (by omega), if_neg z, if_pos ⟨hc, h8⟩]
theorem mv_take_m0 {s : ma_A} {c : Nat} (z : mv_g s = 0) (w : mv_wh s) (hc : c = 45 ∨ c = 61) (h4 : mw_S (mv_w s) < 4) : mv_take s c = some (mv_set s (mw_part (mv_w s) c) 0 (mv_p s + 1)) := by
  unfold mv_take
  rw [if_neg (by omega), if_neg (by omega), if_pos hc, if_pos z, if_pos ⟨w, h4⟩]
theorem mv_take_m1 {s : ma_A} {c : Nat} (z : ¬ mv_g s = 0) (hc : c = 45 ∨ c = 61) (h1 : mv_p s + 1 < mw_S (mv_w s)) (h2 : mw_M (mv_w s) (mv_p s + 1) = c) : mv_take s c = some (mv_set s (mv_w s) 1 (mv_p s + 1)) := by
  unfold mv_take
  rw [if_neg (by omega), if_neg (by omega), if_pos hc, if_neg z, if_pos ⟨h1, h2⟩]
theorem mv_take_c {s : ma_A} {c : Nat} (z : mv_g s = 0) (w : mv_wh s) (hc : c = 58) : mv_take s c = some (mv_set s (mv_w s) 1 0) := by
  unfold mv_take
  rw [if_neg (by omega), if_pos hc, if_pos ⟨z, w⟩]
theorem mv_take_b {s : ma_A} {c : Nat} (w : mv_wh s) (hc : c = 32) (hR : mv_R s < 12) : mv_take s c = some (mv_next s) := by
  unfold mv_take
  rw [if_pos hc, if_pos ⟨w, hR⟩]
