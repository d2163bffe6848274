/-! ===== the reference: a code that is shown ===== -/
def mr_sh (w : ma_W) (line y m c x p : Nat) : Nat := if p < mw_S w then (if c < x then 32 else if c = x then mw_M w p else mt_shown w line y m (c - (x + 1)) p) else 32
theorem mf_txt_wid {w : ma_W} {line y p : Nat} (hl : line ≤ 1) : (mf_txt w line p).length ≤ mf_wid w line y p := by
  unfold mf_wid
  by_cases q : y = 1
  · rw [if_pos q]
    unfold mf_txt
    by_cases z : line = 0
    · rw [if_pos z]; exact Nat.le_max_left _ _
    · rw [if_neg z]; exact Nat.le_max_right _ _
  · rw [if_neg q]; exact Nat.le_refl _
