theorem xc_rm {d n : Nat} (k : ka_K) (j : Nat) (h : xc (36, 0, 0) d n k j) : xrm k j := Or.inl h.1
theorem mv_flag {s : ma_A} {t0 : Int32} (h : t0 = if mv_wh s then 1 else 0) : (t0 = 0 ↔ ¬ mv_wh s) := by
  by_cases w : mv_wh s
  · rw [if_pos w] at h
    exact ⟨fun q => absurd (h.symm.trans q) (by decide), fun q => absurd w q⟩
  · rw [if_neg w] at h
    exact ⟨fun _ => w, fun _ => h⟩
