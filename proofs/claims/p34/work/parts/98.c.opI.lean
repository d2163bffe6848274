/-! ===== undo ===== -/
def kx_undo (A : ma_X) : ma_X := kx_setM (kx_setH A (kx_h A - 1) (kx_H A)) (kx_H A (kx_h A - 1))
theorem ko_undo {A : ma_X} (ok : ko A) (h : kx_h A ≠ 0) : ko (kx_undo A) := by
  obtain ⟨h1, h2, h3, h4, h5, h6⟩ := ok
  exact ⟨h1, h2, h5 _ (by omega), by show kx_h A - 1 ≤ 14; omega, fun j hj => h5 j (by have : j < kx_h A - 1 := hj; omega), h6⟩
/-! ===== save, restore ===== -/
def kx_save (A : ma_X) (s : Nat) : ma_X := kx_setB A (fun j => if j = s then 1 else kx_b A j) (fun j => if j = s then kx_M A else kx_B A j)
def kx_rest (A : ma_X) (s : Nat) : ma_X := kx_setH (kx_setM A (kx_B A s)) 0 (kx_H A)
theorem ko_save {A : ma_X} {s : Nat} (ok : ko A) : ko (kx_save A s) := by
  obtain ⟨h1, h2, h3, h4, h5, h6⟩ := ok
  refine ⟨h1, h2, h3, h4, h5, fun j hj => ⟨?_, fun hb => ?_⟩⟩
  · show (if j = s then 1 else kx_b A j) ≤ 1
    by_cases q : j = s
    · rw [if_pos q]; exact Nat.le_refl _
    · rw [if_neg q]; exact (h6 j hj).1
  · have hb' : (if j = s then 1 else kx_b A j) = 1 := hb
    show mp_ok (if j = s then kx_M A else kx_B A j)
    by_cases q : j = s
    · rw [if_pos q]; exact h3
    · rw [if_neg q] at hb' ⊢
      exact (h6 j hj).2 hb'
theorem ko_rest {A : ma_X} {s : Nat} (ok : ko A) (hs : s < 2) (hb : kx_b A s = 1) : ko (kx_rest A s) :=
  ⟨ok.1, ok.2.1, (ok.2.2.2.2.2 s hs).2 hb, Nat.zero_le _, fun j hj => absurd hj (Nat.not_lt_zero j), ok.2.2.2.2.2⟩
theorem sc_slot {σ : ka_S} {v : Int32} {Q : ka_S → Prop} {X : Nat → ka_S → Prop} (h1 : ∀ s, s < 2 → v = nI s → Q σ) (h0 : (∀ s, s < 2 → v ≠ nI s) → X 2 σ) : kw_X8_requireSlot σ v Q X := by
  refine ⟨fun q => h0 (fun s hs e => absurd q (by rw [e]; exact nI_pos (by omega))), fun q => ⟨fun q2 => ?_, fun q2 => h0 (fun s hs e => q2 ?_)⟩⟩
  · obtain ⟨s, hs, e⟩ := nI_of q
    rw [e, show (2 : Int32) = nI 2 from rfl, nI_ltI hs (by decide)] at q2
    exact h1 s q2 e
  · rw [e, show (2 : Int32) = nI 2 from rfl, nI_ltI (by omega) (by decide)]
    exact hs
