/-! ===== the addresses: where a cell lies behind the first one ===== -/
def kn_po (o : Nat) : Nat := if o = 0 then 65 else if o = 1 then 130 else if o = 2 then 1115 else if o = 3 then 1180 else 203 + 65 * (o - 4)
def kn_wo (o : Nat) : Nat := if o = 18 then 5 else kn_po o + 5
def kn_off (k : ka_K) : Nat := match k.1 with
  | 0 => kn_po k.2.1 + 0
  | 1 => kn_po k.2.1 + 1
  | 2 => kn_po k.2.1 + 2
  | 3 => kn_po k.2.1 + 3
  | 4 => kn_po k.2.1 + 4
  | 5 => kn_wo k.2.1 + 5 * k.2.2 + 0
  | 6 => kn_wo k.2.1 + 5 * k.2.2 + 1
  | 7 => kn_wo k.2.1 + 5 * k.2.2 + 2
  | 8 => kn_wo k.2.1 + 5 * k.2.2 + 3
  | 9 => kn_wo k.2.1 + 5 * k.2.2 + 4
  | 10 => 1
  | 11 => 2
  | 12 => 195
  | 13 => 196
  | 14 => 197
  | 15 => 198
  | 16 => 199
  | 17 => 200
  | 18 => 3
  | 19 => 4
  | 20 => 201
  | 21 => 202
  | 22 => 0
  | 23 => 1113
  | _ => 1114
def kn_G (D : va_G) (r : Nat → ClassId) (b : Nat) : ka_G := ((D, r), (fun k => b + kn_off k, fun q => b ≤ q ∧ q < b + 1245))
theorem kn_offA {a o : Nat} (ha : a ≤ 4) : kn_off (a, o, 0) = kn_po o + a := by
  rcases (show a = 0 ∨ a = 1 ∨ a = 2 ∨ a = 3 ∨ a = 4 by omega) with rfl | rfl | rfl | rfl | rfl <;> rfl
theorem kn_offB {a o i : Nat} (h1 : 5 ≤ a) (h2 : a ≤ 9) : kn_off (a, o, i) = kn_wo o + 5 * i + (a - 5) := by
  rcases (show a = 5 ∨ a = 6 ∨ a = 7 ∨ a = 8 ∨ a = 9 by omega) with rfl | rfl | rfl | rfl | rfl <;> rfl
theorem kn_offC : ∀ a, a < 25 → 10 ≤ a → (kn_off (a, 0, 0) < 5 ∨ (195 ≤ kn_off (a, 0, 0) ∧ kn_off (a, 0, 0) < 203) ∨ (1113 ≤ kn_off (a, 0, 0) ∧ kn_off (a, 0, 0) < 1115)) ∧ (a ≤ 24 → kn_off (a, 0, 0) < 1245) := by decide +kernel
theorem kn_offCC : ∀ a, a < 25 → 10 ≤ a → ∀ c, c < 25 → 10 ≤ c → kn_off (a, 0, 0) = kn_off (c, 0, 0) → a = c := by decide +kernel
theorem kn_po_r (o : Nat) (ho : o < 18) : (o = 0 ∧ kn_po o = 65) ∨ (o = 1 ∧ kn_po o = 130) ∨ (o = 2 ∧ kn_po o = 1115) ∨ (o = 3 ∧ kn_po o = 1180) ∨ (4 ≤ o ∧ kn_po o = 203 + 65 * (o - 4)) := by
  unfold kn_po
  by_cases h0 : o = 0
  · simp [h0]
  by_cases h1 : o = 1
  · simp [h1]
  by_cases h2 : o = 2
  · simp [h2]
  by_cases h3 : o = 3
  · simp [h3]
  · rw [if_neg h0, if_neg h1, if_neg h2, if_neg h3]
    exact Or.inr (Or.inr (Or.inr (Or.inr ⟨by omega, rfl⟩)))
theorem kn_wo_r (o : Nat) (ho : o < 19) : (o = 18 ∧ kn_wo o = 5) ∨ (o < 18 ∧ kn_wo o = kn_po o + 5) := by
  unfold kn_wo
  by_cases h : o = 18
  · exact Or.inl ⟨h, by rw [if_pos h]⟩
  · exact Or.inr ⟨by omega, by rw [if_neg h]⟩
theorem kn_inj {k k' : ka_K} (hv : ka_v k) (hv' : ka_v k') (h : kn_off k = kn_off k') : k = k' := by
  obtain ⟨a, o, i⟩ := k
  obtain ⟨a', o', i'⟩ := k'
  rcases hv with ⟨h1, h2, h3⟩ | ⟨h1, h2, h3, h4⟩ | ⟨h1, h2, h3, h4⟩ <;> rcases hv' with ⟨g1, g2, g3⟩ | ⟨g1, g2, g3, g4⟩ | ⟨g1, g2, g3, g4⟩ <;> dsimp only at *
  · subst h3; subst g3
    rw [kn_offA h1, kn_offA g1] at h
    have := kn_po_r o h2
    have := kn_po_r o' g2
    obtain ⟨rfl, rfl⟩ : a = a' ∧ o = o' := by omega
    rfl
  · subst h3
    rw [kn_offA h1, kn_offB g1 g2] at h
    have := kn_po_r o h2
    exfalso
    rcases kn_wo_r o' g3 with ⟨x, y⟩ | ⟨x, y⟩
    · omega
    · have := kn_po_r o' x
      omega
  · subst h3; subst g3; subst g4
    rw [kn_offA h1] at h
    have := kn_po_r o h2
    have := (kn_offC a' (by omega) g1).1
    omega
  · subst g3
    rw [kn_offA g1, kn_offB h1 h2] at h
    have := kn_po_r o' g2
    exfalso
    rcases kn_wo_r o h3 with ⟨x, y⟩ | ⟨x, y⟩
    · omega
    · have := kn_po_r o x
      omega
  · rw [kn_offB h1 h2, kn_offB g1 g2] at h
    rcases kn_wo_r o h3 with ⟨x, y⟩ | ⟨x, y⟩ <;> rcases kn_wo_r o' g3 with ⟨x', y'⟩ | ⟨x', y'⟩
    · obtain ⟨rfl, rfl, rfl⟩ : a = a' ∧ o = o' ∧ i = i' := by omega
      rfl
    · have := kn_po_r o' x'
      exfalso; omega
    · have := kn_po_r o x
      exfalso; omega
    · have := kn_po_r o x
      have := kn_po_r o' x'
      obtain ⟨rfl, rfl, rfl⟩ : a = a' ∧ o = o' ∧ i = i' := by omega
      rfl
  · subst g3; subst g4
    rw [kn_offB h1 h2] at h
    have := (kn_offC a' (by omega) g1).1
    exfalso
    rcases kn_wo_r o h3 with ⟨x, y⟩ | ⟨x, y⟩
    · omega
    · have := kn_po_r o x
      omega
  · subst h3; subst g3; subst h4
    rw [kn_offA g1] at h
    have := kn_po_r o' g2
    have := (kn_offC a (by omega) h1).1
    omega
  · subst h3; subst h4
    rw [kn_offB g1 g2] at h
    have := (kn_offC a (by omega) h1).1
    exfalso
    rcases kn_wo_r o' g3 with ⟨x, y⟩ | ⟨x, y⟩
    · omega
    · have := kn_po_r o' x
      omega
  · subst h3; subst g3; subst h4; subst g4
    have := kn_offCC a (by omega) h1 a' (by omega) g1 h
    subst this
    rfl
theorem kn_lt {k : ka_K} (hv : ka_v k) : kn_off k < 1245 := by
  obtain ⟨a, o, i⟩ := k
  rcases hv with ⟨h1, h2, h3⟩ | ⟨h1, h2, h3, h4⟩ | ⟨h1, h2, h3, h4⟩ <;> dsimp only at *
  · subst h3
    rw [kn_offA h1]
    have := kn_po_r o h2
    omega
  · rw [kn_offB h1 h2]
    rcases kn_wo_r o h3 with ⟨x, y⟩ | ⟨x, y⟩
    · omega
    · have := kn_po_r o x
      omega
  · subst h3; subst h4
    have := kn_offC a (by omega) h1
    exact this.2 h2
theorem kn_I {D : va_G} {r : Nat → ClassId} {b : Nat} : ka_I (kn_G D r b) :=
  ⟨fun k k' hv hv' he => kn_inj hv hv' (by have : b + kn_off k = b + kn_off k' := he; omega), fun k hv => ⟨Nat.le_add_right _ _, by have := kn_lt hv; show b + kn_off k < b + 1245; omega⟩⟩
/-- the store as it is made -/
def kn_σ : ka_S := (fun k j => if k.1 = 0 then (if j = 3 then 30 else if j = 4 then 2 else if j = 5 then 1 else 0) else 0, fun _ _ => 0)
theorem kn_cell {D : va_G} {cl : List vw_C} {q n : Nat} {cA : ClassId} {f g : Nat → Option Nat} {H : Heap} (h : va_at D cl (q, .inl (cA, n, .inr (.inr (.inr (.inr f))))) H) (hfg : ∀ j, j < n → f j = g j) : va_at D cl (q, .inl (cA, n, .inr (.inr (.inr (.inr g))))) H := by
  have h1 : H[q]? = some (vp_cell cA (n, .inr (.inr (.inr (.inr f))))) := h
  show H[q]? = some (vp_cell cA (n, .inr (.inr (.inr (.inr g)))))
  rw [h1, vp_cell_q, vp_cell_q]
  have : (Array.ofFn (n := n) fun j => va_rf (f j.val)) = Array.ofFn (n := n) fun j => va_rf (g j.val) := by
    congr 1
    funext j
    rw [hfg j.val j.isLt]
  show some ({ cls := cA, slots := Array.ofFn (n := n) fun j => va_rf (f j.val), vm := .none } : Cell) = some ({ cls := cA, slots := Array.ofFn (n := n) fun j => va_rf (g j.val), vm := .none } : Cell)
  rw [this]
theorem kn_wd_at {D : va_G} {r : Nat → ClassId} {b : Nat} {H : Heap} {o i w : Nat} (hw : w = b + kn_wo o + 5 * i) (h : ∀ x ∈ kn_wd (kn_G D r b) w, va_at D vwCl x H) : ∀ a, 5 ≤ a → a ≤ 9 → va_at D vwCl (ka_a (kn_G D r b) (a, o, i), ka_c (kn_G D r b) kn_σ (a, o, i)) H := by
  have e5 : ka_a (kn_G D r b) (5, o, i) = w := by rw [hw]; show b + (kn_wo o + 5 * i + 0) = _; omega
  have e6 : ka_a (kn_G D r b) (6, o, i) = w + 1 := by rw [hw]; show b + (kn_wo o + 5 * i + 1) = _; omega
  have e7 : ka_a (kn_G D r b) (7, o, i) = w + 2 := by rw [hw]; show b + (kn_wo o + 5 * i + 2) = _; omega
  have e8 : ka_a (kn_G D r b) (8, o, i) = w + 3 := by rw [hw]; show b + (kn_wo o + 5 * i + 3) = _; omega
  have e9 : ka_a (kn_G D r b) (9, o, i) = w + 4 := by rw [hw]; show b + (kn_wo o + 5 * i + 4) = _; omega
  intro a h1 h2
  rcases (show a = 5 ∨ a = 6 ∨ a = 7 ∨ a = 8 ∨ a = 9 by omega) with rfl | rfl | rfl | rfl | rfl
  · rw [e5]
    have := h (w, .inr (6, [.ref (w + 1), .ref (w + 2), .ref (w + 3), .ref (w + 4), .int 0, .int 0, .int 0])) (by simp)
    show va_at D vwCl (w, .inr (6, [.ref (ka_a (kn_G D r b) (6, o, i)), .ref (ka_a (kn_G D r b) (7, o, i)), .ref (ka_a (kn_G D r b) (8, o, i)), .ref (ka_a (kn_G D r b) (9, o, i)), .int 0, .int 0, .int 0])) H
    rw [e6, e7, e8, e9]
    exact this
  · rw [e6]; exact h (w + 1, .inl (ka_r (kn_G D r b) 1, 4, .inr (.inl (fun _ => 0)))) (by simp)
  · rw [e7]; exact h (w + 2, .inl (ka_r (kn_G D r b) 1, 4, .inr (.inl (fun _ => 0)))) (by simp)
  · rw [e8]; exact h (w + 3, .inl (ka_r (kn_G D r b) 0, 4, .inl (fun _ => 0))) (by simp)
  · rw [e9]; exact h (w + 4, .inl (ka_r (kn_G D r b) 0, 24, .inl (fun _ => 0))) (by simp)
theorem kn_pg_at {D : va_G} {r : Nat → ClassId} {b : Nat} {H : Heap} {o w : Nat} (ho : o < 18) (hw : w = b + kn_po o) (h : ∀ x ∈ kn_pg (kn_G D r b) w, va_at D vwCl x H) : (∀ a, a ≤ 4 → va_at D vwCl (ka_a (kn_G D r b) (a, o, 0), ka_c (kn_G D r b) kn_σ (a, o, 0)) H) ∧ ∀ a i, 5 ≤ a → a ≤ 9 → i < 12 → va_at D vwCl (ka_a (kn_G D r b) (a, o, i), ka_c (kn_G D r b) kn_σ (a, o, i)) H := by
  have hwo : kn_wo o = kn_po o + 5 := by rcases kn_wo_r o (by omega) with ⟨x, y⟩ | ⟨x, y⟩ <;> omega
  have e0 : ka_a (kn_G D r b) (0, o, 0) = w := by rw [hw]; rfl
  have e1 : ka_a (kn_G D r b) (1, o, 0) = w + 1 := by rw [hw]; show b + (kn_po o + 1) = _; omega
  have e2 : ka_a (kn_G D r b) (2, o, 0) = w + 2 := by rw [hw]; show b + (kn_po o + 2) = _; omega
  have e3 : ka_a (kn_G D r b) (3, o, 0) = w + 2 + 1 := by rw [hw]; show b + (kn_po o + 3) = _; omega
  have e4 : ka_a (kn_G D r b) (4, o, 0) = w + 2 + 2 := by rw [hw]; show b + (kn_po o + 4) = _; omega
  unfold kn_pg at h
  refine ⟨fun a ha => ?_, fun a i h1 h2 hi => ?_⟩
  · rcases (show a = 0 ∨ a = 1 ∨ a = 2 ∨ a = 3 ∨ a = 4 by omega) with rfl | rfl | rfl | rfl | rfl
    · rw [e0]
      show va_at D vwCl (w, .inr (3, [.ref (ka_a (kn_G D r b) (1, o, 0)), .ref (ka_a (kn_G D r b) (2, o, 0)), .int 0, .int 30, .int 2, .int 1])) H
      rw [e1, e2]
      exact h _ (List.mem_append_left _ (List.mem_of_getElem? (i := 0) rfl))
    · rw [e1]
      refine kn_cell (h _ (List.mem_append_left _ (List.mem_of_getElem? (i := 1) rfl))) (fun j hj => ?_)
      rw [if_pos hj]
      show some _ = some (b + (kn_wo o + 5 * j + 0))
      congr 1
      omega
    · rw [e2]
      show va_at D vwCl (w + 2, .inr (2, [.ref (ka_a (kn_G D r b) (3, o, 0)), .ref (ka_a (kn_G D r b) (4, o, 0)), .int 0])) H
      rw [e3, e4]
      exact h _ (List.mem_append_left _ (List.mem_of_getElem? (i := 2) rfl))
    · rw [e3]; exact h _ (List.mem_append_left _ (List.mem_of_getElem? (i := 3) rfl))
    · rw [e4]; exact h _ (List.mem_append_left _ (List.mem_of_getElem? (i := 4) rfl))
  · exact kn_wd_at (w := w + 5 + 5 * i) (by omega) (fun x hx => h x (List.mem_append_right _ (List.mem_flatMap.mpr ⟨i, List.mem_range.mpr hi, hx⟩))) a h1 h2
/-- the class as it is made, by its keys -/
theorem kn_class {D : va_G} {r : Nat → ClassId} {b : Nat} {H : Heap} (hP : va_P D vwCl (kn_gj (kn_G D r b) b 2) H) : ∀ k : ka_K, ka_v k → k.1 ≤ 24 → va_at D vwCl (ka_a (kn_G D r b) k, ka_c (kn_G D r b) kn_σ k) H := by
  have h := kn_P_mem.mp hP
  have hf : ∀ x ∈ kn_gX (kn_G D r b) b, va_at D vwCl x H := fun x hx => h x (by unfold kn_gj; exact List.mem_append_left _ (List.mem_append_right _ hx))
  have htx : ∀ x ∈ kn_tx (kn_G D r b) (b + 1), va_at D vwCl x H := fun x hx => hf x (by unfold kn_gX; simp only [List.mem_append]; simp [hx])
  have hrd : ∀ x ∈ kn_rd (kn_G D r b) (b + 3), va_at D vwCl x H := fun x hx => hf x (by unfold kn_gX; simp only [List.mem_append]; simp [hx])
  have hp0 : ∀ x ∈ kn_pg (kn_G D r b) (b + 65), va_at D vwCl x H := fun x hx => hf x (by unfold kn_gX; simp only [List.mem_append]; simp [hx])
  have hp1 : ∀ x ∈ kn_pg (kn_G D r b) (b + 130), va_at D vwCl x H := fun x hx => hf x (by unfold kn_gX; simp only [List.mem_append]; simp [hx])
  have hly : ∀ x ∈ kn_ly (kn_G D r b) (b + 195), va_at D vwCl x H := fun x hx => hf x (by unfold kn_gX; simp only [List.mem_append]; simp [hx])
  have hhi : ∀ x ∈ kn_hj (kn_G D r b) (b + 201) 14, va_at D vwCl x H := fun x hx => hf x (by unfold kn_gX; simp only [List.mem_append]; simp [hx])
  have hpage : ∀ o, o < 18 → ∀ x ∈ kn_pg (kn_G D r b) (b + kn_po o), va_at D vwCl x H := by
    intro o ho x hx
    rcases kn_po_r o ho with ⟨e, p⟩ | ⟨e, p⟩ | ⟨e, p⟩ | ⟨e, p⟩ | ⟨e, p⟩
    · rw [p] at hx; exact hp0 x hx
    · rw [p] at hx; exact hp1 x hx
    · rw [p] at hx
      exact h x (by unfold kn_gj; exact List.mem_append_right _ (List.mem_flatMap.mpr ⟨0, by decide, hx⟩))
    · rw [p] at hx
      exact h x (by unfold kn_gj; exact List.mem_append_right _ (List.mem_flatMap.mpr ⟨1, by decide, by rw [show b + 1115 + 65 * 1 = b + 1180 by omega]; exact hx⟩))
    · rw [p] at hx
      exact hhi x (by unfold kn_hj; exact List.mem_append_right _ (List.mem_flatMap.mpr ⟨o - 4, List.mem_range.mpr (by omega), by rw [show b + 201 + 2 + 65 * (o - 4) = b + (203 + 65 * (o - 4)) by omega]; exact hx⟩))
  intro k hv hk
  obtain ⟨a, o, i⟩ := k
  rcases hv with ⟨h1, h2, h3⟩ | ⟨h1, h2, h3, h4⟩ | ⟨h1, h2, h3, h4⟩ <;> dsimp only at *
  · subst h3
    exact (kn_pg_at h2 rfl (hpage o h2)).1 a h1
  · rcases kn_wo_r o h3 with ⟨x, y⟩ | ⟨x, y⟩
    · refine kn_wd_at (w := b + 3 + 2 + 5 * i) (by omega) (fun z hz => hrd z ?_) a h1 h2
      unfold kn_rd
      exact List.mem_append_right _ (List.mem_flatMap.mpr ⟨i, List.mem_range.mpr h4, hz⟩)
    · exact (kn_pg_at x rfl (hpage o x)).2 a i h1 h2 h4
  · subst h3; subst h4
    rcases (show a = 10 ∨ a = 11 ∨ a = 12 ∨ a = 13 ∨ a = 14 ∨ a = 15 ∨ a = 16 ∨ a = 17 ∨ a = 18 ∨ a = 19 ∨ a = 20 ∨ a = 21 ∨ a = 22 ∨ a = 23 ∨ a = 24 by omega) with rfl | rfl | rfl | rfl | rfl | rfl | rfl | rfl | rfl | rfl | rfl | rfl | rfl | rfl | rfl
    · exact htx _ (List.mem_of_getElem? (i := 0) rfl)
    · exact htx _ (List.mem_of_getElem? (i := 1) rfl)
    · exact hly _ (List.mem_of_getElem? (i := 0) rfl)
    · exact hly _ (List.mem_of_getElem? (i := 1) rfl)
    · exact hly _ (List.mem_of_getElem? (i := 2) rfl)
    · exact hly _ (List.mem_of_getElem? (i := 3) rfl)
    · exact hly _ (List.mem_of_getElem? (i := 4) rfl)
    · exact hly _ (List.mem_of_getElem? (i := 5) rfl)
    · unfold kn_rd at hrd; exact hrd _ (List.mem_append_left _ (List.mem_of_getElem? (i := 0) rfl))
    · unfold kn_rd at hrd
      refine kn_cell (hrd _ (List.mem_append_left _ (List.mem_of_getElem? (i := 1) rfl))) (fun j hj => ?_)
      rw [if_pos hj]
      show some _ = some (b + (5 + 5 * j + 0))
      congr 1
      omega
    · unfold kn_hj at hhi; exact hhi _ (List.mem_append_left _ (List.mem_of_getElem? (i := 0) rfl))
    · unfold kn_hj at hhi
      refine kn_cell (hhi _ (List.mem_append_left _ (List.mem_of_getElem? (i := 1) rfl))) (fun j hj => ?_)
      rw [if_pos hj]
      show some _ = some (b + (kn_po (j + 4) + 0))
      have := kn_po_r (j + 4) (by omega)
      congr 1
      omega
    · unfold kn_gj at h; exact h _ (List.mem_append_left _ (List.mem_append_left _ (List.mem_of_getElem? (i := 0) rfl)))
    · unfold kn_gj at h
      refine kn_cell (h _ (List.mem_append_left _ (List.mem_append_left _ (List.mem_of_getElem? (i := 1) rfl)))) (fun j hj => ?_)
      rw [if_pos hj]
      show some _ = some (b + (kn_po (j + 2) + 0))
      have := kn_po_r (j + 2) (by omega)
      congr 1
      omega
    · unfold kn_gj at h; exact h _ (List.mem_append_left _ (List.mem_append_left _ (List.mem_of_getElem? (i := 2) rfl)))
