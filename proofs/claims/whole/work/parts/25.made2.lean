/-! ===== the addresses: where a cell lies behind the first one ===== -/
def kn_po (o : Nat) : Nat := if o = 0 then 65 else if o = 1 then 130 else if o = 2 then 1115 else if o = 3 then 1180 else 203 + 65 * (o - 4)
def kn_wo (o : Nat) : Nat := if o = 18 then 5 else kn_po o + 5
def kn_off (k : ka_K) : Nat := match k.1 with
  | 0 => kn_po k.2.1 + 0
  | 1 => kn_po k.2.1 + 1
  | 2 => kn_po k.2.1 + 2
  | 3 => kn_po k.2.1 + 3
  | 4 => kn_po k.2.1 + 4
  | 5 => kn_wo k.2.1 + 5 * k.2.2 + 0
  | 6 => kn_wo k.2.1 + 5 * k.2.2 + 1
  | 7 => kn_wo k.2.1 + 5 * k.2.2 + 2
  | 8 => kn_wo k.2.1 + 5 * k.2.2 + 3
  | 9 => kn_wo k.2.1 + 5 * k.2.2 + 4
  | 10 => 1
  | 11 => 2
  | 12 => 195
  | 13 => 196
  | 14 => 197
  | 15 => 198
  | 16 => 199
  | 17 => 200
  | 18 => 3
  | 19 => 4
  | 20 => 201
  | 21 => 202
  | 22 => 0
  | 23 => 1113
  | 24 => 1114
  | 25 => 1245
  | 26 => 1246
  | 27 => 1253
  | 28 => 1254
  | 29 => 1255
  | 30 => 1256
  | 31 => 1257
  | 32 => 1258
  | 33 => 1259
  | 34 => 1260
  | 35 => 1252
  | 36 => 1247
  | 37 => 1248
  | 38 => 1249
  | 39 => 1250
  | _ => 1251
def kn_G (D : va_G) (r : Nat → ClassId) (b qo : Nat) : ka_G := ((D, r), (fun k => b + kn_off k, b, qo))
theorem kn_offA {a o : Nat} (ha : a ≤ 4) : kn_off (a, o, 0) = kn_po o + a := by
  rcases (show a = 0 ∨ a = 1 ∨ a = 2 ∨ a = 3 ∨ a = 4 by omega) with rfl | rfl | rfl | rfl | rfl <;> rfl
theorem kn_offB {a o i : Nat} (h1 : 5 ≤ a) (h2 : a ≤ 9) : kn_off (a, o, i) = kn_wo o + 5 * i + (a - 5) := by
  rcases (show a = 5 ∨ a = 6 ∨ a = 7 ∨ a = 8 ∨ a = 9 by omega) with rfl | rfl | rfl | rfl | rfl <;> rfl
theorem kn_offC : ∀ a, a < 41 → 10 ≤ a → (kn_off (a, 0, 0) < 5 ∨ (195 ≤ kn_off (a, 0, 0) ∧ kn_off (a, 0, 0) < 203) ∨ (1113 ≤ kn_off (a, 0, 0) ∧ kn_off (a, 0, 0) < 1115) ∨ (1245 ≤ kn_off (a, 0, 0) ∧ kn_off (a, 0, 0) < 1261)) ∧ (a ≤ 24 → kn_off (a, 0, 0) < 1245) := by decide +kernel
theorem kn_offCC : ∀ a, a < 41 → 10 ≤ a → ∀ c, c < 41 → 10 ≤ c → kn_off (a, 0, 0) = kn_off (c, 0, 0) → a = c := by decide +kernel
theorem kn_po_r (o : Nat) (ho : o < 18) : (o = 0 ∧ kn_po o = 65) ∨ (o = 1 ∧ kn_po o = 130) ∨ (o = 2 ∧ kn_po o = 1115) ∨ (o = 3 ∧ kn_po o = 1180) ∨ (4 ≤ o ∧ kn_po o = 203 + 65 * (o - 4)) := by
  unfold kn_po
  by_cases h0 : o = 0
  · simp [h0]
  by_cases h1 : o = 1
  · simp [h1]
  by_cases h2 : o = 2
  · simp [h2]
  by_cases h3 : o = 3
  · simp [h3]
  · rw [if_neg h0, if_neg h1, if_neg h2, if_neg h3]
    exact Or.inr (Or.inr (Or.inr (Or.inr ⟨by omega, rfl⟩)))
theorem kn_wo_r (o : Nat) (ho : o < 19) : (o = 18 ∧ kn_wo o = 5) ∨ (o < 18 ∧ kn_wo o = kn_po o + 5) := by
  unfold kn_wo
  by_cases h : o = 18
  · exact Or.inl ⟨h, by rw [if_pos h]⟩
  · exact Or.inr ⟨by omega, by rw [if_neg h]⟩
theorem kn_inj {k k' : ka_K} (hv : ka_v k) (hv' : ka_v k') (h : kn_off k = kn_off k') : k = k' := by
  obtain ⟨a, o, i⟩ := k
  obtain ⟨a', o', i'⟩ := k'
  rcases hv with ⟨h1, h2, h3⟩ | ⟨h1, h2, h3, h4⟩ | ⟨h1, h2, h3, h4⟩ <;> rcases hv' with ⟨g1, g2, g3⟩ | ⟨g1, g2, g3, g4⟩ | ⟨g1, g2, g3, g4⟩ <;> dsimp only at *
  · subst h3; subst g3
    rw [kn_offA h1, kn_offA g1] at h
    have := kn_po_r o h2
    have := kn_po_r o' g2
    obtain ⟨rfl, rfl⟩ : a = a' ∧ o = o' := by omega
    rfl
  · subst h3
    rw [kn_offA h1, kn_offB g1 g2] at h
    have := kn_po_r o h2
    exfalso
    rcases kn_wo_r o' g3 with ⟨x, y⟩ | ⟨x, y⟩
    · omega
    · have := kn_po_r o' x
      omega
  · subst h3; subst g3; subst g4
    rw [kn_offA h1] at h
    have := kn_po_r o h2
    have := (kn_offC a' (by omega) g1).1
    omega
  · subst g3
    rw [kn_offA g1, kn_offB h1 h2] at h
    have := kn_po_r o' g2
    exfalso
    rcases kn_wo_r o h3 with ⟨x, y⟩ | ⟨x, y⟩
    · omega
    · have := kn_po_r o x
      omega
  · rw [kn_offB h1 h2, kn_offB g1 g2] at h
    rcases kn_wo_r o h3 with ⟨x, y⟩ | ⟨x, y⟩ <;> rcases kn_wo_r o' g3 with ⟨x', y'⟩ | ⟨x', y'⟩
    · obtain ⟨rfl, rfl, rfl⟩ : a = a' ∧ o = o' ∧ i = i' := by omega
      rfl
    · have := kn_po_r o' x'
      exfalso; omega
    · have := kn_po_r o x
      exfalso; omega
    · have := kn_po_r o x
      have := kn_po_r o' x'
      obtain ⟨rfl, rfl, rfl⟩ : a = a' ∧ o = o' ∧ i = i' := by omega
      rfl
  · subst g3; subst g4
    rw [kn_offB h1 h2] at h
    have := (kn_offC a' (by omega) g1).1
    exfalso
    rcases kn_wo_r o h3 with ⟨x, y⟩ | ⟨x, y⟩
    · omega
    · have := kn_po_r o x
      omega
  · subst h3; subst g3; subst h4
    rw [kn_offA g1] at h
    have := kn_po_r o' g2
    have := (kn_offC a (by omega) h1).1
    omega
  · subst h3; subst h4
    rw [kn_offB g1 g2] at h
    have := (kn_offC a (by omega) h1).1
    exfalso
    rcases kn_wo_r o' g3 with ⟨x, y⟩ | ⟨x, y⟩
    · omega
    · have := kn_po_r o' x
      omega
  · subst h3; subst g3; subst h4; subst g4
    have := kn_offCC a (by omega) h1 a' (by omega) g1 h
    subst this
    rfl
theorem kn_lt {k : ka_K} (hv : ka_v k) : kn_off k < 1261 ∧ (k.1 ≤ 24 → kn_off k < 1245) := by
  obtain ⟨a, o, i⟩ := k
  rcases hv with ⟨h1, h2, h3⟩ | ⟨h1, h2, h3, h4⟩ | ⟨h1, h2, h3, h4⟩ <;> dsimp only at *
  · subst h3
    rw [kn_offA h1]
    have := kn_po_r o h2
    omega
  · rw [kn_offB h1 h2]
    rcases kn_wo_r o h3 with ⟨x, y⟩ | ⟨x, y⟩
    · omega
    · have := kn_po_r o x
      omega
  · subst h3; subst h4
    have := kn_offC a (by omega) h1
    exact ⟨by omega, this.2⟩
theorem kn_I {D : va_G} {r : Nat → ClassId} {b qo : Nat} (h : ∀ k, ka_v k → b + kn_off k ≠ qo) : ka_I (kn_G D r b qo) :=
  ⟨fun k k' hv hv' he => kn_inj hv hv' (by have : b + kn_off k = b + kn_off k' := he; omega), fun k hv => ⟨Nat.le_add_right _ _, h k hv⟩⟩
/-- the store as it is made -/
def kn_σ : ka_S := (fun k j => if k.1 = 0 then (if j = 3 then 30 else if j = 4 then 2 else if j = 5 then 1 else 0) else 0, fun _ _ => 0)
theorem kn_cell {D : va_G} {cl : List vw_C} {q n : Nat} {cA : ClassId} {f g : Nat → Option Nat} {H : Heap} (h : va_at D cl (q, .inl (cA, n, .inr (.inr (.inr (.inr f))))) H) (hfg : ∀ j, j < n → f j = g j) : va_at D cl (q, .inl (cA, n, .inr (.inr (.inr (.inr g))))) H := by
  have h1 : H[q]? = some (vp_cell cA (n, .inr (.inr (.inr (.inr f))))) := h
  show H[q]? = some (vp_cell cA (n, .inr (.inr (.inr (.inr g)))))
  rw [h1, vp_cell_q, vp_cell_q]
  have : (Array.ofFn (n := n) fun j => va_rf (f j.val)) = Array.ofFn (n := n) fun j => va_rf (g j.val) := by
    congr 1
    funext j
    rw [hfg j.val j.isLt]
  show some ({ cls := cA, slots := Array.ofFn (n := n) fun j => va_rf (f j.val), vm := .none } : Cell) = some ({ cls := cA, slots := Array.ofFn (n := n) fun j => va_rf (g j.val), vm := .none } : Cell)
  rw [this]
theorem kn_wd_at {D : va_G} {r : Nat → ClassId} {b qo : Nat} {H : Heap} {o i w : Nat} (hw : w = b + kn_wo o + 5 * i) (h : ∀ x ∈ kn_wd (kn_G D r b qo) w, va_at D vwCl x H) : ∀ a, 5 ≤ a → a ≤ 9 → va_at D vwCl (ka_a (kn_G D r b qo) (a, o, i), ka_c (kn_G D r b qo) kn_σ (a, o, i)) H := by
  have e5 : ka_a (kn_G D r b qo) (5, o, i) = w := by rw [hw]; show b + (kn_wo o + 5 * i + 0) = _; omega
  have e6 : ka_a (kn_G D r b qo) (6, o, i) = w + 1 := by rw [hw]; show b + (kn_wo o + 5 * i + 1) = _; omega
  have e7 : ka_a (kn_G D r b qo) (7, o, i) = w + 2 := by rw [hw]; show b + (kn_wo o + 5 * i + 2) = _; omega
  have e8 : ka_a (kn_G D r b qo) (8, o, i) = w + 3 := by rw [hw]; show b + (kn_wo o + 5 * i + 3) = _; omega
  have e9 : ka_a (kn_G D r b qo) (9, o, i) = w + 4 := by rw [hw]; show b + (kn_wo o + 5 * i + 4) = _; omega
  intro a h1 h2
  rcases (show a = 5 ∨ a = 6 ∨ a = 7 ∨ a = 8 ∨ a = 9 by omega) with rfl | rfl | rfl | rfl | rfl
  · rw [e5]
    have := h (w, .inr (6, [.ref (w + 1), .ref (w + 2), .ref (w + 3), .ref (w + 4), .int 0, .int 0, .int 0])) (by simp)
    show va_at D vwCl (w, .inr (6, [.ref (ka_a (kn_G D r b qo) (6, o, i)), .ref (ka_a (kn_G D r b qo) (7, o, i)), .ref (ka_a (kn_G D r b qo) (8, o, i)), .ref (ka_a (kn_G D r b qo) (9, o, i)), .int 0, .int 0, .int 0])) H
    rw [e6, e7, e8, e9]
    exact this
  · rw [e6]; exact h (w + 1, .inl (ka_r (kn_G D r b qo) 1, 4, .inr (.inl (fun _ => 0)))) (by simp)
  · rw [e7]; exact h (w + 2, .inl (ka_r (kn_G D r b qo) 1, 4, .inr (.inl (fun _ => 0)))) (by simp)
  · rw [e8]; exact h (w + 3, .inl (ka_r (kn_G D r b qo) 0, 4, .inl (fun _ => 0))) (by simp)
  · rw [e9]; exact h (w + 4, .inl (ka_r (kn_G D r b qo) 0, 24, .inl (fun _ => 0))) (by simp)
theorem kn_pg_at {D : va_G} {r : Nat → ClassId} {b qo : Nat} {H : Heap} {o w : Nat} (ho : o < 18) (hw : w = b + kn_po o) (h : ∀ x ∈ kn_pg (kn_G D r b qo) w, va_at D vwCl x H) : (∀ a, a ≤ 4 → va_at D vwCl (ka_a (kn_G D r b qo) (a, o, 0), ka_c (kn_G D r b qo) kn_σ (a, o, 0)) H) ∧ ∀ a i, 5 ≤ a → a ≤ 9 → i < 12 → va_at D vwCl (ka_a (kn_G D r b qo) (a, o, i), ka_c (kn_G D r b qo) kn_σ (a, o, i)) H := by
  have hwo : kn_wo o = kn_po o + 5 := by rcases kn_wo_r o (by omega) with ⟨x, y⟩ | ⟨x, y⟩ <;> omega
  have e0 : ka_a (kn_G D r b qo) (0, o, 0) = w := by rw [hw]; rfl
  have e1 : ka_a (kn_G D r b qo) (1, o, 0) = w + 1 := by rw [hw]; show b + (kn_po o + 1) = _; omega
  have e2 : ka_a (kn_G D r b qo) (2, o, 0) = w + 2 := by rw [hw]; show b + (kn_po o + 2) = _; omega
  have e3 : ka_a (kn_G D r b qo) (3, o, 0) = w + 2 + 1 := by rw [hw]; show b + (kn_po o + 3) = _; omega
  have e4 : ka_a (kn_G D r b qo) (4, o, 0) = w + 2 + 2 := by rw [hw]; show b + (kn_po o + 4) = _; omega
  unfold kn_pg at h
  refine ⟨fun a ha => ?_, fun a i h1 h2 hi => ?_⟩
  · rcases (show a = 0 ∨ a = 1 ∨ a = 2 ∨ a = 3 ∨ a = 4 by omega) with rfl | rfl | rfl | rfl | rfl
    · rw [e0]
      show va_at D vwCl (w, .inr (3, [.ref (ka_a (kn_G D r b qo) (1, o, 0)), .ref (ka_a (kn_G D r b qo) (2, o, 0)), .int 0, .int 30, .int 2, .int 1])) H
      rw [e1, e2]
      exact h _ (List.mem_append_left _ (List.mem_of_getElem? (i := 0) rfl))
    · rw [e1]
      refine kn_cell (h _ (List.mem_append_left _ (List.mem_of_getElem? (i := 1) rfl))) (fun j hj => ?_)
      rw [if_pos hj]
      show some _ = some (b + (kn_wo o + 5 * j + 0))
      congr 1
      omega
    · rw [e2]
      show va_at D vwCl (w + 2, .inr (2, [.ref (ka_a (kn_G D r b qo) (3, o, 0)), .ref (ka_a (kn_G D r b qo) (4, o, 0)), .int 0])) H
      rw [e3, e4]
      exact h _ (List.mem_append_left _ (List.mem_of_getElem? (i := 2) rfl))
    · rw [e3]; exact h _ (List.mem_append_left _ (List.mem_of_getElem? (i := 3) rfl))
    · rw [e4]; exact h _ (List.mem_append_left _ (List.mem_of_getElem? (i := 4) rfl))
  · exact kn_wd_at (w := w + 5 + 5 * i) (by omega) (fun x hx => h x (List.mem_append_right _ (List.mem_flatMap.mpr ⟨i, List.mem_range.mpr hi, hx⟩))) a h1 h2
/-- the class as it is made, by its keys -/
theorem kn_class {D : va_G} {r : Nat → ClassId} {b qo : Nat} {H : Heap} (hP : va_P D vwCl (kn_gj (kn_G D r b qo) b 2) H) : ∀ k : ka_K, ka_v k → k.1 ≤ 24 → va_at D vwCl (ka_a (kn_G D r b qo) k, ka_c (kn_G D r b qo) kn_σ k) H := by
  have h := kn_P_mem.mp hP
  have hf : ∀ x ∈ kn_gX (kn_G D r b qo) b, va_at D vwCl x H := fun x hx => h x (by unfold kn_gj; exact List.mem_append_left _ (List.mem_append_right _ hx))
  have htx : ∀ x ∈ kn_tx (kn_G D r b qo) (b + 1), va_at D vwCl x H := fun x hx => hf x (by unfold kn_gX; simp only [List.mem_append]; simp [hx])
  have hrd : ∀ x ∈ kn_rd (kn_G D r b qo) (b + 3), va_at D vwCl x H := fun x hx => hf x (by unfold kn_gX; simp only [List.mem_append]; simp [hx])
  have hp0 : ∀ x ∈ kn_pg (kn_G D r b qo) (b + 65), va_at D vwCl x H := fun x hx => hf x (by unfold kn_gX; simp only [List.mem_append]; simp [hx])
  have hp1 : ∀ x ∈ kn_pg (kn_G D r b qo) (b + 130), va_at D vwCl x H := fun x hx => hf x (by unfold kn_gX; simp only [List.mem_append]; simp [hx])
  have hly : ∀ x ∈ kn_ly (kn_G D r b qo) (b + 195), va_at D vwCl x H := fun x hx => hf x (by unfold kn_gX; simp only [List.mem_append]; simp [hx])
  have hhi : ∀ x ∈ kn_hj (kn_G D r b qo) (b + 201) 14, va_at D vwCl x H := fun x hx => hf x (by unfold kn_gX; simp only [List.mem_append]; simp [hx])
  have hpage : ∀ o, o < 18 → ∀ x ∈ kn_pg (kn_G D r b qo) (b + kn_po o), va_at D vwCl x H := by
    intro o ho x hx
    rcases kn_po_r o ho with ⟨e, p⟩ | ⟨e, p⟩ | ⟨e, p⟩ | ⟨e, p⟩ | ⟨e, p⟩
    · rw [p] at hx; exact hp0 x hx
    · rw [p] at hx; exact hp1 x hx
    · rw [p] at hx
      exact h x (by unfold kn_gj; exact List.mem_append_right _ (List.mem_flatMap.mpr ⟨0, by decide, hx⟩))
    · rw [p] at hx
      exact h x (by unfold kn_gj; exact List.mem_append_right _ (List.mem_flatMap.mpr ⟨1, by decide, by rw [show b + 1115 + 65 * 1 = b + 1180 by omega]; exact hx⟩))
    · rw [p] at hx
      exact hhi x (by unfold kn_hj; exact List.mem_append_right _ (List.mem_flatMap.mpr ⟨o - 4, List.mem_range.mpr (by omega), by rw [show b + 201 + 2 + 65 * (o - 4) = b + (203 + 65 * (o - 4)) by omega]; exact hx⟩))
  intro k hv hk
  obtain ⟨a, o, i⟩ := k
  rcases hv with ⟨h1, h2, h3⟩ | ⟨h1, h2, h3, h4⟩ | ⟨h1, h2, h3, h4⟩ <;> dsimp only at *
  · subst h3
    exact (kn_pg_at h2 rfl (hpage o h2)).1 a h1
  · rcases kn_wo_r o h3 with ⟨x, y⟩ | ⟨x, y⟩
    · refine kn_wd_at (w := b + 3 + 2 + 5 * i) (by omega) (fun z hz => hrd z ?_) a h1 h2
      unfold kn_rd
      exact List.mem_append_right _ (List.mem_flatMap.mpr ⟨i, List.mem_range.mpr h4, hz⟩)
    · exact (kn_pg_at x rfl (hpage o x)).2 a i h1 h2 h4
  · subst h3; subst h4
    rcases (show a = 10 ∨ a = 11 ∨ a = 12 ∨ a = 13 ∨ a = 14 ∨ a = 15 ∨ a = 16 ∨ a = 17 ∨ a = 18 ∨ a = 19 ∨ a = 20 ∨ a = 21 ∨ a = 22 ∨ a = 23 ∨ a = 24 by omega) with rfl | rfl | rfl | rfl | rfl | rfl | rfl | rfl | rfl | rfl | rfl | rfl | rfl | rfl | rfl
    · exact htx _ (List.mem_of_getElem? (i := 0) rfl)
    · exact htx _ (List.mem_of_getElem? (i := 1) rfl)
    · exact hly _ (List.mem_of_getElem? (i := 0) rfl)
    · exact hly _ (List.mem_of_getElem? (i := 1) rfl)
    · exact hly _ (List.mem_of_getElem? (i := 2) rfl)
    · exact hly _ (List.mem_of_getElem? (i := 3) rfl)
    · exact hly _ (List.mem_of_getElem? (i := 4) rfl)
    · exact hly _ (List.mem_of_getElem? (i := 5) rfl)
    · unfold kn_rd at hrd; exact hrd _ (List.mem_append_left _ (List.mem_of_getElem? (i := 0) rfl))
    · unfold kn_rd at hrd
      refine kn_cell (hrd _ (List.mem_append_left _ (List.mem_of_getElem? (i := 1) rfl))) (fun j hj => ?_)
      rw [if_pos hj]
      show some _ = some (b + (5 + 5 * j + 0))
      congr 1
      omega
    · unfold kn_hj at hhi; exact hhi _ (List.mem_append_left _ (List.mem_of_getElem? (i := 0) rfl))
    · unfold kn_hj at hhi
      refine kn_cell (hhi _ (List.mem_append_left _ (List.mem_of_getElem? (i := 1) rfl))) (fun j hj => ?_)
      rw [if_pos hj]
      show some _ = some (b + (kn_po (j + 4) + 0))
      have := kn_po_r (j + 4) (by omega)
      congr 1
      omega
    · unfold kn_gj at h; exact h _ (List.mem_append_left _ (List.mem_append_left _ (List.mem_of_getElem? (i := 0) rfl)))
    · unfold kn_gj at h
      refine kn_cell (h _ (List.mem_append_left _ (List.mem_append_left _ (List.mem_of_getElem? (i := 1) rfl)))) (fun j hj => ?_)
      rw [if_pos hj]
      show some _ = some (b + (kn_po (j + 2) + 0))
      have := kn_po_r (j + 2) (by omega)
      congr 1
      omega
    · unfold kn_gj at h; exact h _ (List.mem_append_left _ (List.mem_append_left _ (List.mem_of_getElem? (i := 2) rfl)))
def rm_X9_init : Room := { frames := 1, cells := 15, slots := 5108, locals := 21 }
set_option maxHeartbeats 4000000 in
set_option maxRecDepth 100000 in
theorem kn_X9_init (l : Launch) {D : va_G} {r : Nat → ClassId} {b qo : Nat} (hq0 : qo < b) (hI : ka_I (kn_G D r b qo)) {Qm : ka_S → Prop} (hq : kw_X9_clean kn_σ (37, 0, 0) Qm) : Met l yX9_init (kw_ yX9_init cX9_init 1 none) rm_X9_init (va_Pc [.ref (b + 1245)] (fun U => kn_N (kn_G D r b qo) U ∧ U.heap.size = b + 1245 + 1 ∧ va_at D vwCl (b + 1245, .inr (8, [.int 0, .null, .int 0, .int 0, .null, .null, .null, .null, .int 0, .null, .null, .int 0, .int 0, .int 0, .null, .null, .null, .null, .null, .null, .null, .null])) U.heap ∧ ∀ k : ka_K, ka_v k → k.1 ≤ 24 → va_at D vwCl (ka_a (kn_G D r b qo) k, ka_c (kn_G D r b qo) kn_σ k) U.heap)) (va_Qv Qm (ka_B (kn_G D r b qo)) (ka_A (kn_G D r b qo))) 15 5108 (ka_A (kn_G D r b qo)) := by
  refine Met.ofW (cc := cX9_init) (maxL := 1) (ret := none) (by decide) rfl ?_
  intro p e s m args below meth c s₁ B hml0 hv
  obtain ⟨rfl, hN, hs, hat, hcls⟩ := hv
  have hts0 := atoms_spec (ws := kw_ yX9_init cX9_init 1 none) B.pre
  have hl := lv_entry [.ref (b + 1245)] (n := 1) (Nat.le_of_ble_eq_true rfl)
  rw [lg_entry_eq]
  generalize (lg_sl ([.ref (b + 1245)]) ++ List.replicate (1 - (lg_sl ([.ref (b + 1245)])).length) Slot.unset).toArray = ls at hl ⊢
  have C0 : ka_C p s m #[.ref (b + 1245)] meth c cX9_init 1 "GlossRowsModel" none := ⟨B.exec, B.bytes, B.returns, hml0, findClass_of_methodNamed B.named, fun w hw => hts0 w (List.mem_cons_of_mem _ hw), B.notSynchronized⟩
  obtain ⟨hx, hb, -, hml, hown, hts, -⟩ := id C0
  have hin : meth.name = "<init>" := (name_of_methodNamed B.named B.method).1
  obtain ⟨G, hG⟩ : ∃ z, z = kn_G D r b qo := ⟨_, rfl⟩
  obtain ⟨h, hh⟩ : ∃ z, z = b + 1245 := ⟨_, rfl⟩
  have hl : lv_has ls 1 [(0, .ref h)] := by rw [hh]; exact hl
  have hs : s.heap.size = h + 1 := by rw [hh]; exact hs
  have hA : ∀ q, s.heap.size ≤ q → kn_A h q := fun q h9 => by rw [hs] at h9; exact Nat.le_of_succ_le h9
  have hw : kn G (kn_A h) [(h, .inr (8, [.int 0, .null, .int 0, .int 0, .null, .null, .null, .null, .int 0, .null, .null, .int 0, .int 0, .int 0, .null, .null, .null, .null, .null, .null, .null, .null]))] (h + 1) s s.heap [] := by
    refine ⟨hs, va_P1 (by rw [hG, hh]; exact hat), ⟨fun i j p q hi hj _ => ?_, fun k q hk => ?_⟩, va_S.rf⟩
    · match i, j, hi, hj with
      | 0, 0, _, _ => rfl
      | 0, j + 1, _, hj => simp at hj
      | i + 1, _, hi, _ => simp at hi
    · match k, hk with
      | 0, hk => cases hk; exact Nat.le_refl _
      | k + 1, hk => simp at hk
  have hN : kn_N G s := by rw [hG]; exact hN
  suffices body : ∀ (H : Heap) (locs : List Loc), kn G (kn_A h) [(h, .inr (8, [.int 0, .null, .int 0, .int 0, .null, .null, .null, .null, .int 0, .null, .null, .int 0, .int 0, .int 0, .null, .null, .null, .null, .null, .null, .null, .null]))] (h + 1) s H locs → W p l e rm_X9_init s m #[.ref (b + 1245)] below meth c H locs 0 0 (MQ below (va_Qv Qm (ka_B (kn_G D r b qo)) (ka_A (kn_G D r b qo))) #[.ref (b + 1245)] s 15 5108 (ka_A (kn_G D r b qo))) (F0 m 0 ls []) from body _ _ hw
  clear hw
  intro H locs hw
  refine lv_aload_n hx hb dX9_init_0 rfl (lv_at hl 0 rfl) ?_
  refine W.objInit hx hb hown (hts _ kq_949) (hts _ kq_24) (hts _ kq_25) rfl (hl.1.trans hml.symm) rfl dX9_init_1 (Nat.le_of_ble_eq_true rfl) (Nat.le_of_ble_eq_true rfl) ?_
  refine W.eq (g2 := F0 m 4 ls []) rfl ?_
  refine lv_aload_n hx hb dX9_init_4 rfl (lv_at hl 0 rfl) ?_
  refine lv_bipush (v := 60) hx hb dX9_init_5 (by decide) ?_
  refine kn_newa (t := 0) (N := 60) (a0 := (60, .inl (fun _ => 0))) C0 hN hw hA rfl rfl (fun h => h) kn_aI (fun _ => rfl) (by decide) (by decide) (by decide) ⟨Nat.le_of_ble_eq_true rfl, Nat.le_of_ble_eq_true rfl⟩ dX9_init_7 (fun H hw => ?_)
  have hw : kn G (kn_A h) [(h, .inr (8, [.int 0, .null, .int 0, .int 0, .null, .null, .null, .null, .int 0, .null, .null, .int 0, .int 0, .int 0, .null, .null, .null, .null, .null, .null, .null, .null])), (h + 1, .inl (ka_r G 0, 60, .inl (fun _ => 0)))] (h + 2) s H locs := hw
  refine kn_putF (q0 := 0) (ci := 8) (j := 1) (C := RX9) (TT := TX9) (N := 22) (ty := tyX9 1) C0 hN hw rfl rfl kq_inX9 tyX9 tyX9_ok nmX9 (by decide) rfl kq_956 rfl hin (tyX9_ok 1 (by decide)) rfl rfl (Nat.le_of_ble_eq_true rfl) dX9_init_9 (fun H locs hw => ?_)
  have hw : kn G (kn_A h) [(h, .inr (8, [.int 0, .ref (h + 1), .int 0, .int 0, .null, .null, .null, .null, .int 0, .null, .null, .int 0, .int 0, .int 0, .null, .null, .null, .null, .null, .null, .null, .null])), (h + 1, .inl (ka_r G 0, 60, .inl (fun _ => 0)))] (h + 2) s H locs := hw
  refine lv_aload_n hx hb dX9_init_12 rfl (lv_at hl 0 rfl) ?_
  refine lv_sipush (v := 216) hx hb dX9_init_13 (by decide) ?_
  refine kn_newa (t := 1) (N := 216) (a0 := (216, .inr (.inl (fun _ => 0)))) C0 hN hw hA rfl rfl (fun h => h) kn_aJ (fun _ => rfl) (by decide) (by decide) (by decide) ⟨Nat.le_of_ble_eq_true rfl, Nat.le_of_ble_eq_true rfl⟩ dX9_init_16 (fun H hw => ?_)
  have hw : kn G (kn_A h) [(h, .inr (8, [.int 0, .ref (h + 1), .int 0, .int 0, .null, .null, .null, .null, .int 0, .null, .null, .int 0, .int 0, .int 0, .null, .null, .null, .null, .null, .null, .null, .null])), (h + 1, .inl (ka_r G 0, 60, .inl (fun _ => 0))), (h + 2, .inl (ka_r G 1, 216, .inr (.inl (fun _ => 0))))] (h + 3) s H locs := hw
  refine kn_putF (q0 := 0) (ci := 8) (j := 4) (C := RX9) (TT := TX9) (N := 22) (ty := tyX9 4) C0 hN hw rfl rfl kq_inX9 tyX9 tyX9_ok nmX9 (by decide) rfl kq_959 rfl hin (tyX9_ok 4 (by decide)) rfl rfl (Nat.le_of_ble_eq_true rfl) dX9_init_18 (fun H locs hw => ?_)
  have hw : kn G (kn_A h) [(h, .inr (8, [.int 0, .ref (h + 1), .int 0, .int 0, .ref (h + 2), .null, .null, .null, .int 0, .null, .null, .int 0, .int 0, .int 0, .null, .null, .null, .null, .null, .null, .null, .null])), (h + 1, .inl (ka_r G 0, 60, .inl (fun _ => 0))), (h + 2, .inl (ka_r G 1, 216, .inr (.inl (fun _ => 0))))] (h + 3) s H locs := hw
  refine lv_aload_n hx hb dX9_init_21 rfl (lv_at hl 0 rfl) ?_
  refine lv_sipush (v := 253) hx hb dX9_init_22 (by decide) ?_
  refine kn_newa (t := 1) (N := 253) (a0 := (253, .inr (.inl (fun _ => 0)))) C0 hN hw hA rfl rfl (fun h => h) kn_aJ (fun _ => rfl) (by decide) (by decide) (by decide) ⟨Nat.le_of_ble_eq_true rfl, Nat.le_of_ble_eq_true rfl⟩ dX9_init_25 (fun H hw => ?_)
  have hw : kn G (kn_A h) [(h, .inr (8, [.int 0, .ref (h + 1), .int 0, .int 0, .ref (h + 2), .null, .null, .null, .int 0, .null, .null, .int 0, .int 0, .int 0, .null, .null, .null, .null, .null, .null, .null, .null])), (h + 1, .inl (ka_r G 0, 60, .inl (fun _ => 0))), (h + 2, .inl (ka_r G 1, 216, .inr (.inl (fun _ => 0)))), (h + 3, .inl (ka_r G 1, 253, .inr (.inl (fun _ => 0))))] (h + 4) s H locs := hw
  refine kn_putF (q0 := 0) (ci := 8) (j := 5) (C := RX9) (TT := TX9) (N := 22) (ty := tyX9 5) C0 hN hw rfl rfl kq_inX9 tyX9 tyX9_ok nmX9 (by decide) rfl kq_960 rfl hin (tyX9_ok 5 (by decide)) rfl rfl (Nat.le_of_ble_eq_true rfl) dX9_init_27 (fun H locs hw => ?_)
  have hw : kn G (kn_A h) [(h, .inr (8, [.int 0, .ref (h + 1), .int 0, .int 0, .ref (h + 2), .ref (h + 3), .null, .null, .int 0, .null, .null, .int 0, .int 0, .int 0, .null, .null, .null, .null, .null, .null, .null, .null])), (h + 1, .inl (ka_r G 0, 60, .inl (fun _ => 0))), (h + 2, .inl (ka_r G 1, 216, .inr (.inl (fun _ => 0)))), (h + 3, .inl (ka_r G 1, 253, .inr (.inl (fun _ => 0))))] (h + 4) s H locs := hw
  refine lv_aload_n hx hb dX9_init_30 rfl (lv_at hl 0 rfl) ?_
  refine lv_sipush (v := 253) hx hb dX9_init_31 (by decide) ?_
  refine kn_newa (t := 1) (N := 253) (a0 := (253, .inr (.inl (fun _ => 0)))) C0 hN hw hA rfl rfl (fun h => h) kn_aJ (fun _ => rfl) (by decide) (by decide) (by decide) ⟨Nat.le_of_ble_eq_true rfl, Nat.le_of_ble_eq_true rfl⟩ dX9_init_34 (fun H hw => ?_)
  have hw : kn G (kn_A h) [(h, .inr (8, [.int 0, .ref (h + 1), .int 0, .int 0, .ref (h + 2), .ref (h + 3), .null, .null, .int 0, .null, .null, .int 0, .int 0, .int 0, .null, .null, .null, .null, .null, .null, .null, .null])), (h + 1, .inl (ka_r G 0, 60, .inl (fun _ => 0))), (h + 2, .inl (ka_r G 1, 216, .inr (.inl (fun _ => 0)))), (h + 3, .inl (ka_r G 1, 253, .inr (.inl (fun _ => 0)))), (h + 4, .inl (ka_r G 1, 253, .inr (.inl (fun _ => 0))))] (h + 5) s H locs := hw
  refine kn_putF (q0 := 0) (ci := 8) (j := 6) (C := RX9) (TT := TX9) (N := 22) (ty := tyX9 6) C0 hN hw rfl rfl kq_inX9 tyX9 tyX9_ok nmX9 (by decide) rfl kq_961 rfl hin (tyX9_ok 6 (by decide)) rfl rfl (Nat.le_of_ble_eq_true rfl) dX9_init_36 (fun H locs hw => ?_)
  have hw : kn G (kn_A h) [(h, .inr (8, [.int 0, .ref (h + 1), .int 0, .int 0, .ref (h + 2), .ref (h + 3), .ref (h + 4), .null, .int 0, .null, .null, .int 0, .int 0, .int 0, .null, .null, .null, .null, .null, .null, .null, .null])), (h + 1, .inl (ka_r G 0, 60, .inl (fun _ => 0))), (h + 2, .inl (ka_r G 1, 216, .inr (.inl (fun _ => 0)))), (h + 3, .inl (ka_r G 1, 253, .inr (.inl (fun _ => 0)))), (h + 4, .inl (ka_r G 1, 253, .inr (.inl (fun _ => 0))))] (h + 5) s H locs := hw
  refine lv_aload_n hx hb dX9_init_39 rfl (lv_at hl 0 rfl) ?_
  refine lv_sipush (v := 3542) hx hb dX9_init_40 (by decide) ?_
  refine kn_newa (t := 1) (N := 3542) (a0 := (3542, .inr (.inl (fun _ => 0)))) C0 hN hw hA rfl rfl (fun h => h) kn_aJ (fun _ => rfl) (by decide) (by decide) (by decide) ⟨Nat.le_of_ble_eq_true rfl, Nat.le_of_ble_eq_true rfl⟩ dX9_init_43 (fun H hw => ?_)
  have hw : kn G (kn_A h) [(h, .inr (8, [.int 0, .ref (h + 1), .int 0, .int 0, .ref (h + 2), .ref (h + 3), .ref (h + 4), .null, .int 0, .null, .null, .int 0, .int 0, .int 0, .null, .null, .null, .null, .null, .null, .null, .null])), (h + 1, .inl (ka_r G 0, 60, .inl (fun _ => 0))), (h + 2, .inl (ka_r G 1, 216, .inr (.inl (fun _ => 0)))), (h + 3, .inl (ka_r G 1, 253, .inr (.inl (fun _ => 0)))), (h + 4, .inl (ka_r G 1, 253, .inr (.inl (fun _ => 0)))), (h + 5, .inl (ka_r G 1, 3542, .inr (.inl (fun _ => 0))))] (h + 6) s H locs := hw
  refine kn_putF (q0 := 0) (ci := 8) (j := 7) (C := RX9) (TT := TX9) (N := 22) (ty := tyX9 7) C0 hN hw rfl rfl kq_inX9 tyX9 tyX9_ok nmX9 (by decide) rfl kq_962 rfl hin (tyX9_ok 7 (by decide)) rfl rfl (Nat.le_of_ble_eq_true rfl) dX9_init_45 (fun H locs hw => ?_)
  have hw : kn G (kn_A h) [(h, .inr (8, [.int 0, .ref (h + 1), .int 0, .int 0, .ref (h + 2), .ref (h + 3), .ref (h + 4), .ref (h + 5), .int 0, .null, .null, .int 0, .int 0, .int 0, .null, .null, .null, .null, .null, .null, .null, .null])), (h + 1, .inl (ka_r G 0, 60, .inl (fun _ => 0))), (h + 2, .inl (ka_r G 1, 216, .inr (.inl (fun _ => 0)))), (h + 3, .inl (ka_r G 1, 253, .inr (.inl (fun _ => 0)))), (h + 4, .inl (ka_r G 1, 253, .inr (.inl (fun _ => 0)))), (h + 5, .inl (ka_r G 1, 3542, .inr (.inl (fun _ => 0))))] (h + 6) s H locs := hw
  refine lv_aload_n hx hb dX9_init_48 rfl (lv_at hl 0 rfl) ?_
  refine lv_sipush (v := 506) hx hb dX9_init_49 (by decide) ?_
  refine kn_newa (t := 1) (N := 506) (a0 := (506, .inr (.inl (fun _ => 0)))) C0 hN hw hA rfl rfl (fun h => h) kn_aJ (fun _ => rfl) (by decide) (by decide) (by decide) ⟨Nat.le_of_ble_eq_true rfl, Nat.le_of_ble_eq_true rfl⟩ dX9_init_52 (fun H hw => ?_)
  have hw : kn G (kn_A h) [(h, .inr (8, [.int 0, .ref (h + 1), .int 0, .int 0, .ref (h + 2), .ref (h + 3), .ref (h + 4), .ref (h + 5), .int 0, .null, .null, .int 0, .int 0, .int 0, .null, .null, .null, .null, .null, .null, .null, .null])), (h + 1, .inl (ka_r G 0, 60, .inl (fun _ => 0))), (h + 2, .inl (ka_r G 1, 216, .inr (.inl (fun _ => 0)))), (h + 3, .inl (ka_r G 1, 253, .inr (.inl (fun _ => 0)))), (h + 4, .inl (ka_r G 1, 253, .inr (.inl (fun _ => 0)))), (h + 5, .inl (ka_r G 1, 3542, .inr (.inl (fun _ => 0)))), (h + 6, .inl (ka_r G 1, 506, .inr (.inl (fun _ => 0))))] (h + 7) s H locs := hw
  refine kn_putF (q0 := 0) (ci := 8) (j := 9) (C := RX9) (TT := TX9) (N := 22) (ty := tyX9 9) C0 hN hw rfl rfl kq_inX9 tyX9 tyX9_ok nmX9 (by decide) rfl kq_964 rfl hin (tyX9_ok 9 (by decide)) rfl rfl (Nat.le_of_ble_eq_true rfl) dX9_init_54 (fun H locs hw => ?_)
  have hw : kn G (kn_A h) [(h, .inr (8, [.int 0, .ref (h + 1), .int 0, .int 0, .ref (h + 2), .ref (h + 3), .ref (h + 4), .ref (h + 5), .int 0, .ref (h + 6), .null, .int 0, .int 0, .int 0, .null, .null, .null, .null, .null, .null, .null, .null])), (h + 1, .inl (ka_r G 0, 60, .inl (fun _ => 0))), (h + 2, .inl (ka_r G 1, 216, .inr (.inl (fun _ => 0)))), (h + 3, .inl (ka_r G 1, 253, .inr (.inl (fun _ => 0)))), (h + 4, .inl (ka_r G 1, 253, .inr (.inl (fun _ => 0)))), (h + 5, .inl (ka_r G 1, 3542, .inr (.inl (fun _ => 0)))), (h + 6, .inl (ka_r G 1, 506, .inr (.inl (fun _ => 0))))] (h + 7) s H locs := hw
  refine lv_aload_n hx hb dX9_init_57 rfl (lv_at hl 0 rfl) ?_
  refine lv_iconst (v := 2) hx hb dX9_init_58 (by decide) ?_
  refine kn_newa (t := 2) (N := 2) (a0 := (2, .inl (fun _ => 0))) C0 hN hw hA rfl rfl (fun h => h) kn_aZ (fun _ => rfl) (by decide) (by decide) (by decide) ⟨Nat.le_of_ble_eq_true rfl, Nat.le_of_ble_eq_true rfl⟩ dX9_init_59 (fun H hw => ?_)
  have hw : kn G (kn_A h) [(h, .inr (8, [.int 0, .ref (h + 1), .int 0, .int 0, .ref (h + 2), .ref (h + 3), .ref (h + 4), .ref (h + 5), .int 0, .ref (h + 6), .null, .int 0, .int 0, .int 0, .null, .null, .null, .null, .null, .null, .null, .null])), (h + 1, .inl (ka_r G 0, 60, .inl (fun _ => 0))), (h + 2, .inl (ka_r G 1, 216, .inr (.inl (fun _ => 0)))), (h + 3, .inl (ka_r G 1, 253, .inr (.inl (fun _ => 0)))), (h + 4, .inl (ka_r G 1, 253, .inr (.inl (fun _ => 0)))), (h + 5, .inl (ka_r G 1, 3542, .inr (.inl (fun _ => 0)))), (h + 6, .inl (ka_r G 1, 506, .inr (.inl (fun _ => 0)))), (h + 7, .inl (ka_r G 2, 2, .inl (fun _ => 0)))] (h + 8) s H locs := hw
  refine kn_putF (q0 := 0) (ci := 8) (j := 10) (C := RX9) (TT := TX9) (N := 22) (ty := tyX9 10) C0 hN hw rfl rfl kq_inX9 tyX9 tyX9_ok nmX9 (by decide) rfl kq_965 rfl hin (tyX9_ok 10 (by decide)) rfl rfl (Nat.le_of_ble_eq_true rfl) dX9_init_61 (fun H locs hw => ?_)
  have hw : kn G (kn_A h) [(h, .inr (8, [.int 0, .ref (h + 1), .int 0, .int 0, .ref (h + 2), .ref (h + 3), .ref (h + 4), .ref (h + 5), .int 0, .ref (h + 6), .ref (h + 7), .int 0, .int 0, .int 0, .null, .null, .null, .null, .null, .null, .null, .null])), (h + 1, .inl (ka_r G 0, 60, .inl (fun _ => 0))), (h + 2, .inl (ka_r G 1, 216, .inr (.inl (fun _ => 0)))), (h + 3, .inl (ka_r G 1, 253, .inr (.inl (fun _ => 0)))), (h + 4, .inl (ka_r G 1, 253, .inr (.inl (fun _ => 0)))), (h + 5, .inl (ka_r G 1, 3542, .inr (.inl (fun _ => 0)))), (h + 6, .inl (ka_r G 1, 506, .inr (.inl (fun _ => 0)))), (h + 7, .inl (ka_r G 2, 2, .inl (fun _ => 0)))] (h + 8) s H locs := hw
  refine lv_aload_n hx hb dX9_init_64 rfl (lv_at hl 0 rfl) ?_
  refine lv_bipush (v := 12) hx hb dX9_init_65 (by decide) ?_
  refine kn_newa (t := 0) (N := 12) (a0 := (12, .inl (fun _ => 0))) C0 hN hw hA rfl rfl (fun h => h) kn_aI (fun _ => rfl) (by decide) (by decide) (by decide) ⟨Nat.le_of_ble_eq_true rfl, Nat.le_of_ble_eq_true rfl⟩ dX9_init_67 (fun H hw => ?_)
  have hw : kn G (kn_A h) [(h, .inr (8, [.int 0, .ref (h + 1), .int 0, .int 0, .ref (h + 2), .ref (h + 3), .ref (h + 4), .ref (h + 5), .int 0, .ref (h + 6), .ref (h + 7), .int 0, .int 0, .int 0, .null, .null, .null, .null, .null, .null, .null, .null])), (h + 1, .inl (ka_r G 0, 60, .inl (fun _ => 0))), (h + 2, .inl (ka_r G 1, 216, .inr (.inl (fun _ => 0)))), (h + 3, .inl (ka_r G 1, 253, .inr (.inl (fun _ => 0)))), (h + 4, .inl (ka_r G 1, 253, .inr (.inl (fun _ => 0)))), (h + 5, .inl (ka_r G 1, 3542, .inr (.inl (fun _ => 0)))), (h + 6, .inl (ka_r G 1, 506, .inr (.inl (fun _ => 0)))), (h + 7, .inl (ka_r G 2, 2, .inl (fun _ => 0))), (h + 8, .inl (ka_r G 0, 12, .inl (fun _ => 0)))] (h + 9) s H locs := hw
  refine kn_putF (q0 := 0) (ci := 8) (j := 14) (C := RX9) (TT := TX9) (N := 22) (ty := tyX9 14) C0 hN hw rfl rfl kq_inX9 tyX9 tyX9_ok nmX9 (by decide) rfl kq_969 rfl hin (tyX9_ok 14 (by decide)) rfl rfl (Nat.le_of_ble_eq_true rfl) dX9_init_69 (fun H locs hw => ?_)
  have hw : kn G (kn_A h) [(h, .inr (8, [.int 0, .ref (h + 1), .int 0, .int 0, .ref (h + 2), .ref (h + 3), .ref (h + 4), .ref (h + 5), .int 0, .ref (h + 6), .ref (h + 7), .int 0, .int 0, .int 0, .ref (h + 8), .null, .null, .null, .null, .null, .null, .null])), (h + 1, .inl (ka_r G 0, 60, .inl (fun _ => 0))), (h + 2, .inl (ka_r G 1, 216, .inr (.inl (fun _ => 0)))), (h + 3, .inl (ka_r G 1, 253, .inr (.inl (fun _ => 0)))), (h + 4, .inl (ka_r G 1, 253, .inr (.inl (fun _ => 0)))), (h + 5, .inl (ka_r G 1, 3542, .inr (.inl (fun _ => 0)))), (h + 6, .inl (ka_r G 1, 506, .inr (.inl (fun _ => 0)))), (h + 7, .inl (ka_r G 2, 2, .inl (fun _ => 0))), (h + 8, .inl (ka_r G 0, 12, .inl (fun _ => 0)))] (h + 9) s H locs := hw
  refine lv_aload_n hx hb dX9_init_72 rfl (lv_at hl 0 rfl) ?_
  refine lv_bipush (v := 12) hx hb dX9_init_73 (by decide) ?_
  refine kn_newa (t := 0) (N := 12) (a0 := (12, .inl (fun _ => 0))) C0 hN hw hA rfl rfl (fun h => h) kn_aI (fun _ => rfl) (by decide) (by decide) (by decide) ⟨Nat.le_of_ble_eq_true rfl, Nat.le_of_ble_eq_true rfl⟩ dX9_init_75 (fun H hw => ?_)
  have hw : kn G (kn_A h) [(h, .inr (8, [.int 0, .ref (h + 1), .int 0, .int 0, .ref (h + 2), .ref (h + 3), .ref (h + 4), .ref (h + 5), .int 0, .ref (h + 6), .ref (h + 7), .int 0, .int 0, .int 0, .ref (h + 8), .null, .null, .null, .null, .null, .null, .null])), (h + 1, .inl (ka_r G 0, 60, .inl (fun _ => 0))), (h + 2, .inl (ka_r G 1, 216, .inr (.inl (fun _ => 0)))), (h + 3, .inl (ka_r G 1, 253, .inr (.inl (fun _ => 0)))), (h + 4, .inl (ka_r G 1, 253, .inr (.inl (fun _ => 0)))), (h + 5, .inl (ka_r G 1, 3542, .inr (.inl (fun _ => 0)))), (h + 6, .inl (ka_r G 1, 506, .inr (.inl (fun _ => 0)))), (h + 7, .inl (ka_r G 2, 2, .inl (fun _ => 0))), (h + 8, .inl (ka_r G 0, 12, .inl (fun _ => 0))), (h + 9, .inl (ka_r G 0, 12, .inl (fun _ => 0)))] (h + 10) s H locs := hw
  refine kn_putF (q0 := 0) (ci := 8) (j := 15) (C := RX9) (TT := TX9) (N := 22) (ty := tyX9 15) C0 hN hw rfl rfl kq_inX9 tyX9 tyX9_ok nmX9 (by decide) rfl kq_970 rfl hin (tyX9_ok 15 (by decide)) rfl rfl (Nat.le_of_ble_eq_true rfl) dX9_init_77 (fun H locs hw => ?_)
  have hw : kn G (kn_A h) [(h, .inr (8, [.int 0, .ref (h + 1), .int 0, .int 0, .ref (h + 2), .ref (h + 3), .ref (h + 4), .ref (h + 5), .int 0, .ref (h + 6), .ref (h + 7), .int 0, .int 0, .int 0, .ref (h + 8), .ref (h + 9), .null, .null, .null, .null, .null, .null])), (h + 1, .inl (ka_r G 0, 60, .inl (fun _ => 0))), (h + 2, .inl (ka_r G 1, 216, .inr (.inl (fun _ => 0)))), (h + 3, .inl (ka_r G 1, 253, .inr (.inl (fun _ => 0)))), (h + 4, .inl (ka_r G 1, 253, .inr (.inl (fun _ => 0)))), (h + 5, .inl (ka_r G 1, 3542, .inr (.inl (fun _ => 0)))), (h + 6, .inl (ka_r G 1, 506, .inr (.inl (fun _ => 0)))), (h + 7, .inl (ka_r G 2, 2, .inl (fun _ => 0))), (h + 8, .inl (ka_r G 0, 12, .inl (fun _ => 0))), (h + 9, .inl (ka_r G 0, 12, .inl (fun _ => 0)))] (h + 10) s H locs := hw
  refine lv_aload_n hx hb dX9_init_80 rfl (lv_at hl 0 rfl) ?_
  refine lv_bipush (v := 12) hx hb dX9_init_81 (by decide) ?_
  refine kn_newa (t := 0) (N := 12) (a0 := (12, .inl (fun _ => 0))) C0 hN hw hA rfl rfl (fun h => h) kn_aI (fun _ => rfl) (by decide) (by decide) (by decide) ⟨Nat.le_of_ble_eq_true rfl, Nat.le_of_ble_eq_true rfl⟩ dX9_init_83 (fun H hw => ?_)
  have hw : kn G (kn_A h) [(h, .inr (8, [.int 0, .ref (h + 1), .int 0, .int 0, .ref (h + 2), .ref (h + 3), .ref (h + 4), .ref (h + 5), .int 0, .ref (h + 6), .ref (h + 7), .int 0, .int 0, .int 0, .ref (h + 8), .ref (h + 9), .null, .null, .null, .null, .null, .null])), (h + 1, .inl (ka_r G 0, 60, .inl (fun _ => 0))), (h + 2, .inl (ka_r G 1, 216, .inr (.inl (fun _ => 0)))), (h + 3, .inl (ka_r G 1, 253, .inr (.inl (fun _ => 0)))), (h + 4, .inl (ka_r G 1, 253, .inr (.inl (fun _ => 0)))), (h + 5, .inl (ka_r G 1, 3542, .inr (.inl (fun _ => 0)))), (h + 6, .inl (ka_r G 1, 506, .inr (.inl (fun _ => 0)))), (h + 7, .inl (ka_r G 2, 2, .inl (fun _ => 0))), (h + 8, .inl (ka_r G 0, 12, .inl (fun _ => 0))), (h + 9, .inl (ka_r G 0, 12, .inl (fun _ => 0))), (h + 10, .inl (ka_r G 0, 12, .inl (fun _ => 0)))] (h + 11) s H locs := hw
  refine kn_putF (q0 := 0) (ci := 8) (j := 16) (C := RX9) (TT := TX9) (N := 22) (ty := tyX9 16) C0 hN hw rfl rfl kq_inX9 tyX9 tyX9_ok nmX9 (by decide) rfl kq_971 rfl hin (tyX9_ok 16 (by decide)) rfl rfl (Nat.le_of_ble_eq_true rfl) dX9_init_85 (fun H locs hw => ?_)
  have hw : kn G (kn_A h) [(h, .inr (8, [.int 0, .ref (h + 1), .int 0, .int 0, .ref (h + 2), .ref (h + 3), .ref (h + 4), .ref (h + 5), .int 0, .ref (h + 6), .ref (h + 7), .int 0, .int 0, .int 0, .ref (h + 8), .ref (h + 9), .ref (h + 10), .null, .null, .null, .null, .null])), (h + 1, .inl (ka_r G 0, 60, .inl (fun _ => 0))), (h + 2, .inl (ka_r G 1, 216, .inr (.inl (fun _ => 0)))), (h + 3, .inl (ka_r G 1, 253, .inr (.inl (fun _ => 0)))), (h + 4, .inl (ka_r G 1, 253, .inr (.inl (fun _ => 0)))), (h + 5, .inl (ka_r G 1, 3542, .inr (.inl (fun _ => 0)))), (h + 6, .inl (ka_r G 1, 506, .inr (.inl (fun _ => 0)))), (h + 7, .inl (ka_r G 2, 2, .inl (fun _ => 0))), (h + 8, .inl (ka_r G 0, 12, .inl (fun _ => 0))), (h + 9, .inl (ka_r G 0, 12, .inl (fun _ => 0))), (h + 10, .inl (ka_r G 0, 12, .inl (fun _ => 0)))] (h + 11) s H locs := hw
  refine lv_aload_n hx hb dX9_init_88 rfl (lv_at hl 0 rfl) ?_
  refine lv_bipush (v := 12) hx hb dX9_init_89 (by decide) ?_
  refine kn_newa (t := 0) (N := 12) (a0 := (12, .inl (fun _ => 0))) C0 hN hw hA rfl rfl (fun h => h) kn_aI (fun _ => rfl) (by decide) (by decide) (by decide) ⟨Nat.le_of_ble_eq_true rfl, Nat.le_of_ble_eq_true rfl⟩ dX9_init_91 (fun H hw => ?_)
  have hw : kn G (kn_A h) [(h, .inr (8, [.int 0, .ref (h + 1), .int 0, .int 0, .ref (h + 2), .ref (h + 3), .ref (h + 4), .ref (h + 5), .int 0, .ref (h + 6), .ref (h + 7), .int 0, .int 0, .int 0, .ref (h + 8), .ref (h + 9), .ref (h + 10), .null, .null, .null, .null, .null])), (h + 1, .inl (ka_r G 0, 60, .inl (fun _ => 0))), (h + 2, .inl (ka_r G 1, 216, .inr (.inl (fun _ => 0)))), (h + 3, .inl (ka_r G 1, 253, .inr (.inl (fun _ => 0)))), (h + 4, .inl (ka_r G 1, 253, .inr (.inl (fun _ => 0)))), (h + 5, .inl (ka_r G 1, 3542, .inr (.inl (fun _ => 0)))), (h + 6, .inl (ka_r G 1, 506, .inr (.inl (fun _ => 0)))), (h + 7, .inl (ka_r G 2, 2, .inl (fun _ => 0))), (h + 8, .inl (ka_r G 0, 12, .inl (fun _ => 0))), (h + 9, .inl (ka_r G 0, 12, .inl (fun _ => 0))), (h + 10, .inl (ka_r G 0, 12, .inl (fun _ => 0))), (h + 11, .inl (ka_r G 0, 12, .inl (fun _ => 0)))] (h + 12) s H locs := hw
  refine kn_putF (q0 := 0) (ci := 8) (j := 17) (C := RX9) (TT := TX9) (N := 22) (ty := tyX9 17) C0 hN hw rfl rfl kq_inX9 tyX9 tyX9_ok nmX9 (by decide) rfl kq_972 rfl hin (tyX9_ok 17 (by decide)) rfl rfl (Nat.le_of_ble_eq_true rfl) dX9_init_93 (fun H locs hw => ?_)
  have hw : kn G (kn_A h) [(h, .inr (8, [.int 0, .ref (h + 1), .int 0, .int 0, .ref (h + 2), .ref (h + 3), .ref (h + 4), .ref (h + 5), .int 0, .ref (h + 6), .ref (h + 7), .int 0, .int 0, .int 0, .ref (h + 8), .ref (h + 9), .ref (h + 10), .ref (h + 11), .null, .null, .null, .null])), (h + 1, .inl (ka_r G 0, 60, .inl (fun _ => 0))), (h + 2, .inl (ka_r G 1, 216, .inr (.inl (fun _ => 0)))), (h + 3, .inl (ka_r G 1, 253, .inr (.inl (fun _ => 0)))), (h + 4, .inl (ka_r G 1, 253, .inr (.inl (fun _ => 0)))), (h + 5, .inl (ka_r G 1, 3542, .inr (.inl (fun _ => 0)))), (h + 6, .inl (ka_r G 1, 506, .inr (.inl (fun _ => 0)))), (h + 7, .inl (ka_r G 2, 2, .inl (fun _ => 0))), (h + 8, .inl (ka_r G 0, 12, .inl (fun _ => 0))), (h + 9, .inl (ka_r G 0, 12, .inl (fun _ => 0))), (h + 10, .inl (ka_r G 0, 12, .inl (fun _ => 0))), (h + 11, .inl (ka_r G 0, 12, .inl (fun _ => 0)))] (h + 12) s H locs := hw
  refine lv_aload_n hx hb dX9_init_96 rfl (lv_at hl 0 rfl) ?_
  refine lv_bipush (v := 12) hx hb dX9_init_97 (by decide) ?_
  refine kn_newa (t := 0) (N := 12) (a0 := (12, .inl (fun _ => 0))) C0 hN hw hA rfl rfl (fun h => h) kn_aI (fun _ => rfl) (by decide) (by decide) (by decide) ⟨Nat.le_of_ble_eq_true rfl, Nat.le_of_ble_eq_true rfl⟩ dX9_init_99 (fun H hw => ?_)
  have hw : kn G (kn_A h) [(h, .inr (8, [.int 0, .ref (h + 1), .int 0, .int 0, .ref (h + 2), .ref (h + 3), .ref (h + 4), .ref (h + 5), .int 0, .ref (h + 6), .ref (h + 7), .int 0, .int 0, .int 0, .ref (h + 8), .ref (h + 9), .ref (h + 10), .ref (h + 11), .null, .null, .null, .null])), (h + 1, .inl (ka_r G 0, 60, .inl (fun _ => 0))), (h + 2, .inl (ka_r G 1, 216, .inr (.inl (fun _ => 0)))), (h + 3, .inl (ka_r G 1, 253, .inr (.inl (fun _ => 0)))), (h + 4, .inl (ka_r G 1, 253, .inr (.inl (fun _ => 0)))), (h + 5, .inl (ka_r G 1, 3542, .inr (.inl (fun _ => 0)))), (h + 6, .inl (ka_r G 1, 506, .inr (.inl (fun _ => 0)))), (h + 7, .inl (ka_r G 2, 2, .inl (fun _ => 0))), (h + 8, .inl (ka_r G 0, 12, .inl (fun _ => 0))), (h + 9, .inl (ka_r G 0, 12, .inl (fun _ => 0))), (h + 10, .inl (ka_r G 0, 12, .inl (fun _ => 0))), (h + 11, .inl (ka_r G 0, 12, .inl (fun _ => 0))), (h + 12, .inl (ka_r G 0, 12, .inl (fun _ => 0)))] (h + 13) s H locs := hw
  refine kn_putF (q0 := 0) (ci := 8) (j := 18) (C := RX9) (TT := TX9) (N := 22) (ty := tyX9 18) C0 hN hw rfl rfl kq_inX9 tyX9 tyX9_ok nmX9 (by decide) rfl kq_973 rfl hin (tyX9_ok 18 (by decide)) rfl rfl (Nat.le_of_ble_eq_true rfl) dX9_init_101 (fun H locs hw => ?_)
  have hw : kn G (kn_A h) [(h, .inr (8, [.int 0, .ref (h + 1), .int 0, .int 0, .ref (h + 2), .ref (h + 3), .ref (h + 4), .ref (h + 5), .int 0, .ref (h + 6), .ref (h + 7), .int 0, .int 0, .int 0, .ref (h + 8), .ref (h + 9), .ref (h + 10), .ref (h + 11), .ref (h + 12), .null, .null, .null])), (h + 1, .inl (ka_r G 0, 60, .inl (fun _ => 0))), (h + 2, .inl (ka_r G 1, 216, .inr (.inl (fun _ => 0)))), (h + 3, .inl (ka_r G 1, 253, .inr (.inl (fun _ => 0)))), (h + 4, .inl (ka_r G 1, 253, .inr (.inl (fun _ => 0)))), (h + 5, .inl (ka_r G 1, 3542, .inr (.inl (fun _ => 0)))), (h + 6, .inl (ka_r G 1, 506, .inr (.inl (fun _ => 0)))), (h + 7, .inl (ka_r G 2, 2, .inl (fun _ => 0))), (h + 8, .inl (ka_r G 0, 12, .inl (fun _ => 0))), (h + 9, .inl (ka_r G 0, 12, .inl (fun _ => 0))), (h + 10, .inl (ka_r G 0, 12, .inl (fun _ => 0))), (h + 11, .inl (ka_r G 0, 12, .inl (fun _ => 0))), (h + 12, .inl (ka_r G 0, 12, .inl (fun _ => 0)))] (h + 13) s H locs := hw
  refine lv_aload_n hx hb dX9_init_104 rfl (lv_at hl 0 rfl) ?_
  refine lv_bipush (v := 72) hx hb dX9_init_105 (by decide) ?_
  refine kn_newa (t := 0) (N := 72) (a0 := (72, .inl (fun _ => 0))) C0 hN hw hA rfl rfl (fun h => h) kn_aI (fun _ => rfl) (by decide) (by decide) (by decide) ⟨Nat.le_of_ble_eq_true rfl, Nat.le_of_ble_eq_true rfl⟩ dX9_init_107 (fun H hw => ?_)
  have hw : kn G (kn_A h) [(h, .inr (8, [.int 0, .ref (h + 1), .int 0, .int 0, .ref (h + 2), .ref (h + 3), .ref (h + 4), .ref (h + 5), .int 0, .ref (h + 6), .ref (h + 7), .int 0, .int 0, .int 0, .ref (h + 8), .ref (h + 9), .ref (h + 10), .ref (h + 11), .ref (h + 12), .null, .null, .null])), (h + 1, .inl (ka_r G 0, 60, .inl (fun _ => 0))), (h + 2, .inl (ka_r G 1, 216, .inr (.inl (fun _ => 0)))), (h + 3, .inl (ka_r G 1, 253, .inr (.inl (fun _ => 0)))), (h + 4, .inl (ka_r G 1, 253, .inr (.inl (fun _ => 0)))), (h + 5, .inl (ka_r G 1, 3542, .inr (.inl (fun _ => 0)))), (h + 6, .inl (ka_r G 1, 506, .inr (.inl (fun _ => 0)))), (h + 7, .inl (ka_r G 2, 2, .inl (fun _ => 0))), (h + 8, .inl (ka_r G 0, 12, .inl (fun _ => 0))), (h + 9, .inl (ka_r G 0, 12, .inl (fun _ => 0))), (h + 10, .inl (ka_r G 0, 12, .inl (fun _ => 0))), (h + 11, .inl (ka_r G 0, 12, .inl (fun _ => 0))), (h + 12, .inl (ka_r G 0, 12, .inl (fun _ => 0))), (h + 13, .inl (ka_r G 0, 72, .inl (fun _ => 0)))] (h + 14) s H locs := hw
  refine kn_putF (q0 := 0) (ci := 8) (j := 19) (C := RX9) (TT := TX9) (N := 22) (ty := tyX9 19) C0 hN hw rfl rfl kq_inX9 tyX9 tyX9_ok nmX9 (by decide) rfl kq_974 rfl hin (tyX9_ok 19 (by decide)) rfl rfl (Nat.le_of_ble_eq_true rfl) dX9_init_109 (fun H locs hw => ?_)
  have hw : kn G (kn_A h) [(h, .inr (8, [.int 0, .ref (h + 1), .int 0, .int 0, .ref (h + 2), .ref (h + 3), .ref (h + 4), .ref (h + 5), .int 0, .ref (h + 6), .ref (h + 7), .int 0, .int 0, .int 0, .ref (h + 8), .ref (h + 9), .ref (h + 10), .ref (h + 11), .ref (h + 12), .ref (h + 13), .null, .null])), (h + 1, .inl (ka_r G 0, 60, .inl (fun _ => 0))), (h + 2, .inl (ka_r G 1, 216, .inr (.inl (fun _ => 0)))), (h + 3, .inl (ka_r G 1, 253, .inr (.inl (fun _ => 0)))), (h + 4, .inl (ka_r G 1, 253, .inr (.inl (fun _ => 0)))), (h + 5, .inl (ka_r G 1, 3542, .inr (.inl (fun _ => 0)))), (h + 6, .inl (ka_r G 1, 506, .inr (.inl (fun _ => 0)))), (h + 7, .inl (ka_r G 2, 2, .inl (fun _ => 0))), (h + 8, .inl (ka_r G 0, 12, .inl (fun _ => 0))), (h + 9, .inl (ka_r G 0, 12, .inl (fun _ => 0))), (h + 10, .inl (ka_r G 0, 12, .inl (fun _ => 0))), (h + 11, .inl (ka_r G 0, 12, .inl (fun _ => 0))), (h + 12, .inl (ka_r G 0, 12, .inl (fun _ => 0))), (h + 13, .inl (ka_r G 0, 72, .inl (fun _ => 0)))] (h + 14) s H locs := hw
  refine lv_aload_n hx hb dX9_init_112 rfl (lv_at hl 0 rfl) ?_
  refine lv_bipush (v := 72) hx hb dX9_init_113 (by decide) ?_
  refine kn_newa (t := 0) (N := 72) (a0 := (72, .inl (fun _ => 0))) C0 hN hw hA rfl rfl (fun h => h) kn_aI (fun _ => rfl) (by decide) (by decide) (by decide) ⟨Nat.le_of_ble_eq_true rfl, Nat.le_of_ble_eq_true rfl⟩ dX9_init_115 (fun H hw => ?_)
  have hw : kn G (kn_A h) [(h, .inr (8, [.int 0, .ref (h + 1), .int 0, .int 0, .ref (h + 2), .ref (h + 3), .ref (h + 4), .ref (h + 5), .int 0, .ref (h + 6), .ref (h + 7), .int 0, .int 0, .int 0, .ref (h + 8), .ref (h + 9), .ref (h + 10), .ref (h + 11), .ref (h + 12), .ref (h + 13), .null, .null])), (h + 1, .inl (ka_r G 0, 60, .inl (fun _ => 0))), (h + 2, .inl (ka_r G 1, 216, .inr (.inl (fun _ => 0)))), (h + 3, .inl (ka_r G 1, 253, .inr (.inl (fun _ => 0)))), (h + 4, .inl (ka_r G 1, 253, .inr (.inl (fun _ => 0)))), (h + 5, .inl (ka_r G 1, 3542, .inr (.inl (fun _ => 0)))), (h + 6, .inl (ka_r G 1, 506, .inr (.inl (fun _ => 0)))), (h + 7, .inl (ka_r G 2, 2, .inl (fun _ => 0))), (h + 8, .inl (ka_r G 0, 12, .inl (fun _ => 0))), (h + 9, .inl (ka_r G 0, 12, .inl (fun _ => 0))), (h + 10, .inl (ka_r G 0, 12, .inl (fun _ => 0))), (h + 11, .inl (ka_r G 0, 12, .inl (fun _ => 0))), (h + 12, .inl (ka_r G 0, 12, .inl (fun _ => 0))), (h + 13, .inl (ka_r G 0, 72, .inl (fun _ => 0))), (h + 14, .inl (ka_r G 0, 72, .inl (fun _ => 0)))] (h + 15) s H locs := hw
  refine kn_putF (q0 := 0) (ci := 8) (j := 20) (C := RX9) (TT := TX9) (N := 22) (ty := tyX9 20) C0 hN hw rfl rfl kq_inX9 tyX9 tyX9_ok nmX9 (by decide) rfl kq_975 rfl hin (tyX9_ok 20 (by decide)) rfl rfl (Nat.le_of_ble_eq_true rfl) dX9_init_117 (fun H locs hw => ?_)
  have hw : kn G (kn_A h) [(h, .inr (8, [.int 0, .ref (h + 1), .int 0, .int 0, .ref (h + 2), .ref (h + 3), .ref (h + 4), .ref (h + 5), .int 0, .ref (h + 6), .ref (h + 7), .int 0, .int 0, .int 0, .ref (h + 8), .ref (h + 9), .ref (h + 10), .ref (h + 11), .ref (h + 12), .ref (h + 13), .ref (h + 14), .null])), (h + 1, .inl (ka_r G 0, 60, .inl (fun _ => 0))), (h + 2, .inl (ka_r G 1, 216, .inr (.inl (fun _ => 0)))), (h + 3, .inl (ka_r G 1, 253, .inr (.inl (fun _ => 0)))), (h + 4, .inl (ka_r G 1, 253, .inr (.inl (fun _ => 0)))), (h + 5, .inl (ka_r G 1, 3542, .inr (.inl (fun _ => 0)))), (h + 6, .inl (ka_r G 1, 506, .inr (.inl (fun _ => 0)))), (h + 7, .inl (ka_r G 2, 2, .inl (fun _ => 0))), (h + 8, .inl (ka_r G 0, 12, .inl (fun _ => 0))), (h + 9, .inl (ka_r G 0, 12, .inl (fun _ => 0))), (h + 10, .inl (ka_r G 0, 12, .inl (fun _ => 0))), (h + 11, .inl (ka_r G 0, 12, .inl (fun _ => 0))), (h + 12, .inl (ka_r G 0, 12, .inl (fun _ => 0))), (h + 13, .inl (ka_r G 0, 72, .inl (fun _ => 0))), (h + 14, .inl (ka_r G 0, 72, .inl (fun _ => 0)))] (h + 15) s H locs := hw
  refine lv_aload_n hx hb dX9_init_120 rfl (lv_at hl 0 rfl) ?_
  refine lv_bipush (v := 72) hx hb dX9_init_121 (by decide) ?_
  refine kn_newa (t := 0) (N := 72) (a0 := (72, .inl (fun _ => 0))) C0 hN hw hA rfl rfl (fun h => h) kn_aI (fun _ => rfl) (by decide) (by decide) (by decide) ⟨Nat.le_of_ble_eq_true rfl, Nat.le_of_ble_eq_true rfl⟩ dX9_init_123 (fun H hw => ?_)
  have hw : kn G (kn_A h) [(h, .inr (8, [.int 0, .ref (h + 1), .int 0, .int 0, .ref (h + 2), .ref (h + 3), .ref (h + 4), .ref (h + 5), .int 0, .ref (h + 6), .ref (h + 7), .int 0, .int 0, .int 0, .ref (h + 8), .ref (h + 9), .ref (h + 10), .ref (h + 11), .ref (h + 12), .ref (h + 13), .ref (h + 14), .null])), (h + 1, .inl (ka_r G 0, 60, .inl (fun _ => 0))), (h + 2, .inl (ka_r G 1, 216, .inr (.inl (fun _ => 0)))), (h + 3, .inl (ka_r G 1, 253, .inr (.inl (fun _ => 0)))), (h + 4, .inl (ka_r G 1, 253, .inr (.inl (fun _ => 0)))), (h + 5, .inl (ka_r G 1, 3542, .inr (.inl (fun _ => 0)))), (h + 6, .inl (ka_r G 1, 506, .inr (.inl (fun _ => 0)))), (h + 7, .inl (ka_r G 2, 2, .inl (fun _ => 0))), (h + 8, .inl (ka_r G 0, 12, .inl (fun _ => 0))), (h + 9, .inl (ka_r G 0, 12, .inl (fun _ => 0))), (h + 10, .inl (ka_r G 0, 12, .inl (fun _ => 0))), (h + 11, .inl (ka_r G 0, 12, .inl (fun _ => 0))), (h + 12, .inl (ka_r G 0, 12, .inl (fun _ => 0))), (h + 13, .inl (ka_r G 0, 72, .inl (fun _ => 0))), (h + 14, .inl (ka_r G 0, 72, .inl (fun _ => 0))), (h + 15, .inl (ka_r G 0, 72, .inl (fun _ => 0)))] (h + 16) s H locs := hw
  refine kn_putF (q0 := 0) (ci := 8) (j := 21) (C := RX9) (TT := TX9) (N := 22) (ty := tyX9 21) C0 hN hw rfl rfl kq_inX9 tyX9 tyX9_ok nmX9 (by decide) rfl kq_976 rfl hin (tyX9_ok 21 (by decide)) rfl rfl (Nat.le_of_ble_eq_true rfl) dX9_init_125 (fun H locs hw => ?_)
  have hw : kn G (kn_A h) [(h, .inr (8, [.int 0, .ref (h + 1), .int 0, .int 0, .ref (h + 2), .ref (h + 3), .ref (h + 4), .ref (h + 5), .int 0, .ref (h + 6), .ref (h + 7), .int 0, .int 0, .int 0, .ref (h + 8), .ref (h + 9), .ref (h + 10), .ref (h + 11), .ref (h + 12), .ref (h + 13), .ref (h + 14), .ref (h + 15)])), (h + 1, .inl (ka_r G 0, 60, .inl (fun _ => 0))), (h + 2, .inl (ka_r G 1, 216, .inr (.inl (fun _ => 0)))), (h + 3, .inl (ka_r G 1, 253, .inr (.inl (fun _ => 0)))), (h + 4, .inl (ka_r G 1, 253, .inr (.inl (fun _ => 0)))), (h + 5, .inl (ka_r G 1, 3542, .inr (.inl (fun _ => 0)))), (h + 6, .inl (ka_r G 1, 506, .inr (.inl (fun _ => 0)))), (h + 7, .inl (ka_r G 2, 2, .inl (fun _ => 0))), (h + 8, .inl (ka_r G 0, 12, .inl (fun _ => 0))), (h + 9, .inl (ka_r G 0, 12, .inl (fun _ => 0))), (h + 10, .inl (ka_r G 0, 12, .inl (fun _ => 0))), (h + 11, .inl (ka_r G 0, 12, .inl (fun _ => 0))), (h + 12, .inl (ka_r G 0, 12, .inl (fun _ => 0))), (h + 13, .inl (ka_r G 0, 72, .inl (fun _ => 0))), (h + 14, .inl (ka_r G 0, 72, .inl (fun _ => 0))), (h + 15, .inl (ka_r G 0, 72, .inl (fun _ => 0)))] (h + 16) s H locs := hw
  refine lv_aload_n hx hb dX9_init_128 rfl (lv_at hl 0 rfl) ?_
  refine kn_get (q0 := 0) (ci := 8) (j := 5) (C := RX9) (TT := TX9) (N := 22) C0 hN.1 hw rfl rfl kq_inX9 (by decide) rfl kq_960 rfl dX9_init_129 ?_
  have hP : ka_P (kn_G D r b qo) kn_σ H := by
    have hS := hw.2.2.2
    have hm := kn_P_mem.mp hw.2.1
    rw [hG, hh] at hm
    intro k hv
    by_cases hk : k.1 ≤ 24
    · refine (hcls k hv hk).kept (hS.2.1 _ ?_ ?_)
      · have := (kn_lt hv).2 hk
        show b + kn_off k < _
        rw [hs]; omega
      · have := (kn_lt hv).2 hk
        show ¬ h ≤ b + kn_off k
        omega
    · obtain ⟨a, o, i⟩ := k
      rcases hv with ⟨h1, h2, h3⟩ | ⟨h1, h2, h3, h4⟩ | ⟨h1, h2, h3, h4⟩ <;> dsimp only at *
      · omega
      · omega
      · subst h3; subst h4
        rcases (show a = 25 ∨ a = 26 ∨ a = 36 ∨ a = 37 ∨ a = 38 ∨ a = 39 ∨ a = 40 ∨ a = 35 ∨ a = 27 ∨ a = 28 ∨ a = 29 ∨ a = 30 ∨ a = 31 ∨ a = 32 ∨ a = 33 ∨ a = 34 by omega) with rfl | rfl | rfl | rfl | rfl | rfl | rfl | rfl | rfl | rfl | rfl | rfl | rfl | rfl | rfl | rfl
        · exact hm _ (List.mem_of_getElem? (i := 0) rfl)
        · exact hm _ (List.mem_of_getElem? (i := 1) rfl)
        · exact hm _ (List.mem_of_getElem? (i := 2) rfl)
        · exact hm _ (List.mem_of_getElem? (i := 3) rfl)
        · exact hm _ (List.mem_of_getElem? (i := 4) rfl)
        · exact hm _ (List.mem_of_getElem? (i := 5) rfl)
        · exact hm _ (List.mem_of_getElem? (i := 6) rfl)
        · exact hm _ (List.mem_of_getElem? (i := 7) rfl)
        · exact hm _ (List.mem_of_getElem? (i := 8) rfl)
        · exact hm _ (List.mem_of_getElem? (i := 9) rfl)
        · exact hm _ (List.mem_of_getElem? (i := 10) rfl)
        · exact hm _ (List.mem_of_getElem? (i := 11) rfl)
        · exact hm _ (List.mem_of_getElem? (i := 12) rfl)
        · exact hm _ (List.mem_of_getElem? (i := 13) rfl)
        · exact hm _ (List.mem_of_getElem? (i := 14) rfl)
        · exact hm _ (List.mem_of_getElem? (i := 15) rfl)
  have hS : va_S (ka_A (kn_G D r b qo)) s.heap H locs := by
    obtain ⟨z1, z2, z3⟩ := hw.2.2.2
    have sub : ∀ q, kn_A h q → ka_A (kn_G D r b qo) q := fun q hq9 => by
      have : h ≤ q := hq9
      exact ⟨show b ≤ q by omega, show q ≠ qo by omega⟩
    exact ⟨z1, fun q a1 a2 => z2 q a1 (fun z => a2 (sub q z)), fun x hx9 => sub _ (z3 x hx9)⟩
  rw [show h + 3 = ka_a (kn_G D r b qo) (37, 0, 0) from by rw [hh]; show b + 1245 + 3 = b + 1248; omega]
  refine kr_Sv (As := [.ref (ka_a (kn_G D r b qo) (37, 0, 0))]) (rest := []) C0 (by rw [← hG]; exact hN.1) hP hS hl (km_X9_clean l hI kl_37 hq) kd_X9_clean kq_950 ⟨rfl, rfl, Nat.le_of_ble_eq_true rfl, Nat.le_of_ble_eq_true rfl⟩ rfl (Nat.le_of_ble_eq_true rfl) dX9_init_132 ⟨Nat.le_of_ble_eq_true rfl, Nat.le_of_ble_eq_true rfl⟩ (fun σ1 H locs hq hP hS => ?_)
  refine W.widen (k := 15) (n := 5108) (Nat.le_of_ble_eq_true rfl) (Nat.le_of_ble_eq_true rfl) ?_
  exact kr_vret C0 (by rw [← hG]; exact hN.1) hP hS hq dX9_init_135
