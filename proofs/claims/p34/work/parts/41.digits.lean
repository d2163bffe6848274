/-! ===== numbers of digits: the first digit highest, m places ===== -/
def ma_S (B : Nat) : Nat → List Nat → Nat
  | 0, _ => 0
  | _ + 1, [] => 0
  | m + 1, x :: t => x * B ^ m + ma_S B m t
theorem ma_S_nil (B m : Nat) : ma_S B m [] = 0 := by cases m <;> rfl
theorem ma_S_cons (B m x : Nat) (t : List Nat) : ma_S B (m + 1) (x :: t) = x * B ^ m + ma_S B m t := rfl
theorem ma_S_lt {B : Nat} (hB : 0 < B) : ∀ (m : Nat) (l : List Nat), (∀ x ∈ l, x < B) → ma_S B m l < B ^ m := by
  intro m
  induction m with
  | zero => intro l _; show 0 < B ^ 0; exact Nat.pow_pos hB
  | succ m ih =>
    intro l h
    cases l with
    | nil => rw [ma_S_nil]; exact Nat.pow_pos hB
    | cons x t =>
      have h1 := ih t (fun y hy => h y (List.mem_cons_of_mem _ hy))
      have h2 : x + 1 ≤ B := h x List.mem_cons_self
      have h3 : (x + 1) * B ^ m ≤ B * B ^ m := Nat.mul_le_mul_right _ h2
      rw [ma_S_cons, Nat.pow_succ, Nat.mul_comm (B ^ m) B]
      rw [Nat.succ_mul] at h3
      omega
theorem ma_S_dig {B : Nat} (hB : 0 < B) : ∀ (m : Nat) (l : List Nat) (k : Nat), (∀ x ∈ l, x < B) → k < m → ma_S B m l / B ^ (m - 1 - k) % B = l.getD k 0 := by
  intro m
  induction m with
  | zero => intro l k _ hk; exact absurd hk (Nat.not_lt_zero k)
  | succ m ih =>
    intro l k h hk
    cases l with
    | nil => rw [ma_S_nil, Nat.zero_div, Nat.zero_mod]; rfl
    | cons x t =>
      have h1 := ma_S_lt hB m t (fun y hy => h y (List.mem_cons_of_mem _ hy))
      have hp : 0 < B ^ m := Nat.pow_pos hB
      rw [ma_S_cons]
      cases k with
      | zero =>
        rw [show m + 1 - 1 - 0 = m by omega, Nat.mul_comm, Nat.mul_add_div hp, Nat.div_eq_of_lt h1, Nat.add_zero, Nat.mod_eq_of_lt (h x List.mem_cons_self)]
        rfl
      | succ k =>
        have e1 : m = (m - 1 - k) + (k + 1) := by omega
        have hq : 0 < B ^ (m - 1 - k) := Nat.pow_pos hB
        have e2 : x * B ^ m = B ^ (m - 1 - k) * (B * (x * B ^ k)) := by
          have e3 : B ^ m = B ^ (m - 1 - k) * B ^ (k + 1) := by rw [← Nat.pow_add, ← e1]
          rw [e3, Nat.pow_succ]
          rw [Nat.mul_left_comm, Nat.mul_left_comm B x, Nat.mul_comm B (B ^ k)]
        rw [show m + 1 - 1 - (k + 1) = m - 1 - k by omega, e2, Nat.mul_add_div hq, Nat.mul_add_mod]
        exact ih t k (fun y hy => h y (List.mem_cons_of_mem _ hy)) (by omega)
theorem ma_S_app (B x : Nat) : ∀ (m : Nat) (l : List Nat), l.length < m → ma_S B m (l ++ [x]) = ma_S B m l + x * B ^ (m - 1 - l.length) := by
  intro m
  induction m with
  | zero => intro l h; exact absurd h (Nat.not_lt_zero _)
  | succ m ih =>
    intro l h
    cases l with
    | nil => rw [ma_S_nil]; show x * B ^ m + ma_S B m [] = 0 + x * B ^ (m + 1 - 1 - 0); rw [ma_S_nil, Nat.zero_add, Nat.add_zero]; rfl
    | cons y t =>
      have h2 : t.length < m := Nat.lt_of_succ_lt_succ h
      show y * B ^ m + ma_S B m (t ++ [x]) = (y * B ^ m + ma_S B m t) + x * B ^ (m + 1 - 1 - (t.length + 1))
      rw [ih t h2, show m + 1 - 1 - (t.length + 1) = m - 1 - t.length by omega, Nat.add_assoc]
/-- nothing stands in the places behind the last digit -/
theorem ma_S_low (B : Nat) : ∀ (m : Nat) (l : List Nat), l.length ≤ m → ∃ q, ma_S B m l = q * B ^ (m - l.length) := by
  intro m
  induction m with
  | zero => intro l _; exact ⟨0, by rw [Nat.zero_mul]; rfl⟩
  | succ m ih =>
    intro l h
    cases l with
    | nil => exact ⟨0, by rw [Nat.zero_mul]; rfl⟩
    | cons y t =>
      have h2 : t.length ≤ m := Nat.le_of_succ_le_succ h
      obtain ⟨q, hq⟩ := ih t h2
      refine ⟨y * B ^ t.length + q, ?_⟩
      show y * B ^ m + ma_S B m t = (y * B ^ t.length + q) * B ^ (m + 1 - (t.length + 1))
      rw [hq, show m + 1 - (t.length + 1) = m - t.length by omega, Nat.add_mul, Nat.mul_assoc, ← Nat.pow_add, show t.length + (m - t.length) = m by omega]
/-- the order of the alphabet: a word that another one begins with comes first -/
def ma_lt : List Nat → List Nat → Prop
  | _, [] => False
  | [], _ :: _ => True
  | x :: t, y :: u => x < y ∨ (x = y ∧ ma_lt t u)
theorem ma_S_cmp {B : Nat} (hB : 0 < B) : ∀ (m : Nat) (l l' : List Nat), l.length ≤ m → l'.length ≤ m → (∀ x ∈ l, 0 < x ∧ x < B) → (∀ x ∈ l', 0 < x ∧ x < B) →
    (ma_S B m l < ma_S B m l' ↔ ma_lt l l') ∧ (ma_S B m l = ma_S B m l' ↔ l = l') := by
  intro m
  induction m with
  | zero =>
    intro l l' h h' _ _
    have e1 : l = [] := List.eq_nil_of_length_eq_zero (Nat.le_zero.mp h)
    have e2 : l' = [] := List.eq_nil_of_length_eq_zero (Nat.le_zero.mp h')
    subst e1; subst e2
    exact ⟨⟨fun h => absurd h (Nat.lt_irrefl _), fun h => h.elim⟩, ⟨fun _ => rfl, fun _ => rfl⟩⟩
  | succ m ih =>
    intro l l' h h' hd hd'
    have hp : 0 < B ^ m := Nat.pow_pos hB
    cases l with
    | nil =>
      cases l' with
      | nil => exact ⟨⟨fun h => absurd h (Nat.lt_irrefl _), fun h => h.elim⟩, ⟨fun _ => rfl, fun _ => rfl⟩⟩
      | cons y u =>
        have h1 : 0 < y := (hd' y List.mem_cons_self).1
        have h2 : 1 * B ^ m ≤ y * B ^ m := Nat.mul_le_mul_right _ h1
        rw [ma_S_nil, ma_S_cons]
        refine ⟨⟨fun _ => trivial, fun _ => by omega⟩, ⟨fun h => by omega, fun h => by cases h⟩⟩
    | cons x t =>
      cases l' with
      | nil =>
        have h1 : 0 < x := (hd x List.mem_cons_self).1
        have h2 : 1 * B ^ m ≤ x * B ^ m := Nat.mul_le_mul_right _ h1
        rw [ma_S_nil, ma_S_cons]
        refine ⟨⟨fun h => by omega, fun h => h.elim⟩, ⟨fun h => by omega, fun h => by cases h⟩⟩
      | cons y u =>
        have ht := ma_S_lt hB m t (fun z hz => (hd z (List.mem_cons_of_mem _ hz)).2)
        have hu := ma_S_lt hB m u (fun z hz => (hd' z (List.mem_cons_of_mem _ hz)).2)
        have hi := ih t u (Nat.le_of_succ_le_succ h) (Nat.le_of_succ_le_succ h') (fun z hz => hd z (List.mem_cons_of_mem _ hz)) (fun z hz => hd' z (List.mem_cons_of_mem _ hz))
        rw [ma_S_cons, ma_S_cons]
        rcases Nat.lt_trichotomy x y with hxy | hxy | hxy
        · have h2 : (x + 1) * B ^ m ≤ y * B ^ m := Nat.mul_le_mul_right _ hxy
          rw [Nat.succ_mul] at h2
          refine ⟨⟨fun _ => Or.inl hxy, fun _ => by omega⟩, ⟨fun h => by omega, fun h => ?_⟩⟩
          cases h
          omega
        · subst hxy
          refine ⟨⟨fun h => Or.inr ⟨rfl, hi.1.mp (by omega)⟩, fun h => ?_⟩, ⟨fun h => ?_, fun h => ?_⟩⟩
          · rcases h with h | ⟨_, h⟩
            · exact absurd h (Nat.lt_irrefl _)
            · have := hi.1.mpr h
              omega
          · rw [hi.2.mp (by omega)]
          · cases h
            rfl
        · have h2 : (y + 1) * B ^ m ≤ x * B ^ m := Nat.mul_le_mul_right _ hxy
          rw [Nat.succ_mul] at h2
          refine ⟨⟨fun h => by omega, fun h => ?_⟩, ⟨fun h => by omega, fun h => ?_⟩⟩
          · rcases h with h | ⟨h, _⟩ <;> omega
          · cases h
            omega
/-! ===== letters: the class packs eight of seven bits and their number, the reference eight of five bits ===== -/
def ma_f (c : Nat) : Nat := if c = 46 then 27 else c - 96
def ma_C (l : List Nat) : Nat := 16 * ma_S 128 8 l + l.length
def ma_M (l : List Nat) : Nat := ma_S 32 8 (l.map ma_f)
/-- at most eight gloss letters; one to eight letters -/
def ma_g (l : List Nat) : Prop := l.length ≤ 8 ∧ ∀ c ∈ l, (97 ≤ c ∧ c ≤ 122) ∨ c = 46
def ma_p (l : List Nat) : Prop := l ≠ [] ∧ l.length ≤ 8 ∧ ∀ c ∈ l, 97 ≤ c ∧ c ≤ 122
theorem ma_p.g {l : List Nat} (h : ma_p l) : ma_g l := ⟨h.2.1, fun c hc => Or.inl (h.2.2 c hc)⟩
theorem ma_g.d {l : List Nat} (h : ma_g l) : ∀ c ∈ l, 0 < c ∧ c < 128 := fun c hc => by
  rcases h.2 c hc with h | h <;> omega
theorem ma_f_d {c : Nat} (h : (97 ≤ c ∧ c ≤ 122) ∨ c = 46) : 0 < ma_f c ∧ ma_f c < 28 := by
  unfold ma_f
  split <;> omega
theorem ma_g.f {l : List Nat} (h : ma_g l) : ∀ x ∈ l.map ma_f, 0 < x ∧ x < 32 := fun x hx => by
  obtain ⟨c, hc, rfl⟩ := List.mem_map.mp hx
  have := ma_f_d (h.2 c hc)
  omega
theorem ma_f_inj {a b : Nat} (ha : (97 ≤ a ∧ a ≤ 122) ∨ a = 46) (hb : (97 ≤ b ∧ b ≤ 122) ∨ b = 46) (h : ma_f a = ma_f b) : a = b := by
  unfold ma_f at h
  split at h <;> split at h <;> omega
theorem ma_C_lt {l : List Nat} (h : ma_g l) : ma_C l < 2 ^ 60 := by
  have h1 := ma_S_lt (B := 128) (by decide) 8 l (fun x hx => (h.d x hx).2)
  have := h.1
  unfold ma_C
  omega
theorem ma_C_len {l : List Nat} (h : ma_g l) : ma_C l % 16 = l.length := by
  have := h.1
  unfold ma_C
  omega
theorem ma_pw (j : Nat) : 2 ^ (4 + 7 * j) = 16 * 128 ^ j := by
  rw [Nat.pow_add, Nat.pow_mul]
theorem ma_C_code {l : List Nat} (h : ma_g l) {k : Nat} (hk : k < 8) : ma_C l / 2 ^ (4 + 7 * (7 - k)) % 128 = l.getD k 0 := by
  have h1 := h.1
  rw [ma_pw, ← Nat.div_div_eq_div_mul, show ma_C l / 16 = ma_S 128 8 l by unfold ma_C; omega]
  exact ma_S_dig (by decide) 8 l k (fun x hx => (h.d x hx).2) hk
theorem ma_C_with {l : List Nat} (x : Nat) (h : l.length < 8) : ma_C l + x * 2 ^ (4 + 7 * (7 - l.length)) + 1 = ma_C (l ++ [x]) := by
  unfold ma_C
  rw [ma_S_app 128 x 8 l h, ma_pw, List.length_append]
  show 16 * ma_S 128 8 l + l.length + x * (16 * 128 ^ (7 - l.length)) + 1 = 16 * (ma_S 128 8 l + x * 128 ^ (7 - l.length)) + (l.length + 1)
  rw [Nat.mul_left_comm x 16]
  omega
theorem ma_C_nil : ma_C [] = 0 := rfl
theorem ma_C_inj {l l' : List Nat} (h : ma_g l) (h' : ma_g l') (e : ma_C l = ma_C l') : l = l' := by
  refine ((ma_S_cmp (B := 128) (by decide) 8 l l' h.1 h'.1 h.d h'.d).2).mp ?_
  have := h.1
  have := h'.1
  unfold ma_C at e
  omega
theorem ma_C_zero {l : List Nat} (h : ma_g l) (e : ma_C l = 0) : l = [] := ma_C_inj h ⟨by decide, fun c hc => absurd hc List.not_mem_nil⟩ (e.trans ma_C_nil.symm)
theorem ma_C_cmp {l l' : List Nat} (h : ma_g l) (h' : ma_g l') : ma_C l < ma_C l' ↔ ma_lt l l' := by
  have h3 := ma_S_cmp (B := 128) (by decide) 8 l l' h.1 h'.1 h.d h'.d
  have := h.1
  have := h'.1
  rw [← h3.1]
  unfold ma_C
  rcases Nat.lt_trichotomy (ma_S 128 8 l) (ma_S 128 8 l') with q | q | q
  · omega
  · have := h3.2.mp q
    subst this
    omega
  · omega
theorem ma_M_lt {l : List Nat} (h : ma_g l) : ma_M l < 2 ^ 40 := ma_S_lt (B := 32) (by decide) 8 _ (fun x hx => (h.f x hx).2)
theorem ma_pw5 (k : Nat) (hk : k < 8) : 2 ^ (35 - 5 * k) = 32 ^ (8 - 1 - k) := by
  rw [show 35 - 5 * k = 5 * (8 - 1 - k) by omega, Nat.pow_mul]
theorem ma_M_dig {l : List Nat} (h : ma_g l) {k : Nat} (hk : k < 8) : ma_M l / 2 ^ (35 - 5 * k) % 32 = (l.map ma_f).getD k 0 := by
  rw [ma_pw5 k hk]
  exact ma_S_dig (by decide) 8 _ k (fun x hx => (h.f x hx).2) hk
theorem ma_M_with {l : List Nat} (x : Nat) (h : l.length < 8) : ma_M l + ma_f x * 2 ^ (35 - 5 * l.length) = ma_M (l ++ [x]) := by
  unfold ma_M
  rw [List.map_append, ma_pw5 _ h]
  have := ma_S_app 32 (ma_f x) 8 (l.map ma_f) (by rw [List.length_map]; exact h)
  rw [List.length_map] at this
  exact this.symm
theorem ma_M_low {l : List Nat} (h : l.length ≤ 8) : ∃ q, ma_M l = q * 2 ^ (40 - 5 * l.length) := by
  obtain ⟨q, hq⟩ := ma_S_low 32 8 (l.map ma_f) (by rw [List.length_map]; exact h)
  refine ⟨q, ?_⟩
  rw [List.length_map] at hq
  unfold ma_M
  rw [hq, show 40 - 5 * l.length = 5 * (8 - l.length) by omega, Nat.pow_mul]
theorem ma_M_nil : ma_M [] = 0 := rfl
theorem ma_map_inj : ∀ {l l' : List Nat}, (∀ c ∈ l, (97 ≤ c ∧ c ≤ 122) ∨ c = 46) → (∀ c ∈ l', (97 ≤ c ∧ c ≤ 122) ∨ c = 46) → l.map ma_f = l'.map ma_f → l = l'
  | [], [], _, _, _ => rfl
  | [], _ :: _, _, _, h => by cases h
  | _ :: _, [], _, _, h => by cases h
  | a :: t, b :: u, h1, h2, h => by
    rw [List.map_cons, List.map_cons] at h
    injection h with e1 e2
    rw [ma_f_inj (h1 a List.mem_cons_self) (h2 b List.mem_cons_self) e1, ma_map_inj (fun c hc => h1 c (List.mem_cons_of_mem _ hc)) (fun c hc => h2 c (List.mem_cons_of_mem _ hc)) e2]
theorem ma_M_inj {l l' : List Nat} (h : ma_g l) (h' : ma_g l') (e : ma_M l = ma_M l') : l = l' :=
  ma_map_inj h.2 h'.2 (((ma_S_cmp (B := 32) (by decide) 8 _ _ (by rw [List.length_map]; exact h.1) (by rw [List.length_map]; exact h'.1) h.f h'.f).2).mp e)
theorem ma_M_zero {l : List Nat} (h : ma_g l) (e : ma_M l = 0) : l = [] := ma_M_inj h ⟨by decide, fun c hc => absurd hc List.not_mem_nil⟩ (e.trans ma_M_nil.symm)
theorem ma_lt_map : ∀ {l l' : List Nat}, (∀ c ∈ l, 97 ≤ c ∧ c ≤ 122) → (∀ c ∈ l', 97 ≤ c ∧ c ≤ 122) → (ma_lt (l.map ma_f) (l'.map ma_f) ↔ ma_lt l l')
  | [], [], _, _ => Iff.rfl
  | [], _ :: _, _, _ => Iff.rfl
  | _ :: _, [], _, _ => Iff.rfl
  | a :: t, b :: u, h1, h2 => by
    have ha := h1 a List.mem_cons_self
    have hb := h2 b List.mem_cons_self
    have ih := ma_lt_map (fun c hc => h1 c (List.mem_cons_of_mem _ hc)) (fun c hc => h2 c (List.mem_cons_of_mem _ hc))
    have e1 : ma_f a = a - 96 := if_neg (by omega)
    have e2 : ma_f b = b - 96 := if_neg (by omega)
    show (ma_f a < ma_f b ∨ (ma_f a = ma_f b ∧ ma_lt (t.map ma_f) (u.map ma_f))) ↔ (a < b ∨ (a = b ∧ ma_lt t u))
    rw [e1, e2, ih]
    constructor
    · rintro (h | ⟨h, h3⟩)
      · exact Or.inl (by omega)
      · exact Or.inr ⟨by omega, h3⟩
    · rintro (h | ⟨h, h3⟩)
      · exact Or.inl (by omega)
      · exact Or.inr ⟨by omega, h3⟩
theorem ma_M_cmp {l l' : List Nat} (h : ma_p l) (h' : ma_p l') : ma_M l < ma_M l' ↔ ma_lt l l' := by
  have h3 := (ma_S_cmp (B := 32) (by decide) 8 _ _ (by rw [List.length_map]; exact h.2.1) (by rw [List.length_map]; exact h'.2.1) h.g.f h'.g.f).1
  unfold ma_M
  rw [h3]
  exact ma_lt_map h.2.2 h'.2.2
