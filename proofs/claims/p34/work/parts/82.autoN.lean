/-! ===== the text as words: what is read, character by character ===== -/
def ma_l (l : List Nat) : Prop := l.length ≤ 8 ∧ ∀ c ∈ l, 97 ≤ c ∧ c ≤ 122
theorem ma_l.g {l : List Nat} (h : ma_l l) : ma_g l := ⟨h.1, fun c hc => Or.inl (h.2 c hc)⟩
theorem ma_l.p {l : List Nat} (h : ma_l l) (hn : l ≠ []) : ma_p l := ⟨hn, h.1, h.2⟩
theorem ma_l_nil : ma_l [] := ⟨by decide, fun c hc => absurd hc (by intro h; cases h)⟩
theorem ma_l_app {l : List Nat} {c : Nat} (h : ma_l l) (h8 : l.length < 8) (hc : 97 ≤ c ∧ c ≤ 122) : ma_l (l ++ [c]) := by
  refine ⟨?_, fun x hx => ?_⟩
  · rw [List.length_append]
    show l.length + 1 ≤ 8
    omega
  · rcases List.mem_append.mp hx with z | z
    · exact h.2 x z
    · rw [List.mem_singleton] at z; rw [z]; exact hc
theorem ma_g_app {l : List Nat} {c : Nat} (h : ma_g l) (h8 : l.length < 8) (hc : (97 ≤ c ∧ c ≤ 122) ∨ c = 46) : ma_g (l ++ [c]) := by
  refine ⟨?_, fun x hx => ?_⟩
  · rw [List.length_append]
    show l.length + 1 ≤ 8
    omega
  · rcases List.mem_append.mp hx with z | z
    · exact h.2 x z
    · rw [List.mem_singleton] at z; rw [z]; exact hc
theorem ma_g_nil : ma_g [] := ma_l_nil.g
abbrev ma_A : Type := (Nat × Nat × Nat) × (Nat → ma_W)
def mv_R (s : ma_A) : Nat := s.1.1
def mv_g (s : ma_A) : Nat := s.1.2.1
def mv_p (s : ma_A) : Nat := s.1.2.2
def mv_D (s : ma_A) : Nat → ma_W := s.2
def mv_w (s : ma_A) : ma_W := mv_D s (mv_R s - 1)
def mw_zero : ma_W := ((0, 0, 0), (fun _ => [], fun _ => []), (fun _ => 0, fun _ => 0))
def mw_part (w : ma_W) (c : Nat) : ma_W := ((mw_S w + 1, mw_E w, mw_F w), (fun q => if q = mw_S w then [] else mw_P w q, fun q => if q = mw_S w then [] else mw_G w q), (fun q => if q = mw_S w then c else mw_M w q, mw_R w))
def mw_addP (w : ma_W) (p c : Nat) : ma_W := (w.1, (fun q => if q = p then mw_P w p ++ [c] else mw_P w q, mw_G w), w.2.2)
abbrev mv_wh (s : ma_A) : Prop := (mv_g s = 0 ∧ 0 < (mw_P (mv_w s) (mv_p s)).length) ∨ (mv_g s ≠ 0 ∧ mv_p s + 1 = mw_S (mv_w s))
def mv_set (s : ma_A) (w : ma_W) (g p : Nat) : ma_A := ((mv_R s, g, p), fun j => if j = mv_R s - 1 then w else mv_D s j)
def mv_next (s : ma_A) : ma_A := ((mv_R s + 1, 0, 0), fun j => if j = mv_R s then mw_part mw_zero 0 else mv_D s j)
def mv_take (s : ma_A) (c : Nat) : Option ma_A :=
  if c = 32 then (if mv_wh s ∧ mv_R s < 12 then some (mv_next s) else none)
  else if c = 58 then (if mv_g s = 0 ∧ mv_wh s then some (mv_set s (mv_w s) 1 0) else none)
  else if c = 45 ∨ c = 61 then
    (if mv_g s = 0 then (if mv_wh s ∧ mw_S (mv_w s) < 4 then some (mv_set s (mw_part (mv_w s) c) 0 (mv_p s + 1)) else none)
    else (if mv_p s + 1 < mw_S (mv_w s) ∧ mw_M (mv_w s) (mv_p s + 1) = c then some (mv_set s (mv_w s) 1 (mv_p s + 1)) else none))
  else if mv_g s = 0 then (if (97 ≤ c ∧ c ≤ 122) ∧ (mw_P (mv_w s) (mv_p s)).length < 8 then some (mv_set s (mw_addP (mv_w s) (mv_p s) c) 0 (mv_p s)) else none)
  else (if ((97 ≤ c ∧ c ≤ 122) ∨ c = 46) ∧ (mw_G (mv_w s) (mv_p s)).length < 8 then some (mv_set s (mw_setG (mv_w s) (mv_p s) (mw_G (mv_w s) (mv_p s) ++ [c])) 1 (mv_p s)) else none)
def mv_post (o : Option ma_A) (f : ma_A → Prop) (z : Prop) : Prop := match o with
  | some s => f s
  | none => z
/-- the word that is being read -/
def mw_cur (w : ma_W) (g p : Nat) : Prop := (1 ≤ mw_S w ∧ mw_S w ≤ 4) ∧ (mw_E w = 0 ∧ mw_F w = 0) ∧ p < mw_S w ∧
  (∀ q, q < mw_S w → ma_l (mw_P w q) ∧ ma_g (mw_G w q) ∧ (0 < q → mw_M w q = 45 ∨ mw_M w q = 61)) ∧ (∀ q, q < mw_S w → (q + 1 < mw_S w ∨ g = 1) → mw_P w q ≠ []) ∧ (g = 0 → p + 1 = mw_S w) ∧ ∀ q, q < mw_S w → (g = 0 ∨ p < q) → mw_G w q = []
def mv_ok (s : ma_A) : Prop := (1 ≤ mv_R s ∧ mv_R s ≤ 12) ∧ mv_g s ≤ 1 ∧ (∀ j, j + 1 < mv_R s → mw_ok (mv_D s j)) ∧ mw_cur (mv_w s) (mv_g s) (mv_p s)
theorem mw_cur_ok {w : ma_W} {g p : Nat} (h : mw_cur w g p) (hp : ∀ q, q < mw_S w → mw_P w q ≠ []) : mw_ok w := by
  obtain ⟨h1, ⟨h2, h3⟩, h4, h5, h6, h7, h8⟩ := h
  refine ⟨h1, by omega, by omega, fun z => by omega, fun q hq => ?_, fun k hk => by omega⟩
  have z := h5 q hq
  exact ⟨z.1.p (hp q hq), z.2.1, z.2.2⟩
theorem mv_wh_ok {s : ma_A} (h : mv_ok s) (hw : mv_wh s) : ∀ j, j < mv_R s → mw_ok (mv_D s j) := by
  intro j hj
  obtain ⟨h1, h2, h3, h4⟩ := h
  by_cases e : j + 1 < mv_R s
  · exact h3 j e
  · have ej : mv_D s j = mv_w s := by
      show _ = mv_D s (mv_R s - 1)
      rw [show j = mv_R s - 1 by omega]
    rw [ej]
    refine mw_cur_ok h4 (fun q hq => ?_)
    obtain ⟨_, _, _, _, c5, c6, _⟩ := h4
    rcases hw with w | w
    · by_cases e2 : q + 1 < mw_S (mv_w s)
      · exact c5 q hq (Or.inl e2)
      · have := c6 w.1
        intro z
        have w2 := w.2
        rw [show mv_p s = q by omega, z] at w2
        exact absurd w2 (by decide)
    · exact c5 q hq (Or.inr (by omega))
theorem mv_set_w {s : ma_A} {w : ma_W} {g p : Nat} : mv_w (mv_set s w g p) = w := if_pos rfl
theorem mv_set_ok {s : ma_A} {w : ma_W} {g p : Nat} (h : mv_ok s) (hg : g ≤ 1) (hw : mw_cur w g p) : mv_ok (mv_set s w g p) := by
  refine ⟨h.1, hg, fun j hj => ?_, ?_⟩
  · have hj' : j + 1 < mv_R s := hj
    show mw_ok (if j = mv_R s - 1 then w else mv_D s j)
    rw [if_neg (by omega)]
    exact h.2.2.1 j hj'
  · rw [mv_set_w]; exact hw
theorem mw_new_cur : mw_cur (mw_part mw_zero 0) 0 0 := by
  refine ⟨⟨by decide, by decide⟩, ⟨rfl, rfl⟩, by decide, fun q hq => ⟨?_, ?_, fun h0 => ?_⟩, fun q hq h => ?_, fun _ => rfl, fun q hq _ => ?_⟩
  · show ma_l (if q = 0 then [] else [])
    by_cases e : q = 0
    · rw [if_pos e]; exact ma_l_nil
    · rw [if_neg e]; exact ma_l_nil
  · show ma_g (if q = 0 then [] else [])
    by_cases e : q = 0
    · rw [if_pos e]; exact ma_g_nil
    · rw [if_neg e]; exact ma_g_nil
  · have : q < 1 := hq
    omega
  · have h1 : q < 1 := hq
    have h2 : q + 1 < 1 ∨ (0 : Nat) = 1 := h
    omega
  · show (if q = 0 then [] else []) = []
    by_cases e : q = 0
    · rw [if_pos e]
    · rw [if_neg e]
theorem mv_next_w {s : ma_A} : mv_w (mv_next s) = mw_part mw_zero 0 := by
  show (if mv_R s + 1 - 1 = mv_R s then _ else _) = _
  rw [if_pos (by omega)]
theorem mv_next_ok {s : ma_A} (h : mv_ok s) (hw : mv_wh s) (hR : mv_R s < 12) : mv_ok (mv_next s) := by
  refine ⟨⟨by show 1 ≤ mv_R s + 1; omega, by show mv_R s + 1 ≤ 12; omega⟩, Nat.zero_le _, fun j hj => ?_, ?_⟩
  · have hj' : j + 1 < mv_R s + 1 := hj
    show mw_ok (if j = mv_R s then _ else mv_D s j)
    rw [if_neg (by omega)]
    exact mv_wh_ok h hw j (by omega)
  · rw [mv_next_w]; exact mw_new_cur
theorem mv_len {s : ma_A} (h : mv_ok s) : (mw_P (mv_w s) (mv_p s)).length ≤ 8 ∧ (mw_G (mv_w s) (mv_p s)).length ≤ 8 := by
  obtain ⟨_, _, _, _, _, c3, c4, _⟩ := h
  exact ⟨(c4 _ c3).1.1, (c4 _ c3).2.1.1⟩
theorem mw_cur_colon {w : ma_W} {p : Nat} (h : mw_cur w 0 p) (hn : 0 < (mw_P w p).length) : mw_cur w 1 0 := by
  obtain ⟨h1, h2, h3, h4, h5, h6, h7⟩ := h
  refine ⟨h1, h2, by omega, h4, fun q hq _ => ?_, fun z => absurd z (by decide), fun q hq z => h7 q hq (Or.inl rfl)⟩
  by_cases e : q + 1 < mw_S w
  · exact h5 q hq (Or.inl e)
  · have := h6 rfl
    intro z
    rw [show p = q by omega, z] at hn
    exact absurd hn (by decide)
theorem mw_cur_part {w : ma_W} {p c : Nat} (h : mw_cur w 0 p) (hn : 0 < (mw_P w p).length) (hS : mw_S w < 4) (hc : c = 45 ∨ c = 61) : mw_cur (mw_part w c) 0 (p + 1) := by
  obtain ⟨h1, h2, h3, h4, h5, h6, h7⟩ := h
  have h6' := h6 rfl
  have eS : mw_S (mw_part w c) = mw_S w + 1 := rfl
  have eP : ∀ q, mw_P (mw_part w c) q = if q = mw_S w then [] else mw_P w q := fun _ => rfl
  have eG : ∀ q, mw_G (mw_part w c) q = if q = mw_S w then [] else mw_G w q := fun _ => rfl
  have eM : ∀ q, mw_M (mw_part w c) q = if q = mw_S w then c else mw_M w q := fun _ => rfl
  refine ⟨by omega, h2, by omega, fun q hq => ?_, fun q hq z => ?_, fun _ => by omega, fun q hq z => ?_⟩
  · rw [eP, eG, eM]
    by_cases e : q = mw_S w
    · rw [if_pos e, if_pos e, if_pos e]; exact ⟨ma_l_nil, ma_g_nil, fun _ => hc⟩
    · rw [if_neg e, if_neg e, if_neg e]; exact h4 q (by omega)
  · rw [eP, if_neg (by omega)]
    by_cases e : q + 1 < mw_S w
    · exact h5 q (by omega) (Or.inl e)
    · intro z2
      rw [show p = q by omega, z2] at hn
      exact absurd hn (by decide)
  · rw [eG]
    by_cases e : q = mw_S w
    · rw [if_pos e]
    · rw [if_neg e]; exact h7 q (by omega) (Or.inl rfl)
theorem mw_cur_addP {w : ma_W} {p c : Nat} (h : mw_cur w 0 p) (hn : (mw_P w p).length < 8) (hc : 97 ≤ c ∧ c ≤ 122) : mw_cur (mw_addP w p c) 0 p := by
  obtain ⟨h1, h2, h3, h4, h5, h6, h7⟩ := h
  have h6' := h6 rfl
  have eP : ∀ q, mw_P (mw_addP w p c) q = if q = p then mw_P w p ++ [c] else mw_P w q := fun _ => rfl
  refine ⟨h1, h2, h3, fun q hq => ?_, fun q hq z => ?_, h6, h7⟩
  · have z := h4 q hq
    refine ⟨?_, z.2⟩
    rw [eP]
    by_cases e : q = p
    · rw [if_pos e]; exact ma_l_app (h4 p h3).1 hn hc
    · rw [if_neg e]; exact z.1
  · rw [eP]
    by_cases e : q = p
    · rw [if_pos e]
      intro z2
      have := congrArg List.length z2
      rw [List.length_append] at this
      have e3 : (mw_P w p).length + 1 = 0 := this
      omega
    · rw [if_neg e]; exact h5 q hq z
theorem mw_cur_addG {w : ma_W} {p c : Nat} (h : mw_cur w 1 p) (hn : (mw_G w p).length < 8) (hc : (97 ≤ c ∧ c ≤ 122) ∨ c = 46) : mw_cur (mw_setG w p (mw_G w p ++ [c])) 1 p := by
  obtain ⟨h1, h2, h3, h4, h5, h6, h7⟩ := h
  have eG : ∀ q, mw_G (mw_setG w p (mw_G w p ++ [c])) q = if q = p then mw_G w p ++ [c] else mw_G w q := fun _ => rfl
  refine ⟨h1, h2, h3, fun q hq => ?_, h5, h6, fun q hq z => ?_⟩
  · have z := h4 q hq
    refine ⟨z.1, ?_, z.2.2⟩
    rw [eG]
    by_cases e : q = p
    · rw [if_pos e]; exact ma_g_app (h4 p h3).2.1 hn hc
    · rw [if_neg e]; exact z.2.1
  · rw [eG, if_neg (by omega)]
    exact h7 q hq z
theorem mw_cur_step {w : ma_W} {p : Nat} (h : mw_cur w 1 p) (hp : p + 1 < mw_S w) : mw_cur w 1 (p + 1) := by
  obtain ⟨h1, h2, h3, h4, h5, h6, h7⟩ := h
  exact ⟨h1, h2, hp, h4, h5, fun z => absurd z (by decide), fun q hq z => h7 q hq (by omega)⟩
theorem mv_take_ok {s : ma_A} {c : Nat} (h : mv_ok s) : mv_post (mv_take s c) mv_ok True := by
  have hg := h.2.1
  have hc := h.2.2.2
  have g0 : mv_g s = 0 → mw_cur (mv_w s) 0 (mv_p s) := fun z => by rw [z] at hc; exact hc
  have g1 : ¬ mv_g s = 0 → mw_cur (mv_w s) 1 (mv_p s) := fun z => by rw [show mv_g s = 1 by omega] at hc; exact hc
  have wn : mv_g s = 0 → mv_wh s → 0 < (mw_P (mv_w s) (mv_p s)).length := fun z z2 => by
    rcases z2 with z2 | z2
    · exact z2.2
    · exact absurd z z2.1
  unfold mv_take
  by_cases c1 : c = 32
  · rw [if_pos c1]
    by_cases q : mv_wh s ∧ mv_R s < 12
    · rw [if_pos q]; exact mv_next_ok h q.1 q.2
    · rw [if_neg q]; trivial
  · rw [if_neg c1]
    by_cases c2 : c = 58
    · rw [if_pos c2]
      by_cases q : mv_g s = 0 ∧ mv_wh s
      · rw [if_pos q]; exact mv_set_ok h (Nat.le_refl 1) (mw_cur_colon (g0 q.1) (wn q.1 q.2))
      · rw [if_neg q]; trivial
    · rw [if_neg c2]
      by_cases c3 : c = 45 ∨ c = 61
      · rw [if_pos c3]
        by_cases z : mv_g s = 0
        · rw [if_pos z]
          by_cases q : mv_wh s ∧ mw_S (mv_w s) < 4
          · rw [if_pos q]; exact mv_set_ok h (Nat.zero_le 1) (mw_cur_part (g0 z) (wn z q.1) q.2 c3)
          · rw [if_neg q]; trivial
        · rw [if_neg z]
          by_cases q : mv_p s + 1 < mw_S (mv_w s) ∧ mw_M (mv_w s) (mv_p s + 1) = c
          · rw [if_pos q]; exact mv_set_ok h (Nat.le_refl 1) (mw_cur_step (g1 z) q.1)
          · rw [if_neg q]; trivial
      · rw [if_neg c3]
        by_cases z : mv_g s = 0
        · rw [if_pos z]
          by_cases q : (97 ≤ c ∧ c ≤ 122) ∧ (mw_P (mv_w s) (mv_p s)).length < 8
          · rw [if_pos q]; exact mv_set_ok h (Nat.zero_le 1) (mw_cur_addP (g0 z) q.2 q.1)
          · rw [if_neg q]; trivial
        · rw [if_neg z]
          by_cases q : ((97 ≤ c ∧ c ≤ 122) ∨ c = 46) ∧ (mw_G (mv_w s) (mv_p s)).length < 8
          · rw [if_pos q]; exact mv_set_ok h (Nat.le_refl 1) (mw_cur_addG (g1 z) q.2 q.1)
          · rw [if_neg q]; trivial
theorem kI_n9 {k : Nat} (h : k < 2 ^ 31) : ¬ nI k = (-9 : Int32) := fun e => by
  have := congrArg Int32.toInt e
  rw [nI_toInt h, show (-9 : Int32).toInt = -9 from by decide] at this
  omega
/-- the whole text -/
def mv_run (t : Nat → Nat) : Nat → Nat → ma_A → Int32 × ma_A
  | 0, k, s => (if mv_wh s then -9 else nI k, s)
  | m + 1, k, s => match mv_take s (t k) with
    | some s' => mv_run t m (k + 1) s'
    | none => (nI k, s)
def mv_0 : ma_A := ((1, 0, 0), fun _ => mw_part mw_zero 0)
def mv_read (n : Nat) (t : Nat → Nat) : Int32 × ma_A := mv_run t n 0 mv_0
theorem mv_0_ok : mv_ok mv_0 := ⟨⟨by decide, by decide⟩, by decide, fun j hj => absurd (show j + 1 < 1 from hj) (by omega), mw_new_cur⟩
theorem mv_run_ok {t : Nat → Nat} : ∀ (m k : Nat) (s : ma_A), mv_ok s → k + m ≤ 60 → mv_ok (mv_run t m k s).2 ∧ ((mv_run t m k s).1 = -9 → mv_wh (mv_run t m k s).2) := by
  intro m
  induction m with
  | zero =>
    intro k s h hk
    refine ⟨h, fun e => ?_⟩
    have e' : (if mv_wh s then -9 else nI k) = (-9 : Int32) := e
    by_cases q : mv_wh s
    · exact q
    · rw [if_neg q] at e'
      exact absurd e' (kI_n9 (by omega))
  | succ m ih =>
    intro k s h hk
    have z := mv_take_ok (c := t k) h
    unfold mv_run
    cases e : mv_take s (t k) with
    | some s' =>
      rw [e] at z
      exact ih (k + 1) s' z (by omega)
    | none =>
      refine ⟨h, fun e2 => ?_⟩
      exact absurd (show nI k = (-9 : Int32) from e2) (kI_n9 (by omega))
theorem mv_read_ok {n : Nat} {t : Nat → Nat} (hn : n ≤ 60) : (1 ≤ mv_R (mv_read n t).2 ∧ mv_R (mv_read n t).2 ≤ 12) ∧ ((mv_read n t).1 = -9 → ∀ j, j < mv_R (mv_read n t).2 → mw_ok (mv_D (mv_read n t).2 j)) := by
  obtain ⟨h1, h2⟩ := mv_run_ok (t := t) n 0 mv_0 mv_0_ok (by omega)
  exact ⟨h1.1, fun e => mv_wh_ok h1 (h2 e)⟩
