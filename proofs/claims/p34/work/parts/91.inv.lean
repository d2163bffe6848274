/-! ===== what holds between two calls ===== -/
abbrev ma_X : Type := (Nat × (Nat → Nat)) × ma_P × (Nat × (Nat → ma_P)) × ((Nat → Nat) × (Nat → ma_P))
def kx_n (A : ma_X) : Nat := A.1.1
def kx_t (A : ma_X) : Nat → Nat := A.1.2
def kx_M (A : ma_X) : ma_P := A.2.1
def kx_h (A : ma_X) : Nat := A.2.2.1.1
def kx_H (A : ma_X) : Nat → ma_P := A.2.2.1.2
def kx_b (A : ma_X) : Nat → Nat := A.2.2.2.1
def kx_B (A : ma_X) : Nat → ma_P := A.2.2.2.2
def kx_setT (A : ma_X) (n : Nat) (t : Nat → Nat) : ma_X := ((n, t), A.2)
def kx_setM (A : ma_X) (M : ma_P) : ma_X := (A.1, M, A.2.2)
def kx_setH (A : ma_X) (h : Nat) (H : Nat → ma_P) : ma_X := (A.1, A.2.1, (h, H), A.2.2.2)
def kx_setB (A : ma_X) (b : Nat → Nat) (B : Nat → ma_P) : ma_X := (A.1, A.2.1, A.2.2.1, (b, B))
def kx_note (A : ma_X) : ma_X := kx_setH A (mh_n (kx_h A)) (mh_H (kx_h A) (kx_H A) (kx_M A))
def ko (A : ma_X) : Prop := kx_n A ≤ 60 ∧ (∀ k, k < kx_n A → kx_t A k < 256) ∧ mp_ok (kx_M A) ∧ kx_h A ≤ 14 ∧ (∀ j, j < kx_h A → mp_ok (kx_H A j)) ∧ ∀ s, s < 2 → kx_b A s ≤ 1 ∧ (kx_b A s = 1 → mp_ok (kx_B A s))
def kc (σ : ka_S) (A : ma_X) : Prop := rc_T σ (kx_n A) (kx_t A) ∧ rc_P σ 0 (kx_M A) ∧ (∃ od, od < 14 ∧ rc_H σ (kx_h A) od (kx_H A)) ∧ ∀ s, s < 2 → σ.1 (24, 0, 0) s = nI (kx_b A s) ∧ (kx_b A s = 1 → rc_P σ (s + 2) (kx_B A s))
/-- what a call of the class may change, of the reference; scratch places of both -/
def xC (k : ka_K) (_ : Nat) : Prop := k.1 ≤ 24
def xS (k : ka_K) (_ : Nat) : Prop := (12 ≤ k.1 ∧ k.1 ≤ 18) ∨ (k.2.1 = 18 ∧ k.1 ≤ 9) ∨ (k.2.1 = 1 ∧ k.1 ≤ 9)
def xU (k : ka_K) (n : Nat) : Prop := (27 ≤ k.1 ∧ k.1 ≤ 34) ∨ k = (36, 0, 0) ∨ k = (38, 0, 0) ∨ (k = (25, 0, 0) ∧ (n = 0 ∨ n = 3 ∨ (11 ≤ n ∧ n ≤ 13)))
theorem xS_C (k : ka_K) (n : Nat) (h : xS k n) : xC k n := by
  rcases h with h | h | h
  · show k.1 ≤ 24; omega
  · show k.1 ≤ 24; omega
  · show k.1 ≤ 24; omega
theorem xa_S (k : ka_K) (n : Nat) (h : xa k n) : xS k n := Or.inl ⟨h.1, Nat.le_trans h.2 (by decide)⟩
theorem xrd_S (k : ka_K) (n : Nat) (h : xrd k n) : xS k n := by
  rcases h with h | h
  · exact Or.inl ⟨by omega, by omega⟩
  · exact Or.inr (Or.inl ⟨h.1, h.2.2⟩)
theorem xtr_S (k : ka_K) (n : Nat) (h : xtr k n) : xS k n := by
  rcases h with h | h
  · exact Or.inr (Or.inr h)
  · exact xa_S k n h
theorem xp1_S (k : ka_K) (n : Nat) (h : xp 1 k n) : xS k n := Or.inr (Or.inr h)
theorem xp_C {o : Nat} (k : ka_K) (n : Nat) (h : xp o k n) : xC k n := Nat.le_trans h.2 (by decide)
theorem xy_U (k : ka_K) (n : Nat) (h : xy k n) : xU k n := by
  rcases h with h | h
  · exact Or.inl h
  · exact Or.inr (Or.inr (Or.inr ⟨h.1, Or.inr (Or.inr h.2)⟩))
theorem xrm_U (k : ka_K) (n : Nat) (h : xrm k n) : xU k n := by
  rcases h with h | h
  · exact Or.inr (Or.inl h)
  · exact Or.inr (Or.inr (Or.inr ⟨h.1, Or.inr (Or.inl h.2)⟩))
theorem xtm_U (k : ka_K) (n : Nat) (h : xtm k n) : xU k n := by
  rcases h with h | h
  · exact Or.inr (Or.inr (Or.inl h))
  · exact xy_U k n h
/-! scratch changes nothing -/
theorem kc_S {σ σ' : ka_S} {A : ma_X} (hc : kc σ A) (a : ag xS σ σ') : kc σ' A := by
  obtain ⟨h1, h2, ⟨od, h3, h4⟩, h5⟩ := hc
  have n0 : ∀ κ o i m, κ ≤ 9 → o ≠ 1 → o ≠ 18 → ¬ xS (κ, o, i) m := fun κ o i m hk ho1 ho2 q => by
    rcases q with q | q | q
    · have : 12 ≤ κ := q.1
      omega
    · exact ho2 q.1
    · exact ho1 q.1
  have n1 : ∀ κ o i m, 10 ≤ κ → κ ≤ 11 ∨ 19 ≤ κ → ¬ xS (κ, o, i) m := fun κ o i m h10 hk q => by
    rcases q with q | q | q
    · have q1 : 12 ≤ κ := q.1
      have q2 : κ ≤ 18 := q.2
      omega
    · have : κ ≤ 9 := q.2
      omega
    · have : κ ≤ 9 := q.2
      omega
  refine ⟨⟨(a _ _ (n1 10 0 0 1 (by decide) (by decide))).1.trans h1.1, fun k hk => (a _ _ (n1 11 0 0 k (by decide) (by decide))).1.trans (h1.2 k hk)⟩, rc_P_ag h2 a (fun κ i n hk => n0 κ 0 i n hk (by decide) (by decide)),
    ⟨od, h3, rc_H_ag h4 a (fun j => n1 20 0 0 j (by decide) (by decide)) (fun κ o i m hk ho1 ho2 => n0 κ o i m hk (by omega) (by omega))⟩, fun s hs => ⟨(a _ _ (n1 24 0 0 s (by decide) (by decide))).1.trans (h5 s hs).1, fun hb => rc_P_ag ((h5 s hs).2 hb) a (fun κ i n hk => n0 κ (s + 2) i n hk (by omega) (by omega))⟩⟩
theorem xU_no {κ n : Nat} (h : κ = 26 ∨ κ = 35 ∨ κ = 37 ∨ κ = 39 ∨ κ = 40) : ¬ xU (κ, 0, 0) n := by
  intro q
  rcases q with q | q | q | q
  · have q1 : 27 ≤ κ := q.1
    have q2 : κ ≤ 34 := q.2
    omega
  · have : κ = 36 := congrArg Prod.fst q
    omega
  · have : κ = 38 := congrArg Prod.fst q
    omega
  · have : κ = 25 := congrArg Prod.fst q.1
    omega
theorem xU_25 {n : Nat} (h : n = 2 ∨ n = 8) : ¬ xU (25, 0, 0) n := by
  intro q
  rcases q with q | q | q | q
  · exact absurd q.1 (by decide)
  · exact absurd q (by decide)
  · exact absurd q (by decide)
  · have := q.2
    omega
/-! pages, histories -/
theorem kc_page {σ σ' : ka_S} {A : ma_X} {M : ma_P} (hc : kc σ A) (a : ag (xp 0) σ σ') (hp : rc_P σ' 0 M) : kc σ' (kx_setM A M) := by
  obtain ⟨h1, h2, ⟨od, h3, h4⟩, h5⟩ := hc
  have n0 : ∀ κ o i m, o ≠ 0 ∨ 10 ≤ κ → ¬ xp 0 (κ, o, i) m := fun κ o i m hk q => by
    have q1 : o = 0 := q.1
    have q2 : κ ≤ 9 := q.2
    omega
  exact ⟨⟨(a _ _ (n0 10 0 0 1 (Or.inr (by decide)))).1.trans h1.1, fun k hk => (a _ _ (n0 11 0 0 k (Or.inr (by decide)))).1.trans (h1.2 k hk)⟩, hp,
    ⟨od, h3, rc_H_ag h4 a (fun j => n0 20 0 0 j (Or.inr (by decide))) (fun κ o i m hk _ _ => n0 κ o i m (Or.inl (by omega)))⟩, fun s hs => ⟨(a _ _ (n0 24 0 0 s (Or.inr (by decide)))).1.trans (h5 s hs).1, fun hb => rc_P_ag ((h5 s hs).2 hb) a (fun κ i n hk => n0 κ (s + 2) i n (Or.inl (by omega)))⟩⟩
theorem kc_hist {σ σ' : ka_S} {A : ma_X} {h od : Nat} {H : Nat → ma_P} (hc : kc σ A) (a : ag xh σ σ') (hod : od < 14) (hH : rc_H σ' h od H) : kc σ' (kx_setH A h H) := by
  obtain ⟨h1, h2, h3, h5⟩ := hc
  have n0 : ∀ κ o i m, κ ≠ 20 → o < 4 ∨ 10 ≤ κ → ¬ xh (κ, o, i) m := fun κ o i m hk hk2 q => by
    rcases q with q | q
    · exact hk q
    · have q1 : 4 ≤ o := q.1
      have q2 : κ ≤ 9 := q.2.2
      omega
  exact ⟨⟨(a _ _ (n0 10 0 0 1 (by decide) (Or.inr (by decide)))).1.trans h1.1, fun k hk => (a _ _ (n0 11 0 0 k (by decide) (Or.inr (by decide)))).1.trans (h1.2 k hk)⟩, rc_P_ag h2 a (fun κ i n hk => n0 κ 0 i n (by omega) (Or.inl (by decide))),
    ⟨od, hod, hH⟩, fun s hs => ⟨(a _ _ (n0 24 0 0 s (by decide) (Or.inr (by decide)))).1.trans (h5 s hs).1, fun hb => rc_P_ag ((h5 s hs).2 hb) a (fun κ i n hk => n0 κ (s + 2) i n (by omega) (Or.inl (by omega)))⟩⟩
theorem xh_C (k : ka_K) (n : Nat) (h : xh k n) : xC k n := by
  rcases h with h | h
  · show k.1 ≤ 24; omega
  · show k.1 ≤ 24; omega
theorem sc_remember {σ : ka_S} {A : ma_X} {Q : ka_S → Prop} (ok : ko A) (hc : kc σ A) (h : ∀ σ', ag xC σ σ' → kc σ' (kx_note A) → Q σ') : kw_X0_remember σ 0 Q := by
  obtain ⟨od, h3, h4⟩ := hc.2.2.1
  exact sp_X0_remember (by decide) hc.2.1 ok.2.2.1 h4 ok.2.2.2.1 h3 (fun σ1 od1 ho1 a1 r1 => h σ1 (ag_mono a1 xh_C) (kc_hist hc a1 ho1 r1))
theorem ko_setM {A : ma_X} {M : ma_P} (ok : ko A) (h : mp_ok M) : ko (kx_setM A M) := ⟨ok.1, ok.2.1, h, ok.2.2.2⟩
theorem ko_note {A : ma_X} (ok : ko A) : ko (kx_note A) := by
  obtain ⟨h1, h2, h3, h4, h5, h6⟩ := ok
  refine ⟨h1, h2, h3, ?_, fun j hj => ?_, h6⟩
  · show (if kx_h A = 14 then 14 else kx_h A + 1) ≤ 14
    by_cases q : kx_h A = 14
    · rw [if_pos q]; exact Nat.le_refl _
    · rw [if_neg q]; omega
  · have hj' : j < (if kx_h A = 14 then 14 else kx_h A + 1) := hj
    show mp_ok (if kx_h A = 14 then (if j = 13 then kx_M A else kx_H A (j + 1)) else if j = kx_h A then kx_M A else kx_H A j)
    by_cases q : kx_h A = 14
    · rw [if_pos q] at hj' ⊢
      by_cases q2 : j = 13
      · rw [if_pos q2]; exact h3
      · rw [if_neg q2]; exact h5 (j + 1) (by omega)
    · rw [if_neg q] at hj' ⊢
      by_cases q2 : j = kx_h A
      · rw [if_pos q2]; exact h3
      · rw [if_neg q2]; exact h5 j (by omega)
/-! refusals of the reference -/
/-! both answers are held against each other -/
