/-! ===== the class's history ===== -/
/-- the history: how many pages, where the oldest lies, the pages from the oldest on -/
def rc_H (σ : ka_S) (n od : Nat) (H : Nat → ma_P) : Prop := (σ.1 (20, 0, 0) 1 = nI n ∧ σ.1 (20, 0, 0) 2 = nI od) ∧ ∀ j, j < n → rc_P σ (4 + (od + j) % 14) (H j)
def xh (k : ka_K) (n : Nat) : Prop := (k.1 = 20) ∨ (4 ≤ k.2.1 ∧ k.2.1 < 18 ∧ k.1 ≤ 9)
theorem rc_H_ag {X : ka_K → Nat → Prop} {σ σ' : ka_S} {n od : Nat} {H : Nat → ma_P} (h : rc_H σ n od H) (a : ag X σ σ') (h20 : ∀ j, ¬ X (20, 0, 0) j) (hX : ∀ κ o i m, κ ≤ 9 → 4 ≤ o → o < 18 → ¬ X (κ, o, i) m) : rc_H σ' n od H :=
  ⟨⟨(a _ _ (h20 1)).1.trans h.1.1, (a _ _ (h20 2)).1.trans h.1.2⟩, fun j hj => rc_P_ag (h.2 j hj) a (fun κ i m hk => hX κ _ i m hk (by omega) (by omega))⟩
/-- what is remembered: the oldest goes when there are fourteen -/
def mh_n (n : Nat) : Nat := if n = 14 then 14 else n + 1
def mh_H (n : Nat) (H : Nat → ma_P) (M : ma_P) (j : Nat) : ma_P := if n = 14 then (if j = 13 then M else H (j + 1)) else if j = n then M else H j
theorem kI_rem {a b : Nat} (ha : a < 2 ^ 31) (h0 : 0 < b) (hb : b < 2 ^ 31) : nI a - nI a / nI b * nI b = nI (a % b) := pk_rem ha h0 hb
theorem sp_X0_remember {σ : ka_S} {o n od : Nat} {H : Nat → ma_P} {M : ma_P} {Q : ka_S → Prop} (ho : o < 4) (hp : rc_P σ o M) (ok : mp_ok M) (hH : rc_H σ n od H) (hn : n ≤ 14) (hod : od < 14)
    (h : ∀ σ' od', od' < 14 → ag xh σ σ' → rc_H σ' (mh_n n) od' (mh_H n H M) → Q σ') : kw_X0_remember σ o Q := by
  have e0 : (nI od + nI n) - (nI od + nI n) / 14 * 14 = nI ((od + n) % 14) := by
    rw [nI_add]
    exact kI_rem (b := 14) (by omega) (by decide) (by decide)
  have hm : (od + n) % 14 < 14 := Nat.mod_lt _ (by decide)
  unfold kw_X0_remember
  rw [hH.1.1, hH.1.2, e0]
  refine ⟨(kI_in (by omega)).mpr hm, ?_⟩
  rw [nI_clamp (by omega)]
  refine sp_X4_copyFrom (by omega) hp ok (fun σ1 a1 r1 => ?_)
  have z20 : ∀ j, ¬ xp ((od + n) % 14 + 4) (20, 0, 0) j := fun j q => absurd (show 20 ≤ 9 from q.2) (by decide)
  have c1 : σ1.1 (20, 0, 0) 1 = nI n := (a1 _ _ (z20 1)).1.trans hH.1.1
  have c2 : σ1.1 (20, 0, 0) 2 = nI od := (a1 _ _ (z20 2)).1.trans hH.1.2
  have ah : ag xh σ σ1 := ag_mono a1 (fun k m q => Or.inr (by have := q.1; have := q.2; omega))
  have keep : ∀ j, j < n → (od + j) % 14 ≠ (od + n) % 14 → rc_P σ1 (4 + (od + j) % 14) (H j) := fun j hj hne => rc_P_xp (hH.2 j hj) (by omega) a1
  have up : ∀ (x : ka_S) f v, rc_P x (4 + f) M → rc_P (ka_wI x (20, 0, 0) v (nI f)) (4 + f) M := fun x f v hq => hq
  rw [c1, c2]
  have x20 : ∀ {σ2 : ka_S} {j : Nat} {x : Int32} {o' : Nat} {M' : ma_P}, rc_P σ2 o' M' → rc_P (ka_wI σ2 (20, 0, 0) j x) o' M' := fun {σ2 j x o' M'} hq =>
    rc_P_ag (X := fun k _ => k.1 = 20) hq (ag_I ag_refl rfl) (fun κ i m hk q => by
      have : κ = 20 := q
      omega)
  refine ⟨fun q => ?_, fun q => ?_⟩
  · rw [kI_lit, nI_leI (by decide) (by omega)] at q
    obtain rfl : n = 14 := by omega
    have e1 : (nI od + 1) - (nI od + 1) / 14 * 14 = nI ((od + 1) % 14) := by
      rw [show (nI od + 1 : Int32) = nI (od + 1) from nI_1 od]
      exact kI_rem (b := 14) (by omega) (by decide) (by decide)
    rw [e1, forall_eq]
    refine h _ ((od + 1) % 14) (Nat.mod_lt _ (by decide)) (ag_I ah (Or.inl rfl)) ⟨⟨?_, ?_⟩, fun j hj => ?_⟩
    · simp only [st_I, st_L, st_I2, st_L1, Prod.mk.injEq, Nat.reduceEqDiff, false_and, and_false, true_and, and_true, and_self, if_false, if_true, reduceIte]
      exact c1
    · simp only [st_I, st_L, st_I2, st_L1, Prod.mk.injEq, Nat.reduceEqDiff, false_and, and_false, true_and, and_true, and_self, if_false, if_true, reduceIte]
    · have hj' : j < 14 := hj
      show rc_P _ _ (if 14 = 14 then (if j = 13 then M else H (j + 1)) else _)
      rw [if_pos rfl]
      refine x20 ?_
      by_cases q2 : j = 13
      · rw [if_pos q2, show 4 + ((od + 1) % 14 + j) % 14 = (od + 14) % 14 + 4 by omega]
        exact r1
      · rw [if_neg q2, show 4 + ((od + 1) % 14 + j) % 14 = 4 + (od + (j + 1)) % 14 by omega]
        exact keep (j + 1) (by omega) (by omega)
  · rw [kI_lit, nI_leI (by decide) (by omega)] at q
    rw [forall_eq, show (nI n + 1 : Int32) = nI (n + 1) from nI_1 n]
    have hn14 : n ≠ 14 := by omega
    refine h _ od hod (ag_I ah (Or.inl rfl)) ⟨⟨?_, ?_⟩, fun j hj => ?_⟩
    · simp only [st_I, st_L, st_I2, st_L1, Prod.mk.injEq, Nat.reduceEqDiff, false_and, and_false, true_and, and_true, and_self, if_false, if_true, reduceIte]
      show _ = nI (if n = 14 then 14 else n + 1)
      rw [if_neg hn14]
    · simp only [st_I, st_L, st_I2, st_L1, Prod.mk.injEq, Nat.reduceEqDiff, false_and, and_false, true_and, and_true, and_self, if_false, if_true, reduceIte]
      exact c2
    · have hj' : j < (if n = 14 then 14 else n + 1) := hj
      rw [if_neg hn14] at hj'
      show rc_P _ _ (if n = 14 then _ else if j = n then M else H j)
      rw [if_neg hn14]
      refine x20 ?_
      by_cases q2 : j = n
      · rw [if_pos q2, q2, Nat.add_comm 4]
        exact r1
      · rw [if_neg q2]
        exact keep j (by omega) (by omega)
theorem sp_X0_takeBack {σ : ka_S} {o n od : Nat} {H : Nat → ma_P} {Q : ka_S → Prop} (ho : o < 4) (hH : rc_H σ (n + 1) od H) (ok : mp_ok (H n)) (hn : n + 1 ≤ 14) (hod : od < 14)
    (h : ∀ σ', ag (fun k m => k.1 = 20 ∨ xp o k m) σ σ' → rc_H σ' n od H → rc_P σ' o (H n) → Q σ') : kw_X0_takeBack σ o Q := by
  unfold kw_X0_takeBack
  rw [hH.1.1]
  have s1 : nI (n + 1) - (1 : Int32) = nI n := by rw [kI_lit, kI_sub (show 1 ≤ n + 1 by omega)]; rfl
  refine ⟨fun q => ?_, fun _ => ?_⟩
  · rw [kI_lit, nI_leI (by omega) (by decide)] at q
    omega
  · rw [forall_eq, s1]
    have c1 : (ka_wI σ (20, 0, 0) 1 (nI n)).1 (20, 0, 0) 1 = nI n := by
      simp only [st_I, st_L, st_I2, st_L1, Prod.mk.injEq, Nat.reduceEqDiff, false_and, and_false, true_and, and_true, and_self, if_false, if_true, reduceIte]
    have c2 : (ka_wI σ (20, 0, 0) 1 (nI n)).1 (20, 0, 0) 2 = nI od := by
      simp only [st_I, st_L, st_I2, st_L1, Prod.mk.injEq, Nat.reduceEqDiff, false_and, and_false, true_and, and_true, and_self, if_false, if_true, reduceIte]
      exact hH.1.2
    have e0 : (nI od + nI n) - (nI od + nI n) / 14 * 14 = nI ((od + n) % 14) := by
      rw [nI_add]
      exact kI_rem (b := 14) (by omega) (by decide) (by decide)
    have hm : (od + n) % 14 < 14 := Nat.mod_lt _ (by decide)
    have a0 : ag (fun (k : ka_K) (_ : Nat) => k.1 = 20) σ (ka_wI σ (20, 0, 0) 1 (nI n)) := ag_I ag_refl rfl
    have x20 : ∀ j, j < n + 1 → rc_P (ka_wI σ (20, 0, 0) 1 (nI n)) (4 + (od + j) % 14) (H j) := fun j hj => rc_P_ag (hH.2 j hj) a0 (fun κ i m hk q => by
      have : κ = 20 := q
      omega)
    rw [c1, c2, e0]
    refine ⟨(kI_in (by omega)).mpr hm, ?_⟩
    rw [nI_clamp (by omega), Nat.add_comm _ 4]
    refine sp_X4_copyFrom (by omega) (x20 n (by omega)) ok (fun σ1 a1 r1 => ?_)
    refine h σ1 (ag_trans (ag_mono a0 (fun k m q => Or.inl q)) (ag_mono a1 (fun k m q => Or.inr q))) ⟨⟨(a1 _ _ (fun q => absurd (show 20 ≤ 9 from q.2) (by decide))).1.trans c1, (a1 _ _ (fun q => absurd (show 20 ≤ 9 from q.2) (by decide))).1.trans c2⟩, fun j hj => rc_P_xp (x20 j (by omega)) (by omega) a1⟩ r1
theorem sp_X0_clear {σ : ka_S} {H : Nat → ma_P} {Q : ka_S → Prop} (h : ∀ σ', ag (fun k _ => k.1 = 20) σ σ' → rc_H σ' 0 0 H → Q σ') : kw_X0_clear σ Q := by
  unfold kw_X0_clear
  rw [forall_eq, forall_eq]
  refine h _ (ag_I (ag_I ag_refl rfl) rfl) ⟨⟨?_, ?_⟩, fun j hj => absurd hj (Nat.not_lt_zero j)⟩
  · simp only [st_I, st_L, st_I2, st_L1, Prod.mk.injEq, Nat.reduceEqDiff, false_and, and_false, true_and, and_true, and_self, if_false, if_true, reduceIte]
    rfl
  · simp only [st_I, st_L, st_I2, st_L1, Prod.mk.injEq, Nat.reduceEqDiff, false_and, and_false, true_and, and_true, and_self, if_false, if_true, reduceIte]
    rfl
