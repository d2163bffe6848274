/-! ===== the reference's diary ===== -/
def rd_H (σ : ka_S) (n : Nat) (H : Nat → ma_P) : Prop := σ.1 (25, 0, 0) 8 = nI n ∧ ∀ j, j < n → mp_ok (H j) ∧ rd_at σ (39, 0, 0) (253 * j) (H j)
def xd (k : ka_K) (j : Nat) : Prop := k = (39, 0, 0) ∨ (k = (25, 0, 0) ∧ j = 8)
theorem rd_at_ag {σ σ' : ka_S} {a : ka_K} {b : Nat} {M : ma_P} (ok : mp_ok M) (h : rd_at σ a b M) (e : ∀ j, j < 253 → σ'.2 a (b + j) = σ.2 a (b + j)) : rd_at σ' a b M := rd_F_congr ok h (fun j hj => e j hj)
theorem sp_X9_note_37 {σ0 σ : ka_S} {n : Nat} {H : Nat → ma_P} {M : ma_P} {Q : ka_S → Prop} (ok : mp_ok M) (hp : rd_P σ (37, 0, 0) M) (hn : n < 14) (ha : ag xd σ0 σ) (hH : rd_H σ n H)
    (h : ∀ σ', ag xd σ0 σ' → rd_H σ' (n + 1) (fun j => if j = n then M else H j) → Q σ') : kw_X9_note_37 Q σ := by
  unfold kw_X9_note_37
  rw [hH.1, kI_lit, kI_lit, pk_mul]
  refine sp_X9_copy (s := 0) (d := 253 * n) (m := 253) (by decide) (by show 253 * n + 253 ≤ 3542; omega) (by omega) (Or.inl (by decide)) (fun σ1 a1 r1 => ?_)
  have c : σ1.1 (25, 0, 0) 8 = nI n := (a1 (25, 0, 0) 8 (fun q => absurd q.1 (by decide))).1.trans hH.1
  rw [c, forall_eq]
  refine h _ (ag_I (ag_trans ha (ag_mono a1 (fun k j q => Or.inl q.1))) (Or.inr ⟨rfl, rfl⟩)) ⟨?_, fun j hj => ?_⟩
  · simp only [st_I, st_L, st_I2, st_L1, Prod.mk.injEq, Nat.reduceEqDiff, false_and, and_false, true_and, and_true, and_self, if_false, if_true, reduceIte]
    exact nI_1 n
  · show mp_ok (if j = n then M else H j) ∧ rd_at _ _ _ (if j = n then M else H j)
    by_cases q : j = n
    · rw [if_pos q]
      refine ⟨ok, rd_F_congr ok hp (fun i hi => ?_)⟩
      show σ1.2 (39, 0, 0) (253 * j + i) = σ.2 (37, 0, 0) i
      rw [q, r1 i hi, Nat.zero_add]
    · rw [if_neg q]
      have g := hH.2 j (by omega)
      refine ⟨g.1, rd_at_ag g.1 g.2 (fun i hi => ?_)⟩
      exact (a1 (39, 0, 0) _ (fun z => by have := z.2; omega)).2
theorem sp_X9_note {σ : ka_S} {n : Nat} {H : Nat → ma_P} {M : ma_P} {Q : ka_S → Prop} (ok : mp_ok M) (hp : rd_P σ (37, 0, 0) M) (hn : n ≤ 14) (hH : rd_H σ n H) (h : ∀ σ', ag xd σ σ' → rd_H σ' (mh_n n) (mh_H n H M) → Q σ') : kw_X9_note σ Q := by
  unfold kw_X9_note
  rw [hH.1, kI_lit, nI_eq (by omega) (by decide)]
  refine ⟨fun q => ?_, fun q => ?_⟩
  · subst q
    show kw_X9_copy σ (39, 0, 0) (39, 0, 0) (nI 253) (nI 0) (nI 3289) _
    refine sp_X9_copy (by decide) (by decide) (by decide) (Or.inr (Or.inl (by decide))) (fun σ1 a1 r1 => ?_)
    have c : σ1.1 (25, 0, 0) 8 = nI 14 := (a1 (25, 0, 0) 8 (fun q => absurd q.1 (by decide))).1.trans hH.1
    rw [c, forall_eq]
    have a2 : ag xd σ (ka_wI σ1 (25, 0, 0) 8 (nI 14 - 1)) := ag_I (ag_mono a1 (fun k j q => Or.inl q.1)) (Or.inr ⟨rfl, rfl⟩)
    refine sp_X9_note_37 (n := 13) (H := fun j => H (j + 1)) (σ0 := σ) ok (rd_P_ag ok hp a2 (fun n _ q => ?_)) (by decide) a2 ⟨?_, fun j hj => ?_⟩ (fun σ2 a3 r3 => h σ2 a3 ⟨?_, fun j hj => ?_⟩)
    · rcases q with q | q
      · exact absurd q (by decide)
      · exact absurd q.1 (by decide)
    · simp only [st_I, st_L, st_I2, st_L1, Prod.mk.injEq, Nat.reduceEqDiff, false_and, and_false, true_and, and_true, and_self, if_false, if_true, reduceIte]
      rfl
    · have g := hH.2 (j + 1) (by omega)
      refine ⟨g.1, rd_F_congr g.1 g.2 (fun i hi => ?_)⟩
      show σ1.2 (39, 0, 0) (253 * j + i) = σ.2 (39, 0, 0) (253 * (j + 1) + i)
      have := r1 (253 * j + i) (by omega)
      rw [Nat.zero_add] at this
      rw [this, show 253 + (253 * j + i) = 253 * (j + 1) + i by omega]
    · exact r3.1
    · have := r3.2 j hj
      show mp_ok (if 14 = 14 then (if j = 13 then M else H (j + 1)) else _) ∧ rd_at _ _ _ (if 14 = 14 then (if j = 13 then M else H (j + 1)) else _)
      rw [if_pos rfl]
      exact this
  · refine sp_X9_note_37 (σ0 := σ) ok hp (by omega) ag_refl hH (fun σ2 a3 r3 => h σ2 a3 ⟨?_, fun j hj => ?_⟩)
    · show _ = nI (if n = 14 then 14 else n + 1)
      rw [if_neg q]
      exact r3.1
    · have hj' : j < (if n = 14 then 14 else n + 1) := hj
      rw [if_neg q] at hj'
      show mp_ok (if n = 14 then _ else if j = n then M else H j) ∧ rd_at _ _ _ (if n = 14 then _ else if j = n then M else H j)
      rw [if_neg q]
      exact r3.2 j hj'
