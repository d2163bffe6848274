/-! ===== the reference reads the text ===== -/
def xrm (k : ka_K) (n : Nat) : Prop := k = (36, 0, 0) ∨ (k = (25, 0, 0) ∧ n = 3)
def mv_n (s : ma_A) : Nat := if mv_g s = 0 then (mw_P (mv_w s) (mv_p s)).length else (mw_G (mv_w s) (mv_p s)).length
def rd_V (σ : ka_S) (s : ma_A) : Prop := σ.1 (25, 0, 0) 3 = nI (mv_R s) ∧ (∀ j, j < mv_R s → rd_Wf (fun c => σ.2 (36, 0, 0) (18 * j + c)) (mv_D s j)) ∧ ∀ c, 6 + 3 * mw_S (mv_w s) ≤ c → c < 18 → σ.2 (36, 0, 0) (18 * (mv_R s - 1) + c) = 0
theorem mv_n_le {s : ma_A} (ok : mv_ok s) : mv_n s ≤ 8 := by
  have h := mv_len ok
  unfold mv_n
  by_cases z : mv_g s = 0
  · rw [if_pos z]; exact h.1
  · rw [if_neg z]; exact h.2
theorem rd_Vw {σ : ka_S} {s : ma_A} (ok : mv_ok s) (h : rd_V σ s) : rd_Wf (fun c => σ.2 (36, 0, 0) (18 * (mv_R s - 1) + c)) (mv_w s) := h.2.1 _ (by have := ok.1; omega)
theorem rd_Wf_any {f g : Nat → Int64} {w : ma_W} (h4 : mw_S w ≤ 4) (h : rd_Wf f w) (e : ∀ j, j < 18 → g j = f j) : rd_Wf g w := by
  refine ⟨⟨?_, ?_, ?_⟩, fun j hj => ?_, fun q hq => ⟨fun h0 => ?_, ?_, ?_⟩⟩
  · rw [e 0 (by decide)]; exact h.1.1
  · rw [e 1 (by decide)]; exact h.1.2.1
  · rw [e 2 (by decide)]; exact h.1.2.2
  · rw [e _ (by omega)]; exact h.2.1 j hj
  · rw [e _ (by omega)]; exact (h.2.2 q hq).1 h0
  · rw [e _ (by omega)]; exact (h.2.2 q hq).2.1
  · rw [e _ (by omega)]; exact (h.2.2 q hq).2.2
theorem rd_V_S {s : ma_A} (ok : mv_ok s) : ∀ j, j < mv_R s → mw_S (mv_D s j) ≤ 4 := by
  intro j hj
  by_cases e : j + 1 < mv_R s
  · exact (ok.2.2.1 j e).1.2
  · have := ok.2.2.2.1.2
    rw [show j = mv_R s - 1 by omega]
    exact this
theorem rd_V_set {σ σ' : ka_S} {s : ma_A} {w : ma_W} {g p : Nat} (ok : mv_ok s) (hV : rd_V σ s) (a : ag (xc (36, 0, 0) (18 * (mv_R s - 1)) 18) σ σ') (hw : rd_Wf (fun c => σ'.2 (36, 0, 0) (18 * (mv_R s - 1) + c)) w) (hz : ∀ c, 6 + 3 * mw_S w ≤ c → c < 18 → σ'.2 (36, 0, 0) (18 * (mv_R s - 1) + c) = 0) : rd_V σ' (mv_set s w g p) := by
  have hR := ok.1
  refine ⟨(a _ _ (fun q => absurd q.1 (by decide))).1.trans hV.1, fun j hj => ?_, ?_⟩
  · have hj' : j < mv_R s := hj
    show rd_Wf _ (if j = mv_R s - 1 then w else mv_D s j)
    by_cases e : j = mv_R s - 1
    · rw [if_pos e, e]; exact hw
    · rw [if_neg e]
      exact rd_Wf_any (rd_V_S ok j hj') (hV.2.1 j hj') (fun c hc => (a _ _ (fun q => by have := q.2; omega)).2)
  · rw [mv_set_w]
    exact hz
theorem sp_X9_begin_2 {σ0 : ka_S} {R : Nat} {Q : ka_S → Prop} (h3 : σ0.1 (25, 0, 0) 3 = nI R) (hR : R < 12)
    (h : ∀ σ', ag xrm σ0 σ' → σ'.1 (25, 0, 0) 3 = nI (R + 1) → (∀ j, j < 18 * R → σ'.2 (36, 0, 0) j = σ0.2 (36, 0, 0) j) → σ'.2 (36, 0, 0) (18 * R) = 1 → (∀ c, 1 ≤ c → c < 18 → σ'.2 (36, 0, 0) (18 * R + c) = 0) → Q σ') :
    ∀ (n k : Nat) (σ : ka_S), k ≤ 18 → 18 < k + n → ag (xc (36, 0, 0) (18 * R) 18) σ0 σ → (∀ c, c < k → σ.2 (36, 0, 0) (18 * R + c) = 0) → kw_X9_begin_2 Q n σ (nI k) := by
  intro n
  induction n with
  | zero => intro k σ h1 h2; omega
  | succ n ih =>
    intro k σ h1 h2 ha hr
    have e3 : σ.1 (25, 0, 0) 3 = nI R := (ha _ _ (fun q => absurd q.1 (by decide))).1.trans h3
    have e18 : (18 : Int32) * nI R = nI (18 * R) := by rw [kI_lit, pk_mul]
    rw [kw_X9_begin_2, e3, e18, nI_clamp (by omega), nI_add, nI_clamp (by omega), show (18 : Int32) = nI 18 from rfl, nI_leI (by decide) (by omega)]
    refine ⟨fun q => ⟨(kI_in (by omega)).mpr (by omega), ?_⟩, fun q => ⟨(kI_in (by omega)).mpr (by omega), ?_⟩⟩
    · have e4 : (ka_wL σ (36, 0, 0) (18 * R) 1).1 (25, 0, 0) 3 = nI R := e3
      rw [forall_eq, e4, show (nI R + 1 : Int32) = nI (R + 1) from nI_1 R, forall_eq]
      refine h _ (ag_I (ag_L (ag_mono ha (fun k n q => Or.inl q.1)) (Or.inl rfl)) (Or.inr ⟨rfl, rfl⟩)) ?_ (fun j hj => ?_) ?_ (fun c h1 h2 => ?_)
      · simp only [st_I, st_L, st_I2, st_L1, Prod.mk.injEq, Nat.reduceEqDiff, false_and, and_false, true_and, and_true, and_self, if_false, if_true, reduceIte]
      · rw [st_I2, st_L, if_neg (fun z => by have := z.2; omega)]
        exact (ha _ _ (fun q => by have := q.2; omega)).2
      · rw [st_I2, st_L, if_pos ⟨rfl, rfl⟩]
      · rw [st_I2, st_L, if_neg (fun z => by have := z.2; omega)]
        exact hr c (by omega)
    · rw [forall_eq, forall_eq, show (nI k + 1 : Int32) = nI (k + 1) from nI_1 k]
      refine ih (k + 1) _ (by omega) (by omega) (ag_L ha ⟨rfl, by omega, by omega⟩) (fun c hc => ?_)
      rw [st_L]
      by_cases e : c = k
      · rw [if_pos ⟨rfl, by rw [e]⟩]
      · rw [if_neg (fun z => e (by have := z.2; omega))]
        exact hr c (by omega)
theorem rd_new {f : Nat → Int64} (h0 : f 0 = 1) (h : ∀ c, 1 ≤ c → c < 18 → f c = 0) : rd_Wf f (mw_part mw_zero 0) := by
  refine ⟨⟨h0, ?_, ?_⟩, fun j hj => ?_, fun q hq => ⟨fun h1 => ?_, ?_, ?_⟩⟩
  · exact h 1 (by decide) (by decide)
  · exact h 2 (by decide) (by decide)
  · rw [h _ (by omega) (by omega)]
    show _ = lN (mk_pack (fun _ => 0) 0 j)
    rw [mk_pack_0]; rfl
  · have : q < 1 := hq
    omega
  · have hq' : q < 1 := hq
    obtain rfl : q = 0 := by omega
    exact h 7 (by decide) (by decide)
  · have hq' : q < 1 := hq
    obtain rfl : q = 0 := by omega
    exact h 8 (by decide) (by decide)
theorem sp_X9_beginV {σ : ka_S} {s : ma_A} {Q : ka_S → Prop} (ok : mv_ok s) (hV : rd_V σ s) (hR : mv_R s < 12) (h : ∀ σ', ag xrm σ σ' → rd_V σ' (mv_next s) → Q σ') : kw_X9_begin σ Q := by
  refine ⟨19, sp_X9_begin_2 hV.1 hR (fun σ1 a1 r1 o1 n0 n1 => h σ1 a1 ⟨r1, fun j hj => ?_, fun c h1 h2 => ?_⟩) 19 0 σ (Nat.zero_le _) (by decide) ag_refl (fun c hc => absurd hc (Nat.not_lt_zero c))⟩
  · have hj' : j < mv_R s + 1 := hj
    show rd_Wf _ (if j = mv_R s then mw_part mw_zero 0 else mv_D s j)
    by_cases e : j = mv_R s
    · rw [if_pos e, e]
      exact rd_new n0 (fun c h1 h2 => n1 c h1 h2)
    · rw [if_neg e]
      exact rd_Wf_any (rd_V_S ok j (by omega)) (hV.2.1 j (by omega)) (fun c hc => o1 _ (by omega))
  · rw [mv_next_w] at h1
    exact n1 c (by have : 6 + 3 * 1 ≤ c := h1; omega) h2
theorem mv_n_set {s : ma_A} {w : ma_W} {g p : Nat} : mv_n (mv_set s w g p) = if g = 0 then (mw_P w p).length else (mw_G w p).length := by
  unfold mv_n
  rw [mv_set_w]
  rfl
theorem mv_n_next {s : ma_A} : mv_n (mv_next s) = 0 := by
  unfold mv_n
  rw [mv_next_w]
  rfl
/-! the five ways -/
abbrev mv_let (s : ma_A) (c : Nat) : Prop := ((mv_g s = 0 ∧ 97 ≤ c ∧ c ≤ 122) ∨ (mv_g s ≠ 0 ∧ ((97 ≤ c ∧ c ≤ 122) ∨ c = 46))) ∧ mv_n s < 8
theorem mv_take_none {s : ma_A} {c : Nat} (ok : mv_ok s) (n1 : ¬ mv_let s c) (n2 : ¬ (mv_g s = 0 ∧ mv_wh s ∧ (c = 45 ∨ c = 61) ∧ mv_p s < 3)) (n3 : ¬ (mv_g s = 0 ∧ mv_wh s ∧ c = 58)) (n4 : ¬ (mv_g s ≠ 0 ∧ ¬ mv_wh s ∧ c = mw_M (mv_w s) (mv_p s + 1))) (n5 : ¬ (mv_wh s ∧ c = 32 ∧ mv_R s < 12)) : mv_take s c = none := by
  obtain ⟨c1, c2, c3, c4, c5, c6, _⟩ := ok.2.2.2
  unfold mv_take
  by_cases e1 : c = 32
  · rw [if_pos e1, if_neg (fun q => n5 ⟨q.1, e1, q.2⟩)]
  · rw [if_neg e1]
    by_cases e2 : c = 58
    · rw [if_pos e2, if_neg (fun q => n3 ⟨q.1, q.2, e2⟩)]
    · rw [if_neg e2]
      by_cases e3 : c = 45 ∨ c = 61
      · rw [if_pos e3]
        by_cases z : mv_g s = 0
        · rw [if_pos z, if_neg (fun q => n2 ⟨z, q.1, e3, by have := c6 z; omega⟩)]
        · rw [if_neg z, if_neg (fun q => n4 ⟨z, fun w => w.elim (fun w => z w.1) (fun w => by have := q.1; omega), q.2.symm⟩)]
      · rw [if_neg e3]
        by_cases z : mv_g s = 0
        · have en : mv_n s = (mw_P (mv_w s) (mv_p s)).length := if_pos z
          rw [if_pos z, if_neg (fun q => n1 ⟨Or.inl ⟨z, q.1⟩, by rw [en]; exact q.2⟩)]
        · have en : mv_n s = (mw_G (mv_w s) (mv_p s)).length := if_neg z
          rw [if_neg z, if_neg (fun q => n1 ⟨Or.inr ⟨z, q.1⟩, by rw [en]; exact q.2⟩)]
theorem mv_take_l0 {s : ma_A} {c : Nat} (z : mv_g s = 0) (hc : 97 ≤ c ∧ c ≤ 122) (h8 : (mw_P (mv_w s) (mv_p s)).length < 8) : mv_take s c = some (mv_set s (mw_addP (mv_w s) (mv_p s) c) 0 (mv_p s)) := by
  unfold mv_take
  rw [if_neg (by omega), if_neg (by omega), if_neg (by omega), if_pos z, if_pos ⟨hc, h8⟩]
theorem mv_take_l1 {s : ma_A} {c : Nat} (z : ¬ mv_g s = 0) (hc : (97 ≤ c ∧ c ≤ 122) ∨ c = 46) (h8 : (mw_G (mv_w s) (mv_p s)).length < 8) : mv_take s c = some (mv_set s (mw_setG (mv_w s) (mv_p s) (mw_G (mv_w s) (mv_p s) ++ [c])) 1 (mv_p s)) := by
  unfold mv_take
  rw [if_neg (by omega), if_neg (by omega), if_neg (by omega), if_neg z, if_pos ⟨hc, h8⟩]
theorem mv_take_m0 {s : ma_A} {c : Nat} (z : mv_g s = 0) (w : mv_wh s) (hc : c = 45 ∨ c = 61) (h4 : mw_S (mv_w s) < 4) : mv_take s c = some (mv_set s (mw_part (mv_w s) c) 0 (mv_p s + 1)) := by
  unfold mv_take
  rw [if_neg (by omega), if_neg (by omega), if_pos hc, if_pos z, if_pos ⟨w, h4⟩]
theorem mv_take_m1 {s : ma_A} {c : Nat} (z : ¬ mv_g s = 0) (hc : c = 45 ∨ c = 61) (h1 : mv_p s + 1 < mw_S (mv_w s)) (h2 : mw_M (mv_w s) (mv_p s + 1) = c) : mv_take s c = some (mv_set s (mv_w s) 1 (mv_p s + 1)) := by
  unfold mv_take
  rw [if_neg (by omega), if_neg (by omega), if_pos hc, if_neg z, if_pos ⟨h1, h2⟩]
theorem mv_take_c {s : ma_A} {c : Nat} (z : mv_g s = 0) (w : mv_wh s) (hc : c = 58) : mv_take s c = some (mv_set s (mv_w s) 1 0) := by
  unfold mv_take
  rw [if_neg (by omega), if_pos hc, if_pos ⟨z, w⟩]
theorem mv_take_b {s : ma_A} {c : Nat} (w : mv_wh s) (hc : c = 32) (hR : mv_R s < 12) : mv_take s c = some (mv_next s) := by
  unfold mv_take
  rw [if_pos hc, if_pos ⟨w, hR⟩]
