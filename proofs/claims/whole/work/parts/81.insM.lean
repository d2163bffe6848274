/-! ===== the reference adds words ===== -/
/-- what was read, as words of the reference -/
def rd_R (σ : ka_S) (R : Nat) (Wd : Nat → ma_W) : Prop := σ.1 (25, 0, 0) 3 = nI R ∧ ∀ j, j < R → mw_ok (Wd j) ∧ rd_Wf (fun c => σ.2 (36, 0, 0) (18 * j + c)) (Wd j)
theorem sp_X9_insertOn_7 {σ0 : ka_S} {a : ka_K} {i R : Nat} {M : ma_P} {Wd : Nat → ma_W} {Q : ka_S → Prop} (hn : ka_n a = 253) (h37 : 37 ≤ a.1) (ok : mp_ok M) (hp : rd_P σ0 a M) (hR : rd_R σ0 R Wd) (hi : i ≤ mp_N M) (hR12 : mp_N M + R ≤ 12) (hR1 : 1 ≤ R)
    (h : ∀ σ, ag (xr a) σ0 σ → rd_P σ a (mp_insert M i R Wd) → Q σ) :
    ∀ (n k : Nat) (σ : ka_S), i ≤ k → k ≤ mp_N M → k < i + n → ag (xc a 5 216) σ0 σ → (∀ j, (j < k → rd_Wf (fun c => σ.2 a (5 + 18 * j + c)) (mp_D M j)) ∧ (k ≤ j → j < mp_N M → rd_Wf (fun c => σ.2 a (5 + 18 * (j + R) + c)) (mp_D M j))) → kw_X9_insertOn_7 a Q n σ (nI i) (nI k + -1) := by
  intro n
  induction n with
  | zero => intro k σ h1 h2; omega
  | succ n ih =>
    intro k σ h1 h2 h3 ha hr
    have hN := ok.1
    have hL := ok.2.1
    have hne : ¬ (25, 0, 0) = a := fun q => by rw [← q] at h37; exact absurd h37 (by decide)
    have hne2 : (36, 0, 0) ≠ a := fun q => by rw [← q] at h37; exact absurd h37 (by decide)
    have eR : σ.1 (25, 0, 0) 3 = nI R := (ha (25, 0, 0) 3 (fun q => hne q.1)).1.trans hR.1
    rw [kw_X9_insertOn_7, eR]
    refine ⟨fun q => ?_, fun q => ?_⟩
    · have hk : k = i := by
        rcases Nat.lt_or_ge i k with z | z
        · obtain ⟨k', rfl⟩ : ∃ k', k = k' + 1 := ⟨k - 1, by omega⟩
          rw [kI_m1, nI_ltI (by omega) (by omega)] at q
          omega
        · omega
      subst hk
      have e1 : (5 : Int32) + (18 : Int32) * nI k = nI (5 + 18 * k) := by rw [kI_lit, kI_lit, pk_mul, nI_add]
      have e2 : (18 : Int32) * nI R = nI (18 * R) := by rw [kI_lit, pk_mul]
      rw [e1, e2, show (0 : Int32) = nI 0 from rfl, hn]
      refine sp_X9_copy (by show 0 + 18 * R ≤ 216; omega) (by rw [hn]; omega) (by omega) (Or.inl hne2) (fun σ1 a1 r1 => ?_)
      have c0 : σ1.2 a 0 = lN (mp_N M) := ((a1 a 0 (fun q => by have := q.2; omega)).2).trans (((ha a 0 (fun q => by have := q.2; omega)).2).trans hp.1.1)
      have cR : σ1.1 (25, 0, 0) 3 = nI R := ((a1 (25, 0, 0) 3 (fun q => hne q.1)).1).trans eR
      rw [show (nI 0).toNatClampNeg = 0 from rfl, c0, cR, nI_l (by omega), lN_add, forall_eq]
      refine ⟨(kI_in (k := 0) (by decide)).mpr (by decide), (kI_in (k := 0) (by decide)).mpr (by decide), ?_⟩
      have out : ∀ j, (j < 5 ∨ 221 ≤ j) → j ≠ 0 → (ka_wL σ1 a 0 (lN (mp_N M + R))).2 a j = σ0.2 a j := fun j hj h0 => by
        rw [st_L, if_neg (fun z => h0 z.2)]
        exact (a1 a j (fun q => by have := q.2; omega)).2.trans (ha a j (fun q => by have := q.2; omega)).2
      have mid : ∀ j, 5 ≤ j → (ka_wL σ1 a 0 (lN (mp_N M + R))).2 a j = σ1.2 a j := fun j hj => by
        rw [st_L, if_neg (fun z => by have := z.2; omega)]
      have old : ∀ j, ¬ (5 + 18 * k ≤ j ∧ j < 5 + 18 * k + 18 * R) → σ1.2 a j = σ.2 a j := fun j hj => (a1 a j (fun q => hj q.2)).2
      refine h _ (ag_L (ag_trans (ag_mono ha xc_r) (ag_mono a1 xc_r)) rfl) ⟨⟨?_, ?_, ?_, ?_, ?_⟩, fun j hj => ?_, fun e he => ?_⟩
      · rw [st_L, if_pos ⟨rfl, rfl⟩]; rfl
      · exact (out 1 (by omega) (by decide)).trans hp.1.2.1
      · exact (out 2 (by omega) (by decide)).trans hp.1.2.2.1
      · exact (out 3 (by omega) (by decide)).trans hp.1.2.2.2.1
      · exact (out 4 (by omega) (by decide)).trans hp.1.2.2.2.2
      · have hj' : j < mp_N M + R := hj
        show rd_Wf _ (mf_put (mp_D M) Wd k R j)
        unfold mf_put
        by_cases q1 : j < k
        · rw [if_pos q1]
          refine rd_Wf_congr (ok.2.2.2.2.2.1 j (by omega)) ((hr j).1 q1) (fun c hc => ?_)
          exact (mid _ (by omega)).trans (old _ (by omega))
        · rw [if_neg q1]
          by_cases q2 : j < k + R
          · rw [if_pos q2]
            have w := hR.2 (j - k) (by omega)
            refine rd_Wf_congr w.1 w.2 (fun c hc => ?_)
            have := r1 (18 * (j - k) + c) (by omega)
            rw [show 5 + 18 * k + (18 * (j - k) + c) = 5 + 18 * j + c by omega, show 0 + (18 * (j - k) + c) = 18 * (j - k) + c by omega] at this
            refine (mid _ (by omega)).trans (this.trans ?_)
            exact (ha (36, 0, 0) _ (fun q => hne2 q.1)).2
          · rw [if_neg q2]
            refine rd_Wf_congr (ok.2.2.2.2.2.1 (j - R) (by omega)) ((hr (j - R)).2 (by omega) (by omega)) (fun c hc => ?_)
            show (ka_wL σ1 a 0 (lN (mp_N M + R))).2 a (5 + 18 * j + c) = σ.2 a (5 + 18 * (j - R + R) + c)
            rw [show j - R + R = j by omega]
            exact (mid _ (by omega)).trans (old _ (by omega))
      · have he' : e < mp_L M := he
        exact ⟨(out _ (by omega) (by omega)).trans (hp.2.2 e he').1, (out _ (by omega) (by omega)).trans (hp.2.2 e he').2⟩
    · have hk : i < k := by
        rcases Nat.lt_or_ge i k with z | z
        · exact z
        · exfalso
          obtain rfl : k = i := by omega
          refine q ?_
          rcases Nat.eq_zero_or_pos k with e | e
          · subst e; decide
          · obtain ⟨k', rfl⟩ : ∃ k', k = k' + 1 := ⟨k - 1, by omega⟩
            rw [kI_m1, nI_ltI (by omega) (by omega)]
            omega
      obtain ⟨k, rfl⟩ : ∃ k', k = k' + 1 := ⟨k - 1, by omega⟩
      have e1 : (5 : Int32) + (18 : Int32) * nI k = nI (5 + 18 * k) := by rw [kI_lit, kI_lit, pk_mul, nI_add]
      have e2 : (5 : Int32) + (18 : Int32) * nI (k + R) = nI (5 + 18 * (k + R)) := by rw [kI_lit, kI_lit, pk_mul, nI_add]
      rw [kI_m1, nI_add, e1, e2, show (18 : Int32) = nI 18 from rfl]
      refine sp_X9_copy (by rw [hn]; omega) (by rw [hn]; omega) (by omega) (Or.inr (Or.inr (by omega))) (fun σ1 a1 r1 => ?_)
      rw [forall_eq]
      refine ih k σ1 (by omega) (by omega) (by omega) (ag_trans ha (ag_mono a1 (fun k' j q => ⟨q.1, by have := q.2; omega, by have := q.2; omega⟩))) (fun j => ⟨fun hj => ?_, fun hj1 hj2 => ?_⟩)
      · refine rd_Wf_congr (ok.2.2.2.2.2.1 j (by omega)) ((hr j).1 (by omega)) (fun c hc => (a1 a _ (fun q => by have := q.2; omega)).2)
      · by_cases q2 : j = k
        · subst q2
          refine rd_Wf_congr (ok.2.2.2.2.2.1 j (by omega)) ((hr j).1 (by omega)) (fun c hc => r1 c hc)
        · refine rd_Wf_congr (ok.2.2.2.2.2.1 j (by omega)) ((hr j).2 (by omega) hj2) (fun c hc => (a1 a _ (fun q => by have := q.2; omega)).2)
theorem sp_X9_insertOn {σ : ka_S} {a : ka_K} {i R : Nat} {M : ma_P} {Wd : Nat → ma_W} {Q : ka_S → Prop} (hn : ka_n a = 253) (h37 : 37 ≤ a.1) (ok : mp_ok M) (hp : rd_P σ a M) (hR : rd_R σ R Wd) (hi : i ≤ mp_N M) (hR12 : mp_N M + R ≤ 12) (hR1 : 1 ≤ R)
    (h : ∀ σ', ag (xr a) σ σ' → rd_P σ' a (mp_insert M i R Wd) → Q σ') : kw_X9_insertOn σ a (nI i) Q := by
  have hN := ok.1
  unfold kw_X9_insertOn
  refine sp_X9_many hn hp ?_
  rw [forall_eq, Int32.sub_eq_add_neg]
  exact ⟨13, sp_X9_insertOn_7 hn h37 ok hp hR hi hR12 hR1 h 13 (mp_N M) σ hi (Nat.le_refl _) (by omega) ag_refl (fun j => ⟨fun hj => hp.2.1 j hj, fun hj1 hj2 => by omega⟩)⟩
