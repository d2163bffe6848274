/-! ===== settings, entries forgotten ===== -/
/-! ===== insert ===== -/
def kx_ins (A : ma_X) (j : Nat) : ma_X := kx_act A (mp_insert (kx_M A) j (kx_R A) (kx_W A))
theorem sc_insert {σ : ka_S} {A : ma_X} {v : Int32} {Q : Int32 → ka_S → Prop} {X : Nat → ka_S → Prop} (ok : ko A) (hc : kc σ A) (h : ∀ j σ1, j < mp_N (kx_M A) + 1 → v = nI j → kx_e A = -9 → mp_N (kx_M A) + kx_R A ≤ 12 → ag xC σ σ1 → kc σ1 (kx_ins A j) → Q (nI (mp_N (kx_M A) + kx_R A)) σ1)
    (h0 : (∀ j, j < mp_N (kx_M A) + 1 → v ≠ nI j) → X 2 σ) (h1 : ∀ j σ1, j < mp_N (kx_M A) + 1 → v = nI j → ¬ (kx_e A = -9 ∧ mp_N (kx_M A) + kx_R A ≤ 12) → ag xC σ σ1 → kc σ1 A → X 1 σ1) : kw_X8_insert σ v Q X := by
  have hN := ok.2.2.1.1
  have hR := kx_R_le ok
  unfold kw_X8_insert
  rw [hc.2.1.1.1]
  refine ⟨fun q => h0 (fun j hj e => absurd q (by rw [e]; exact nI_pos (by omega))), fun q => ⟨fun q2 => sp_X5_read hc.1 ok.1 ok.2.1 (fun σ1 a1 r1 => ?_), fun q2 => h0 (fun j hj e => q2 (by rw [e, nI_leI (by omega) (by omega)]; omega))⟩⟩
  obtain ⟨j, hj, e⟩ := nI_of q
  rw [e, nI_leI hj (by omega)] at q2
  have hj' : j < mp_N (kx_M A) + 1 := by omega
  have c1 := kc_S hc (ag_mono a1 xrd_S)
  have b1 := ag_mono (ag_mono a1 xrd_S) xS_C
  have eR : σ1.1 (18, 0, 0) 1 = nI (kx_R A) := r1.1.1
  refine ⟨fun e9 => ?_, fun e9 => h1 j σ1 hj' e (fun z => e9 z.1) b1 c1⟩
  have hW := kx_W_ok ok e9
  rw [c1.2.1.1.1, eR, nI_add, show (12 : Int32) = nI 12 from rfl, nI_leI (by omega) (by decide)]
  refine ⟨fun h12 => ?_, fun h12 => h1 j σ1 hj' e (fun z => h12 z.2) b1 c1⟩
  obtain ⟨od, o1, o2⟩ := c1.2.2.1
  refine sp_X0_remember (by decide) c1.2.1 ok.2.2.1 o2 ok.2.2.2.1 o1 (fun σ2 od2 ho2 a2 r2 => ?_)
  have c2 : kc σ2 (kx_note A) := kc_hist c1 a2 ho2 r2
  have nh : ∀ κ o i m, κ ≠ 20 → 18 ≤ o ∨ 10 ≤ κ → ¬ xh (κ, o, i) m := fun κ o i m hk hk2 q => by
    rcases q with q | q
    · exact hk q
    · have q1 : o < 18 := q.2.1
      have q2 : κ ≤ 9 := q.2.2
      omega
  rw [e]
  refine sp_X4_addWords (R := kx_R A) (Wd := kx_W A) (by decide) ok.2.2.1 c2.2.1 ((a2 _ _ (nh 18 0 0 1 (by decide) (Or.inr (by decide)))).1.trans eR) (by show j ≤ mp_N (kx_M A); omega) h12 hR.1 (fun i hi => ⟨hW i hi, rc_W_ag (r1.2 i hi) a2 (fun κ n h5 h9 => nh κ 18 i n (by omega) (Or.inl (by decide)))⟩) (fun σ3 a3 r3 => ?_)
  rw [r3.1.1]
  exact h j σ3 hj' e e9 h12 (ag_trans b1 (ag_trans (ag_mono a2 xh_C) (ag_mono a3 xp_C))) (kc_page c2 a3 r3)
