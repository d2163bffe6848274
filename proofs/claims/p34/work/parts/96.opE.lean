/-! ===== rows ===== -/
theorem sc_isRow {σ : ka_S} {A : ma_X} {v : Int32} {Q : ka_S → Prop} {X : Nat → ka_S → Prop} (ok : ko A) (hc : kc σ A) (h1 : ∀ r σ1, r < mt_rows (kx_M A) → v = nI r → ag xS σ σ1 → rc_P σ1 0 (kx_M A) → rc_A σ1 (kx_M A) (mp_W (kx_M A)) (mp_Y (kx_M A)) → Q σ1) (h0 : (∀ r, r < mt_rows (kx_M A) → v ≠ nI r) → ∀ σ1, ag xS σ σ1 → X 2 σ1) : kw_X8_requireRow σ v Q X := by
  have hr := mt_rows_le ok.2.2.1
  unfold kw_X8_requireRow
  refine ⟨fun q => h0 (fun r hr e => ?_) σ ag_refl, fun q => sp_X8_arranged ok.2.2.1 hc.2.1 (fun σ1 a1 r1 => ?_)⟩
  · rw [e] at q
    exact absurd q (nI_pos (by omega))
  · obtain ⟨r, hr2, e⟩ := nI_of q
    have e4 : σ1.1 (12, 0, 0) 4 = nI (mt_rows (kx_M A)) := r1.1.1.2
    rw [e4, e, nI_ltI hr2 (by omega)]
    refine ⟨fun q2 => h1 r σ1 q2 e (ag_mono a1 xa_S) (rc_P_xa hc.2.1 a1) r1, fun q2 => h0 (fun r' hr' e' => ?_) σ1 (ag_mono a1 xa_S)⟩
    rw [e, nI_eq hr2 (by omega)] at e'
    omega
def mt_row (M : ma_P) (r : Nat) : Nat → Nat
  | 0 => mr_kind M (mp_W M) (mp_Y M) r
  | 1 => mr_len M (mp_W M) (mp_Y M) r
  | _ => ml_sent M (mp_W M) (mp_Y M) (mr_word M (mp_W M) (mp_Y M) r)
