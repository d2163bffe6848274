/-! ===== widths, scripts, simulations ===== -/
theorem mc_9 {x : Int32} (h : mc_set 9 x) : ∃ w, (10 ≤ w ∧ w ≤ 60) ∧ x = nI w := by
  rcases h with h | h | h
  · obtain ⟨w, hw, e⟩ := kI_ex (v := x) (n := 61) (by omega) (by omega)
    refine ⟨w, ?_, e⟩
    rw [e, nI_toInt (by omega)] at h
    omega
  · exact absurd h.1 (by decide)
  · exact absurd h.1 (by decide)
theorem mc_10 {x : Int32} (h : mc_set 10 x) : ∃ w, (1 ≤ w ∧ w ≤ 3) ∧ x = nI w := by
  rcases h with h | h | h
  · exact absurd h.1 (by decide)
  · obtain ⟨w, hw, e⟩ := kI_ex (v := x) (n := 4) (by omega) (by omega)
    refine ⟨w, ?_, e⟩
    rw [e, nI_toInt (by omega)] at h
    omega
  · exact absurd h.1 (by decide)
theorem mc_11 {x : Int32} (h : mc_set 11 x) : ∃ w, w ≤ 1 ∧ x = nI w := by
  rcases h with h | h | h
  · exact absurd h.1 (by decide)
  · exact absurd h.1 (by decide)
  · obtain ⟨w, hw, e⟩ := kI_ex (v := x) (n := 2) (by omega) (by omega)
    exact ⟨w, by omega, e⟩
/-- scripts that are run -/
def mc_scr (v : Int32) (x : Int64) (n s : Nat) : Prop := (1 ≤ n ∧ n ≤ 4) ∧ s < 10000 ^ n ∧ v = nI n ∧ x = lN s
theorem mc_scr_lt {n s : Nat} (hn : n ≤ 4) (hs : s < 10000 ^ n) : s < 2 ^ 63 := by
  have h1 : (10000 : Nat) ^ n ≤ 10000 ^ 4 := Nat.pow_le_pow_right (by decide) hn
  have h2 : (10000 : Nat) ^ 4 < 2 ^ 63 := by decide
  omega
theorem sc_script {σ : ka_S} {A : ma_X} {v : Int32} {x : Int64} {Q : Int32 → ka_S → Prop} {X : Nat → ka_S → Prop} (ok : ko A) (hc : kc σ A) (h : ∀ n s σ1, mc_scr v x n s → ag xS σ σ1 → Q (mi_script s n n 0 (kx_M A)) σ1) (h0 : (∀ n s, ¬ mc_scr v x n s) → X 0 σ) : kw_X8_runScript σ v x Q X := by
  unfold kw_X8_runScript
  refine ⟨fun q => h0 (fun n s z => ?_), fun q => ⟨fun q2 => ⟨fun q3 => h0 (fun n s z => ?_), fun q3 => ?_⟩, fun q2 => h0 (fun n s z => ?_)⟩⟩
  · rw [z.2.2.1, show (1 : Int32) = nI 1 from rfl, nI_ltI (by have := z.1; omega) (by decide)] at q
    have := z.1; omega
  · rw [z.2.2.2, show (0 : Int64) = lN 0 from rfl, pk_lLT (mc_scr_lt z.1.2 z.2.1) (by decide)] at q3
    omega
  · have hv : ¬ v < 0 := fun z => by
      have g1 := Int32.lt_iff_toInt_lt.mp z
      have g0 : (0 : Int32).toInt = 0 := by decide
      rw [g0] at g1
      refine q (Int32.lt_iff_toInt_lt.mpr ?_)
      rw [show (1 : Int32).toInt = 1 from by decide]
      omega
    obtain ⟨n, hn, e⟩ := nI_of hv
    obtain ⟨s, hs, e2⟩ := pk_lOf q3
    subst e e2
    rw [show (1 : Int32) = nI 1 from rfl, nI_ltI hn (by decide)] at q
    rw [show (4 : Int32) = nI 4 from rfl, nI_leI hn (by decide)] at q2
    have hd : s / 10000 ^ n ≤ s := Nat.div_le_self _ _
    have key : s / 10000 ^ n = 0 ↔ s < 10000 ^ n := by
      rw [Nat.div_eq_zero_iff]
      have : 0 < 10000 ^ n := Nat.pow_pos (by decide)
      omega
    refine sp_X8_withoutLowest hs q2 ?_
    rw [show (0 : Int64) = lN 0 from rfl, pk_lEQ (by omega) (by decide), key]
    refine ⟨fun q4 => sp_X4_copyFrom (by decide) hc.2.1 ok.2.2.1 (fun σ1 a1 r1 => ⟨5, ?_⟩), fun q4 => h0 (fun n' s' z => ?_)⟩
    · exact sp_X8_runScript_62 (σ0 := σ) hs q2 5 0 n (kx_M A) σ1 (Nat.zero_add _) (by omega) (ag_mono a1 xp_tr) ok.2.2.1 r1 (fun σ2 a2 => h n s σ2 ⟨⟨by omega, q2⟩, q4, rfl, rfl⟩ (ag_mono a2 xtr_S))
    · have z1 := z.2.2.1
      have z2 := z.2.2.2
      rw [nI_eq hn (by have := z.1; omega)] at z1
      rw [pk_lEQ hs (mc_scr_lt z.1.2 z.2.1)] at z2
      subst z1 z2
      exact q4 z.2.1
  · rw [z.2.2.1, show (4 : Int32) = nI 4 from rfl, nI_leI (by have := z.1; omega) (by decide)] at q2
    have := z.1; omega
