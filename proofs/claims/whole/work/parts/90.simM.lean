/-! ===== the reference's loops ===== -/
theorem sp_X9_tryOut {σ : ka_S} {M : ma_P} {Q : ka_S → Prop} (ok : mp_ok M) (hp : rd_P σ (37, 0, 0) M) (h : ∀ σ', ag xtm σ σ' → rd_P σ' (38, 0, 0) M → Q σ') : kw_X9_tryOut σ Q := by
  unfold kw_X9_tryOut
  refine sp_X9_copy (s := 0) (d := 0) (m := 253) (by decide) (by decide) (by decide) (Or.inl (by decide)) (fun σ1 a1 r1 => h σ1 (ag_mono a1 (fun k j q => Or.inl q.1)) (rd_F_congr ok hp (fun j hj => ?_)))
  have := r1 j hj
  rw [Nat.zero_add] at this
  exact this
theorem sp_X9_runScript_49 {σ0 : ka_S} {s n : Nat} {Q : Int32 → ka_S → Prop} (hs : s < 2 ^ 63) (hn : n ≤ 4) :
    ∀ (f k m : Nat) (M : ma_P) (σ : ka_S), k + m = n → m < f → ag xtm σ0 σ → mp_ok M → rd_P σ (38, 0, 0) M → (∀ σ', ag xtm σ0 σ' → Q (mi_script s n m k M) σ') → kw_X9_runScript_49 Q f σ (nI n) (lN s) (nI k) := by
  intro f
  induction f with
  | zero => intro k m M σ h1 h2; omega
  | succ f ih =>
    intro k m M σ h1 h2 ha ok hp h
    rw [kw_X9_runScript_49, nI_leI (by omega) (by omega)]
    refine ⟨fun q => ?_, fun q => ?_⟩
    · obtain rfl : m = 0 := by omega
      exact h σ ha
    · obtain ⟨m, rfl⟩ : ∃ m', m = m' + 1 := ⟨m - 1, by omega⟩
      have hd : s / 10000 ^ (n - 1 - k) ≤ s := Nat.div_le_self _ _
      have hm : s / 10000 ^ (n - 1 - k) % 10000 < 10000 := Nat.mod_lt _ (by decide)
      have hp1 : 0 < 10000 ^ (n - 1 - k) := Nat.pow_pos (by decide)
      have hp2 : 10000 ^ (n - 1 - k) ≤ 10000 ^ 3 := Nat.pow_le_pow_right (by decide) (by omega)
      have hp3 : (10000 : Nat) ^ 3 < 2 ^ 63 := by decide
      rw [show (nI n - (1 : Int32)) - nI k = nI (n - 1 - k) by rw [kI_lit, pk_sub (by omega), pk_sub (by omega)]]
      refine sp_X9_tenTo (by omega) ⟨fun z => ?_, ?_⟩
      · rw [show (0 : Int64) = lN 0 from rfl, pk_lEQ (by omega) (by decide)] at z
        omega
      rw [pk_lDiv hs hp1 (by omega), show lN (s / 10000 ^ (n - 1 - k)) - lN (s / 10000 ^ (n - 1 - k)) / (10000 : Int64) * (10000 : Int64) = lN (s / 10000 ^ (n - 1 - k) % 10000) from pk_lRem (b := 10000) (by omega) (by decide) (by decide), lN_i]
      have z := mp_cmd_ok (c := s / 10000 ^ (n - 1 - k) % 10000) ok
      unfold mi_script at h
      refine sp_X9_command ok hp hm ?_
      cases e : mp_cmd M (s / 10000 ^ (n - 1 - k) % 10000) with
      | some M' =>
        rw [e] at z h
        intro σ1 a1 r1
        refine ⟨fun q => absurd q (by decide), fun _ => ?_⟩
        rw [forall_eq, show (nI k + 1 : Int32) = nI (k + 1) from nI_1 k]
        exact ih (k + 1) m M' σ1 (by omega) (by omega) (ag_trans ha a1) z r1 h
      | none =>
        rw [e] at h
        intro σ1 a1
        exact ⟨fun _ => h σ1 (ag_trans ha a1), fun q => absurd rfl q⟩
/-- one round of the reference -/
theorem sp_X9_simulate_210 {σ0 σ : ka_S} {N : Nat} {x : Int64} {sum k : Nat} {M : ma_P} {K : ka_S → Int32 → Int64 → Int32 → Int32 → Prop} {Q : Int32 → ka_S → Prop} (ok : mp_ok M) (ha : ag xtm σ0 σ) (hp : rd_P σ (38, 0, 0) M)
    (h : ∀ σ', ag xtm σ0 σ' → rd_P σ' (38, 0, 0) M → K σ' (nI N) x (nI (sum + mt_rows M)) (nI (k + 1))) : kw_X9_simulate_210 K Q σ (nI N) x (nI sum) (nI k) := by
  unfold kw_X9_simulate_210
  refine sp_X9_rowsOf rfl (by decide) ok hp (fun σ1 a1 r1 => ?_)
  rw [forall_eq, forall_eq, nI_add, show (nI k + 1 : Int32) = nI (k + 1) from nI_1 k]
  exact h σ1 (ag_trans ha (ag_mono a1 xy_tm)) (rd_P_xy (by decide) ok hp a1)
theorem sp_X9_simulate_39 {σ0 : ka_S} {N : Nat} {Q : Int32 → ka_S → Prop} (hN : N ≤ 99) :
    ∀ (f k m : Nat) (x : Int64) (sum : Nat) (M : ma_P) (σ : ka_S), k + m = N → m < f → ag xtm σ0 σ → mp_ok M → rd_P σ (38, 0, 0) M → (∀ σ', ag xtm σ0 σ' → Q (mi_sim m x M sum) σ') → kw_X9_simulate_39 Q f σ (nI N) x (nI sum) (nI k) := by
  intro f
  induction f with
  | zero => intro k m x sum M σ h1 h2; omega
  | succ f ih =>
    intro k m x sum M σ h1 h2 ha ok hp h
    rw [kw_X9_simulate_39, nI_leI (by omega) (by omega)]
    refine ⟨fun q => ?_, fun q => ?_⟩
    · obtain rfl : m = 0 := by omega
      exact h σ ha
    · obtain ⟨m, rfl⟩ : ∃ m', m = m' + 1 := ⟨m - 1, by omega⟩
      unfold mi_sim at h
      have ex : x * (6364136223846793005 : Int64) + (1442695040888963407 : Int64) = mn_x x := rfl
      rw [forall_eq, ex]
      generalize mn_x x = x' at h ⊢
      have hr := mn_r_lt x'
      have ok' := mp_round_ok (r := mn_r x') ok
      rw [mn_r_eq, forall_eq]
      generalize mn_r x' = r at h hr ok' ⊢
      have hM := ok.1
      obtain ⟨x1, x2, x3, hv⟩ := mn_rem4 hr
      have y0 : nI (r % 4) = (0 : Int32) ↔ r % 4 = 0 := x3 0 (by decide)
      have y1 : nI (r % 4) = (1 : Int32) ↔ r % 4 = 1 := x3 1 (by decide)
      have y2 : nI (r % 4) = (2 : Int32) ↔ r % 4 = 2 := x3 2 (by decide)
      have v2 : vp_in (2 : Int32) 253 := (kI_in (k := 2) (by decide)).mpr (by decide)
      have v3 : vp_in (3 : Int32) 253 := (kI_in (k := 3) (by decide)).mpr (by decide)
      have v4 : vp_in (4 : Int32) 253 := (kI_in (k := 4) (by decide)).mpr (by decide)
      have h51 : r / 4 % 51 < 51 := Nat.mod_lt _ (by decide)
      have h2' : r / 4 % 2 < 2 := Nat.mod_lt _ (by decide)
      have h3' : r / 4 % 3 < 3 := Nat.mod_lt _ (by decide)
      have go : ∀ σ1 M1, M1 = mp_round M r → ag xtm σ0 σ1 → rd_P σ1 (38, 0, 0) M1 → kw_X9_simulate_210 (kw_X9_simulate_39 Q f) Q σ1 (nI N) x' (nI sum) (nI k) := by
        intro σ1 M1 e a1 r1
        subst e
        exact sp_X9_simulate_210 ok' a1 r1 (fun σ2 a2 r2 => ih (k + 1) m x' _ _ σ2 (by omega) (by omega) a2 ok' r2 h)
      rw [x2, x1, forall_eq, forall_eq, y0, y1, y2]
      unfold mp_round at go
      refine ⟨fun e0 => ⟨v2, ?_⟩, fun e0 => ⟨fun e1 => ⟨v4, ?_⟩, fun e1 => ⟨fun e2 => ⟨v3, ?_⟩, fun e2 => sp_X9_many rfl hp ⟨fun e3 => ?_, fun e3 => sp_X9_many rfl hp ?_⟩⟩⟩⟩
      · rw [if_pos e0] at go
        rw [show nI (r / 4) - nI (r / 4) / (51 : Int32) * (51 : Int32) = nI (r / 4 % 51) from kI_rem (b := 51) hv (by decide) (by decide), show (10 : Int32) = nI 10 from rfl, nI_add, nI_l (by omega), show (2 : Int32).toNatClampNeg = 2 from rfl, forall_eq]
        exact go _ _ rfl (ag_L ha (Or.inl rfl)) (rd_P_setW ok hp)
      · rw [if_neg e0, if_pos e1] at go
        rw [show nI (r / 4) - nI (r / 4) / (2 : Int32) * (2 : Int32) = nI (r / 4 % 2) from kI_rem (b := 2) hv (by decide) (by decide), nI_l (by omega), show (4 : Int32).toNatClampNeg = 4 from rfl, forall_eq]
        exact go _ _ rfl (ag_L ha (Or.inl rfl)) (rd_P_setY ok hp)
      · rw [if_neg e0, if_neg e1, if_pos e2] at go
        rw [show nI (r / 4) - nI (r / 4) / (3 : Int32) * (3 : Int32) = nI (r / 4 % 3) from kI_rem (b := 3) hv (by decide) (by decide), show (1 : Int32) = nI 1 from rfl, nI_add, nI_l (by omega), show (3 : Int32).toNatClampNeg = 3 from rfl, forall_eq]
        exact go _ _ rfl (ag_L ha (Or.inl rfl)) (rd_P_setS ok hp)
      · rw [if_neg e0, if_neg e1, if_neg e2] at go
        rw [show (0 : Int32) = nI 0 from rfl, nI_leI (by omega) (by decide)] at e3
        rw [if_neg (by omega)] at go
        exact go _ _ rfl ha hp
      · rw [if_neg e0, if_neg e1, if_neg e2] at go
        rw [show (0 : Int32) = nI 0 from rfl, nI_leI (by omega) (by decide)] at e3
        have hN0 : 0 < mp_N M := by omega
        have hlt : r / 4 % mp_N M < mp_N M := Nat.mod_lt _ hN0
        have hE := (ok.2.2.2.2.2.1 _ hlt).2.1
        rw [if_pos hN0] at go
        rw [kI_rem hv hN0 (by omega), forall_eq]
        refine ⟨nI_ne0 hN0 (by omega), sp_X9_cell (j := 1) ⟨(kI_in (by omega)).mpr (by omega), ?_⟩⟩
        rw [nI_clamp (by omega), rd_e hp hlt, show (1 : Int64) = lN 1 from rfl, pk_lEQ (by omega) (by decide)]
        unfold mw_turn at go
        refine ⟨fun z => ?_, fun z => sp_X9_cell (j := 1) ⟨(kI_in (by omega)).mpr (by omega), ?_⟩⟩
        · rw [if_neg (by omega)] at go
          exact sp_X9_joinOn rfl ok hp hlt (fun σ1 a1 r1 => go σ1 _ rfl (ag_trans ha (ag_mono a1 xr_tm)) r1)
        · rw [if_pos (by omega)] at go
          rw [nI_clamp (by omega), forall_eq]
          exact go _ _ rfl (ag_L ha (Or.inl rfl)) (rd_P_end ok hp hlt)
theorem sp_X9_widthFor_29 {σ0 : ka_S} {r : Nat} {M : ma_P} {Q : Int32 → ka_S → Prop} (ok : mp_ok M) (hp : rd_P σ0 (37, 0, 0) M) (hr : r < 2 ^ 31) :
    ∀ (f w m : Nat) (σ : ka_S), w + m = 61 → m < f → 10 ≤ w → ag xy σ0 σ → (∀ σ', ag xy σ0 σ' → Q (mt_wf M r m w) σ') → kw_X9_widthFor_29 Q f σ (nI r) (nI w) := by
  intro f
  induction f with
  | zero => intro w m σ h1 h2; omega
  | succ f ih =>
    intro w m σ h1 h2 h3 ha h
    have hp' := rd_P_xy (by decide) ok hp ha
    rw [kw_X9_widthFor_29, show (60 : Int32) = nI 60 from rfl, nI_ltI (by decide) (by omega)]
    refine ⟨fun q => ?_, fun q => ⟨(kI_in (k := 4) (by decide)).mpr (by decide), ?_⟩⟩
    · obtain rfl : m = 0 := by omega
      exact h σ ha
    · obtain ⟨m, rfl⟩ : ∃ m', m = m' + 1 := ⟨m - 1, by omega⟩
      rw [show (4 : Int32).toNatClampNeg = 4 from rfl, hp'.1.2.2.2.2, lN_i]
      refine sp_X9_layOut rfl (by decide) ok hp' (by omega) ok.2.2.2.2.1 (fun σ1 a1 r1 => ?_)
      have b := mt_lay_le (W := w) (y := mp_Y M) ok (by omega) (mp_N M) (Nat.le_refl _)
      have hN := ok.1
      rw [r1.2.2.1, nI_ltI (by omega) (by omega)]
      unfold mt_wf at h
      refine ⟨fun q2 => ?_, fun q2 => ?_⟩
      · rw [if_pos q2] at h
        rw [forall_eq, show (nI w + 1 : Int32) = nI (w + 1) from nI_1 w]
        exact ih (w + 1) m σ1 (by omega) (by omega) (by omega) (ag_trans ha a1) h
      · rw [if_neg q2] at h
        exact h σ1 (ag_trans ha a1)
