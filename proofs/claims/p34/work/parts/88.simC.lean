/-! ===== the class's scripts, simulations, widths ===== -/
def mp_round (M : ma_P) (r : Nat) : ma_P := if r % 4 = 0 then mp_setW M (10 + r / 4 % 51) else if r % 4 = 1 then mp_setY M (r / 4 % 2) else if r % 4 = 2 then mp_setS M (1 + r / 4 % 3)
  else if 0 < mp_N M then mp_setD M (r / 4 % mp_N M) (mw_turn (mp_D M (r / 4 % mp_N M))) else M
theorem mp_round_ok {M : ma_P} {r : Nat} (ok : mp_ok M) : mp_ok (mp_round M r) := by
  have h1 : r / 4 % 51 < 51 := Nat.mod_lt _ (by decide)
  have h2 : r / 4 % 2 < 2 := Nat.mod_lt _ (by decide)
  have h3 : r / 4 % 3 < 3 := Nat.mod_lt _ (by decide)
  unfold mp_round
  by_cases e0 : r % 4 = 0
  · rw [if_pos e0]; exact mp_setW_ok ok (by omega)
  rw [if_neg e0]
  by_cases e1 : r % 4 = 1
  · rw [if_pos e1]; exact mp_setY_ok ok (by omega)
  rw [if_neg e1]
  by_cases e2 : r % 4 = 2
  · rw [if_pos e2]; exact mp_setS_ok ok (by omega)
  rw [if_neg e2]
  by_cases e3 : 0 < mp_N M
  · rw [if_pos e3]; exact mp_setD_ok ok (mw_turn_ok (ok.2.2.2.2.2.1 _ (Nat.mod_lt _ e3)))
  · rw [if_neg e3]; exact ok
def mn_x (x : Int64) : Int64 := x * (6364136223846793005 : Int64) + (1442695040888963407 : Int64)
def mn_r (x : Int64) : Nat := x.toBitVec.toNat / 2 ^ 33
theorem mn_r_lt (x : Int64) : mn_r x < 2 ^ 31 := by
  have := x.toBitVec.isLt
  unfold mn_r
  rw [Nat.div_lt_iff_lt_mul (by decide)]
  omega
theorem mn_r_eq (x : Int64) : ((x.toUInt64 >>> ((33 : Int32).toInt64.toUInt64 &&& Int64.toUInt64 63)).toInt64).toInt32 = nI (mn_r x) := by
  obtain ⟨n, hn, e⟩ := wb_of x
  have h := wb_shr (k := 33) hn (by decide)
  have e2 : mn_r x = n / 2 ^ 33 := by
    unfold mn_r
    rw [e, wb_tn hn]
  rw [e2, e, show (33 : Int32) = nI 33 from rfl, h, lN_i]
def mi_sim : Nat → Int64 → ma_P → Nat → Int32
  | 0, _, _, s => nI s
  | m + 1, x, M, s => mi_sim m (mn_x x) (mp_round M (mn_r (mn_x x))) (s + mt_rows (mp_round M (mn_r (mn_x x))))
def mi_script (s n : Nat) : Nat → Nat → ma_P → Int32
  | 0, _, _ => -9
  | m + 1, k, M => match mp_cmd M (s / 10000 ^ (n - 1 - k) % 10000) with
    | some M' => mi_script s n m (k + 1) M'
    | none => nI k
def mt_wf (M : ma_P) (r : Nat) : Nat → Nat → Int32
  | 0, _ => -9
  | n + 1, w => if r < tr (mt_lay M w (mp_Y M) (mp_N M)) then mt_wf M r n (w + 1) else nI w
theorem mn_rem4 {r : Nat} (hr : r < 2 ^ 31) : nI r / (4 : Int32) = nI (r / 4) ∧ nI r - nI r / (4 : Int32) * (4 : Int32) = nI (r % 4) ∧ (∀ n, n < 4 → (nI (r % 4) = nI n ↔ r % 4 = n)) ∧ r / 4 < 2 ^ 31 := by
  have h4 : r % 4 < 4 := Nat.mod_lt _ (by decide)
  exact ⟨pk_div (d := 4) hr (by decide) (by decide), kI_rem (b := 4) hr (by decide) (by decide), fun n hn => nI_eq (by omega) (by omega), by omega⟩
theorem sp_X8_playRound {σ : ka_S} {M : ma_P} {r : Nat} {Q : ka_S → Prop} (ok : mp_ok M) (hp : rc_P σ 1 M) (hr : r < 2 ^ 31) (h : ∀ σ', ag (xp 1) σ σ' → rc_P σ' 1 (mp_round M r) → Q σ') : kw_X8_playRound σ (nI r) Q := by
  have hN := ok.1
  obtain ⟨x1, x2, x3, hv⟩ := mn_rem4 hr
  have y0 : nI (r % 4) = (0 : Int32) ↔ r % 4 = 0 := x3 0 (by decide)
  have y1 : nI (r % 4) = (1 : Int32) ↔ r % 4 = 1 := x3 1 (by decide)
  have y2 : nI (r % 4) = (2 : Int32) ↔ r % 4 = 2 := x3 2 (by decide)
  unfold mp_round at h
  unfold kw_X8_playRound
  rw [x2, x1, forall_eq, forall_eq, y0, y1, y2]
  refine ⟨fun e0 => ?_, fun e0 => ⟨fun e1 => ?_, fun e1 => ⟨fun e2 => ?_, fun e2 => ⟨fun e3 => ?_, fun e3 => ?_⟩⟩⟩⟩
  · rw [if_pos e0] at h
    rw [show nI (r / 4) - nI (r / 4) / (51 : Int32) * (51 : Int32) = nI (r / 4 % 51) from kI_rem (b := 51) hv (by decide) (by decide), show (10 : Int32) = nI 10 from rfl, nI_add]
    exact sp_X4_change9 hp h
  · rw [if_neg e0, if_pos e1] at h
    rw [show nI (r / 4) - nI (r / 4) / (2 : Int32) * (2 : Int32) = nI (r / 4 % 2) from kI_rem (b := 2) hv (by decide) (by decide)]
    exact sp_X4_change11 hp h
  · rw [if_neg e0, if_neg e1, if_pos e2] at h
    rw [show nI (r / 4) - nI (r / 4) / (3 : Int32) * (3 : Int32) = nI (r / 4 % 3) from kI_rem (b := 3) hv (by decide) (by decide), show (1 : Int32) = nI 1 from rfl, nI_add]
    exact sp_X4_change10 hp h
  · rw [if_neg e0, if_neg e1, if_neg e2] at h
    rw [hp.1.1, show (0 : Int32) = nI 0 from rfl, nI_leI (by omega) (by decide)] at e3
    rw [if_neg (by omega)] at h
    exact h σ ag_refl hp
  · rw [if_neg e0, if_neg e1, if_neg e2] at h
    rw [hp.1.1, show (0 : Int32) = nI 0 from rfl, nI_leI (by omega) (by decide)] at e3
    have hN0 : 0 < mp_N M := by omega
    have hlt : r / 4 % mp_N M < mp_N M := Nat.mod_lt _ hN0
    rw [if_pos hN0] at h
    rw [hp.1.1, kI_rem hv hN0 (by omega), nI_clamp (by omega)]
    exact ⟨nI_ne0 hN0 (by omega), (kI_in (by omega)).mpr (by omega), sp_X7_turnEnd (hp.2.2 _ hlt) (ok.2.2.2.2.2.1 _ hlt) (fun σ1 a1 r1 => h σ1 (ag_mono a1 xw_p) (rc_P_setD hp a1 r1))⟩
theorem sp_X8_withoutLowest_5 {σ : ka_S} {s m : Nat} {Q : Int64 → ka_S → Prop} (hs : s < 2 ^ 63) (hm : m ≤ 4) (h : Q (lN (s / 10000 ^ m)) σ) : ∀ (n k : Nat), k ≤ m → m < k + n → kw_X8_withoutLowest_5 Q n σ (nI m) (lN (s / 10000 ^ k)) (nI k) := by
  intro n
  induction n with
  | zero => intro k h1 h2; omega
  | succ n ih =>
    intro k h1 h2
    have hd : s / 10000 ^ k ≤ s := Nat.div_le_self _ _
    rw [kw_X8_withoutLowest_5, nI_leI (by omega) (by omega)]
    refine ⟨fun q => ?_, fun q => ?_⟩
    · obtain rfl : k = m := by omega
      exact h
    · rw [show (10000 : Int64) = lN 10000 from rfl, pk_lDiv (by omega) (by decide) (by decide), Nat.div_div_eq_div_mul, ← Nat.pow_succ, forall_eq, forall_eq, show (nI k + 1 : Int32) = nI (k + 1) from nI_1 k]
      exact ih (k + 1) (by omega) (by omega)
theorem sp_X8_withoutLowest {σ : ka_S} {s m : Nat} {Q : Int64 → ka_S → Prop} (hs : s < 2 ^ 63) (hm : m ≤ 4) (h : Q (lN (s / 10000 ^ m)) σ) : kw_X8_withoutLowest σ (lN s) (nI m) Q := by
  have z := sp_X8_withoutLowest_5 hs hm h 5 0 (Nat.zero_le _) (by omega)
  rw [Nat.pow_zero, Nat.div_one] at z
  exact ⟨5, z⟩
theorem sp_X8_runScript_62 {σ0 : ka_S} {s n : Nat} {Q : Int32 → ka_S → Prop} {X : Nat → ka_S → Prop} (hs : s < 2 ^ 63) (hn : n ≤ 4) :
    ∀ (f k m : Nat) (M : ma_P) (σ : ka_S), k + m = n → m < f → ag xtr σ0 σ → mp_ok M → rc_P σ 1 M → (∀ σ', ag xtr σ0 σ' → Q (mi_script s n m k M) σ') → kw_X8_runScript_62 Q X f σ (nI n) (lN s) (nI k) := by
  intro f
  induction f with
  | zero => intro k m M σ h1 h2; omega
  | succ f ih =>
    intro k m M σ h1 h2 ha ok hp h
    rw [kw_X8_runScript_62, nI_leI (by omega) (by omega)]
    refine ⟨fun q => ?_, fun q => ?_⟩
    · obtain rfl : m = 0 := by omega
      exact h σ ha
    · obtain ⟨m, rfl⟩ : ∃ m', m = m' + 1 := ⟨m - 1, by omega⟩
      have hd : s / 10000 ^ (n - 1 - k) ≤ s := Nat.div_le_self _ _
      have hm : s / 10000 ^ (n - 1 - k) % 10000 < 10000 := Nat.mod_lt _ (by decide)
      rw [show (nI n - (1 : Int32)) - nI k = nI (n - 1 - k) by rw [kI_lit, pk_sub (by omega), pk_sub (by omega)]]
      refine sp_X8_withoutLowest hs (by omega) ?_
      rw [show lN (s / 10000 ^ (n - 1 - k)) - lN (s / 10000 ^ (n - 1 - k)) / (10000 : Int64) * (10000 : Int64) = lN (s / 10000 ^ (n - 1 - k) % 10000) from pk_lRem (b := 10000) (by omega) (by decide) (by decide), lN_i]
      have z := mp_cmd_ok (c := s / 10000 ^ (n - 1 - k) % 10000) ok
      unfold mi_script at h
      refine sp_X8_succeeds ok hp hm ?_
      cases e : mp_cmd M (s / 10000 ^ (n - 1 - k) % 10000) with
      | some M' =>
        rw [e] at z h
        intro σ1 a1 r1
        refine ⟨fun q => absurd q (by decide), fun _ => ?_⟩
        rw [forall_eq, show (nI k + 1 : Int32) = nI (k + 1) from nI_1 k]
        exact ih (k + 1) m M' σ1 (by omega) (by omega) (ag_trans ha a1) z r1 h
      | none =>
        rw [e] at h
        intro σ1 a1
        exact ⟨fun _ => h σ1 (ag_trans ha a1), fun q => absurd rfl q⟩
theorem sp_X8_simulate_42 {σ0 : ka_S} {N : Nat} {Q : Int32 → ka_S → Prop} {X : Nat → ka_S → Prop} (hN : N ≤ 99) :
    ∀ (f k m : Nat) (x : Int64) (sum : Nat) (M : ma_P) (σ : ka_S), k + m = N → m < f → ag xtr σ0 σ → mp_ok M → rc_P σ 1 M → (∀ σ', ag xtr σ0 σ' → Q (mi_sim m x M sum) σ') → kw_X8_simulate_42 Q X f σ (nI N) x (nI sum) (nI k) := by
  intro f
  induction f with
  | zero => intro k m x sum M σ h1 h2; omega
  | succ f ih =>
    intro k m x sum M σ h1 h2 ha ok hp h
    rw [kw_X8_simulate_42, nI_leI (by omega) (by omega)]
    refine ⟨fun q => ?_, fun q => ?_⟩
    · obtain rfl : m = 0 := by omega
      exact h σ ha
    · obtain ⟨m, rfl⟩ : ∃ m', m = m' + 1 := ⟨m - 1, by omega⟩
      unfold mi_sim at h
      have ex : x * (6364136223846793005 : Int64) + (1442695040888963407 : Int64) = mn_x x := rfl
      rw [forall_eq, ex]
      generalize mn_x x = x' at h ⊢
      rw [mn_r_eq]
      refine sp_X8_playRound ok hp (mn_r_lt _) (fun σ1 a1 r1 => ?_)
      have ok' := mp_round_ok (r := mn_r (x')) ok
      refine sp_X8_arranged ok' r1 (fun σ2 a2 r2 => ?_)
      have r4 : σ2.1 (12, 0, 0) 4 = nI (mt_rows (mp_round M (mn_r (x')))) := r2.1.1.2
      rw [r4, nI_add, forall_eq, forall_eq, show (nI k + 1 : Int32) = nI (k + 1) from nI_1 k]
      exact ih (k + 1) m (x') _ _ σ2 (by omega) (by omega) (ag_trans ha (ag_trans (ag_mono a1 xp_tr) (ag_mono a2 xa_tr))) ok' (rc_P_xa r1 a2) h
theorem sp_X8_widthFor_42 {σ0 : ka_S} {r : Nat} {M : ma_P} {Q : Int32 → ka_S → Prop} {X : Nat → ka_S → Prop} (ok : mp_ok M) (hp : rc_P σ0 0 M) (hr : r < 2 ^ 31) :
    ∀ (f w m : Nat) (σ : ka_S), w + m = 61 → m < f → 10 ≤ w → ag xa σ0 σ → rc_B σ M (mp_Y M) → (∀ σ', ag xa σ0 σ' → Q (mt_wf M r m w) σ') → kw_X8_widthFor_42 Q X f σ (nI r) (nI w) := by
  intro f
  induction f with
  | zero => intro w m σ h1 h2; omega
  | succ f ih =>
    intro w m σ h1 h2 h3 ha hB h
    rw [kw_X8_widthFor_42, show (60 : Int32) = nI 60 from rfl, nI_ltI (by decide) (by omega)]
    refine ⟨fun q => ?_, fun q => ?_⟩
    · obtain rfl : m = 0 := by omega
      exact h σ ha
    · obtain ⟨m, rfl⟩ : ∃ m', m = m' + 1 := ⟨m - 1, by omega⟩
      refine sp_X1_wrap (y := mp_Y M) ok (rc_P_xa hp ha) (by omega) hB (fun σ1 a1 r1 => ?_)
      have b := mt_lay_le (W := w) (y := mp_Y M) ok (by omega) (mp_N M) (Nat.le_refl _)
      have hN := ok.1
      rw [r1.1.1.2, nI_ltI (by omega) (by omega)]
      unfold mt_wf at h
      refine ⟨fun q2 => ?_, fun q2 => ?_⟩
      · rw [if_pos q2] at h
        rw [forall_eq, show (nI w + 1 : Int32) = nI (w + 1) from nI_1 w]
        exact ih (w + 1) m σ1 (by omega) (by omega) (by omega) (ag_trans ha a1) r1.2 h
      · rw [if_neg q2] at h
        exact h σ1 (ag_trans ha a1)
