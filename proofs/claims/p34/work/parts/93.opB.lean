/-! ===== load ===== -/
def x0 (k : ka_K) (n : Nat) : Prop := k = (25, 0, 0) ∧ n = 0
theorem x0_U (k : ka_K) (n : Nat) (h : x0 k n) : xU k n := Or.inr (Or.inr (Or.inr ⟨h.1, Or.inl h.2⟩))
theorem kc_slots {σ σ' : ka_S} {A : ma_X} {b : Nat → Nat} {B : Nat → ma_P} (hc : kc σ A) (a : ag (fun k _ => k.1 = 24) σ σ') (hs : ∀ s, s < 2 → σ'.1 (24, 0, 0) s = nI (b s) ∧ (b s = 1 → rc_P σ' (s + 2) (B s))) : kc σ' (kx_setB A b B) := by
  obtain ⟨h1, h2, ⟨od, h3, h4⟩, h5⟩ := hc
  have n0 : ∀ κ o i m, κ ≠ 24 → ¬ (fun (k : ka_K) (_ : Nat) => k.1 = 24) (κ, o, i) m := fun κ o i m h q => h q
  exact ⟨⟨(a _ _ (n0 10 0 0 1 (by decide))).1.trans h1.1, fun k hk => (a _ _ (n0 11 0 0 k (by decide))).1.trans (h1.2 k hk)⟩, rc_P_ag h2 a (fun κ i n hk => n0 κ 0 i n (by omega)),
    ⟨od, h3, rc_H_ag h4 a (fun j => n0 20 0 0 j (by decide)) (fun κ o i m hk _ _ => n0 κ o i m (by omega))⟩, hs⟩
def kx_R (A : ma_X) : Nat := mv_R (mv_read (kx_n A) (kx_t A)).2
def kx_W (A : ma_X) : Nat → ma_W := mv_D (mv_read (kx_n A) (kx_t A)).2
def kx_e (A : ma_X) : Int32 := (mv_read (kx_n A) (kx_t A)).1
def kx_load (A : ma_X) : ma_X := kx_setB (kx_setH (kx_setM A (mp_insert mp_new 0 (kx_R A) (kx_W A))) 0 (kx_H A)) (fun _ => 0) (kx_B A)
theorem kx_R_le {A : ma_X} (ok : ko A) : 1 ≤ kx_R A ∧ kx_R A ≤ 12 := (mv_read_ok ok.1).1
theorem kx_W_ok {A : ma_X} (ok : ko A) (e : kx_e A = -9) : ∀ j, j < kx_R A → mw_ok (kx_W A j) := (mv_read_ok ok.1).2 e
theorem ko_load {A : ma_X} (ok : ko A) (e : kx_e A = -9) : ko (kx_load A) := by
  have hR := kx_R_le ok
  refine ⟨ok.1, ok.2.1, mp_insert_ok mp_new_ok (Nat.zero_le _) (by show 0 + kx_R A ≤ 12; omega) (kx_W_ok ok e), Nat.zero_le _, fun j hj => absurd hj (Nat.not_lt_zero j), fun s hs => ⟨Nat.zero_le _, fun h => absurd (show (0 : Nat) = 1 from h) (by decide)⟩⟩
theorem sc_load {σ : ka_S} {A : ma_X} {Q : Int32 → ka_S → Prop} {X : Nat → ka_S → Prop} (ok : ko A) (hc : kc σ A) (h : kx_e A = -9 → ∀ σ1, ag xC σ σ1 → kc σ1 (kx_load A) → Q (nI (kx_R A)) σ1) (h0 : ¬ kx_e A = -9 → ∀ σ1, ag xC σ σ1 → kc σ1 A → X 1 σ1) : kw_X8_load σ Q X := by
  have hR := kx_R_le ok
  unfold kw_X8_load
  refine sp_X5_read hc.1 ok.1 ok.2.1 (fun σ1 a1 r1 => ⟨fun e => ?_, fun e => h0 e σ1 (ag_mono (ag_mono a1 xrd_S) xS_C) (kc_S hc (ag_mono a1 xrd_S))⟩)
  have c1 := kc_S hc (ag_mono a1 xrd_S)
  have hW := kx_W_ok ok e
  refine sp_X4_reset (fun σ2 a2 r2 => ?_)
  have n18 : ∀ m, ¬ xp 0 (18, 0, 0) m := fun m q => absurd (show 18 ≤ 9 from q.2) (by decide)
  refine sp_X4_addWords (i := 0) (R := kx_R A) (Wd := kx_W A) (by decide) mp_new_ok r2 ((a2 _ _ (n18 1)).1.trans r1.1.1) (Nat.zero_le _) (by show 0 + kx_R A ≤ 12; omega) hR.1 (fun j hj => ⟨hW j hj, rc_W_ag (r1.2 j hj) a2 (fun κ n _ _ q => absurd (show 18 = 0 from q.1) (by decide))⟩) (fun σ3 a3 r3 => ?_)
  have c3 := kc_page c1 (ag_trans a2 a3) r3
  refine sp_X0_clear (H := kx_H A) (fun σ4 a4 r4 => ⟨3, ?_⟩)
  have c4 := kc_hist c3 (ag_mono a4 (fun k m q => Or.inl q)) (by decide) r4
  have v0 : vp_in (0 : Int32) 2 := (kI_in (k := 0) (by decide)).mpr (by decide)
  have v1 : vp_in (1 : Int32) 2 := (kI_in (k := 1) (by decide)).mpr (by decide)
  have a5 : ag (fun (k : ka_K) (_ : Nat) => k.1 = 24) σ4 (ka_wI (ka_wI σ4 (24, 0, 0) 0 0) (24, 0, 0) 1 0) := ag_I (ag_I ag_refl rfl) rfl
  have c5 := kc_slots (b := fun _ => 0) (B := kx_B A) c4 a5 (fun s hs => ⟨by
    have : s = 0 ∨ s = 1 := by omega
    rcases this with q | q
    · subst q
      simp only [st_I, st_L, st_I2, st_L1, Prod.mk.injEq, Nat.reduceEqDiff, false_and, and_false, true_and, and_true, and_self, if_false, if_true, reduceIte]
      rfl
    · subst q
      simp only [st_I, st_L, st_I2, st_L1, Prod.mk.injEq, Nat.reduceEqDiff, false_and, and_false, true_and, and_true, and_self, if_false, if_true, reduceIte]
      rfl, fun q => absurd (show (0 : Nat) = 1 from q) (by decide)⟩)
  rw [kw_X8_load_54]
  refine ⟨fun q => absurd q (by decide), fun _ => ⟨v0, ?_⟩⟩
  rw [forall_eq, forall_eq, kw_X8_load_54]
  refine ⟨fun q => absurd q (by decide), fun _ => ⟨v1, ?_⟩⟩
  rw [forall_eq, forall_eq, kw_X8_load_54]
  refine ⟨fun _ => ?_, fun q => absurd (by decide) q⟩
  show Q ((ka_wI (ka_wI σ4 (24, 0, 0) 0 0) (24, 0, 0) 1 0).1 (0, 0, 0) 2) (ka_wI (ka_wI σ4 (24, 0, 0) 0 0) (24, 0, 0) 1 0)
  rw [c5.2.1.1.1, show mp_N (kx_M (kx_setB (kx_setH (kx_setM A (mp_insert mp_new 0 (kx_R A) (kx_W A))) 0 (kx_H A)) (fun _ => 0) (kx_B A))) = kx_R A from Nat.zero_add _]
  exact h e _ (ag_trans (ag_mono (ag_mono a1 xrd_S) xS_C) (ag_trans (ag_mono (ag_trans a2 a3) xp_C) (ag_trans (ag_mono a4 (fun k m q => by show k.1 ≤ 24; omega)) (ag_mono a5 (fun k m q => by show k.1 ≤ 24; omega))))) c5
