/-! ===== undo ===== -/
def kx_undo (A : ma_X) : ma_X := kx_setM (kx_setH A (kx_h A - 1) (kx_H A)) (kx_H A (kx_h A - 1))
theorem ko_undo {A : ma_X} (ok : ko A) (h : kx_h A ≠ 0) : ko (kx_undo A) := by
  obtain ⟨h1, h2, h3, h4, h5, h6⟩ := ok
  exact ⟨h1, h2, h5 _ (by omega), by show kx_h A - 1 ≤ 14; omega, fun j hj => h5 j (by have : j < kx_h A - 1 := hj; omega), h6⟩
theorem sm_undo_off {σ : ka_S} {A : ma_X} {Q : Int32 → ka_S → Prop} (ok : ko A) (hm : km σ A) (h0 : kx_h A = 0) (h : ∀ σ1, ag xM σ σ1 → σ1.1 (25, 0, 0) 0 = 1 → km σ1 A → Q 0 σ1) : kw_X9_undo σ Q := by
  have e : σ.1 (25, 0, 0) 8 = (0 : Int32) := by rw [hm.2.2.1.1, h0]; rfl
  exact ⟨fun _ => sm_off (by decide) ok hm h, fun q => absurd e q⟩
theorem sm_undo_on {σ : ka_S} {A : ma_X} {Q : Int32 → ka_S → Prop} (ok : ko A) (hm : km σ A) (h0 : kx_h A ≠ 0) (h : ∀ σ1, ag xM σ σ1 → σ1.1 (25, 0, 0) 0 = 0 → km σ1 (kx_undo A) → Q (nI (kx_h A - 1)) σ1) : kw_X9_undo σ Q := by
  have h14 := ok.2.2.2.1
  have hn0 : ¬ σ.1 (25, 0, 0) 8 = (0 : Int32) := by
    rw [hm.2.2.1.1]
    exact nI_ne0 (by omega) (by omega)
  refine ⟨fun q => absurd q hn0, fun _ => sm_on ok hm (fun σ1 a1 e1 m1 => ?_)⟩
  have e2 : (ka_wI σ1 (25, 0, 0) 8 (nI (kx_h A - 1))).1 (25, 0, 0) 8 = nI (kx_h A - 1) := by
    simp only [st_I, st_L, st_I2, st_L1, Prod.mk.injEq, Nat.reduceEqDiff, false_and, and_false, true_and, and_true, and_self, if_false, if_true, reduceIte]
  have a2 : ag xd σ1 (ka_wI σ1 (25, 0, 0) 8 (nI (kx_h A - 1))) := ag_I ag_refl (Or.inr ⟨rfl, rfl⟩)
  have m2 := km_hist (h := kx_h A - 1) (H := kx_H A) ok m1 a2 ⟨e2, fun j hj => ⟨(m1.2.2.1.2 j (by omega)).1, rd_at_ag (m1.2.2.1.2 j (by omega)).1 (m1.2.2.1.2 j (by omega)).2 (fun i hi => rfl)⟩⟩
  have okH : ko (kx_setH A (kx_h A - 1) (kx_H A)) := ⟨ok.1, ok.2.1, ok.2.2.1, by show kx_h A - 1 ≤ 14; omega, fun j hj => ok.2.2.2.2.1 j (by have : j < kx_h A - 1 := hj; omega), ok.2.2.2.2.2⟩
  have hl := m1.2.2.1.2 (kx_h A - 1) (by omega)
  rw [m1.2.2.1.1, show nI (kx_h A) - (1 : Int32) = nI (kx_h A - 1) by rw [kI_lit, pk_sub (by omega)], forall_eq, e2, show (253 : Int32) * nI (kx_h A - 1) = nI (253 * (kx_h A - 1)) by rw [kI_lit, pk_mul], show (0 : Int32) = nI 0 from rfl, show (253 : Int32) = nI 253 from rfl]
  refine sp_X9_copy (by show 253 * (kx_h A - 1) + 253 ≤ 3542; omega) (by decide) (by omega) (Or.inl (by decide)) (fun σ3 a3 r3 => ?_)
  have a3' : ag (xr (37, 0, 0)) (ka_wI σ1 (25, 0, 0) 8 (nI (kx_h A - 1))) σ3 := ag_mono a3 xc_r
  have r4 : rd_P σ3 (37, 0, 0) (kx_H A (kx_h A - 1)) := rd_F_congr hl.1 hl.2 (fun j hj => by
    have := r3 j hj
    rw [Nat.zero_add] at this
    exact this)
  have m3 := km_page okH m2 a3' r4
  rw [show σ3.1 (25, 0, 0) 8 = nI (kx_h A - 1) from m3.2.2.1.1]
  exact h σ3 (sm_MN a1 (ag_trans (ag_mono a2 xd_N) (ag_mono a3' xr_N))) (sm_0 e1 (ag_trans (ag_mono a2 xd_N) (ag_mono a3' xr_N))) m3
theorem kl_21 {σ : ka_S} {xs : Nat → Int32} {i : Nat} {o : Int64} (hK : kK σ) : kl_c21 σ xs i o (fun σ1 _ => kK σ1) := by
  obtain ⟨A, ok, hc, hm⟩ := hK
  have h14 := ok.2.2.2.1
  unfold kl_c21 kw_L_undo kw_X8_undo
  obtain ⟨od, o1, o2⟩ := id hc.2.2.1
  rw [o2.1.1]
  by_cases h0 : kx_h A = 0
  · refine ⟨fun _ => sm_undo_off ok hm h0 (fun σ2 a2 e2 m2 => kf1 (by decide) e2 ⟨A, ok, kc_M hc a2, m2⟩), fun q => absurd (by rw [h0]; rfl) q⟩
  · refine ⟨fun q => absurd q (nI_ne0 (by omega) (by omega)), fun _ => ?_⟩
    obtain ⟨n, hn⟩ : ∃ n, kx_h A = n + 1 := ⟨kx_h A - 1, by omega⟩
    have o3 := o2
    rw [hn] at o3
    refine sp_X0_takeBack (by decide) o3 (ok.2.2.2.2.1 n (by omega)) (by omega) o1 (fun σ1 a1 r1 r2 => ?_)
    have c1 : kc σ1 (kx_undo A) := by
      obtain ⟨h1, h2, h3, h5⟩ := hc
      have n0 : ∀ κ o i m, κ ≠ 20 → o ≠ 0 ∨ 10 ≤ κ → ¬ (fun (k : ka_K) (m : Nat) => k.1 = 20 ∨ xp 0 k m) (κ, o, i) m := fun κ o i m hk hk2 q => by
        rcases q with q | q
        · exact hk q
        · have q1 : o = 0 := q.1
          have q2 : κ ≤ 9 := q.2
          omega
      refine ⟨⟨(a1 _ _ (n0 10 0 0 1 (by decide) (Or.inr (by decide)))).1.trans h1.1, fun k hk => (a1 _ _ (n0 11 0 0 k (by decide) (Or.inr (by decide)))).1.trans (h1.2 k hk)⟩, ?_, ⟨od, o1, ?_⟩, fun s hs => ⟨(a1 _ _ (n0 24 0 0 s (by decide) (Or.inr (by decide)))).1.trans (h5 s hs).1, fun hb => rc_P_ag ((h5 s hs).2 hb) a1 (fun κ i n hk => n0 κ (s + 2) i n (by omega) (Or.inl (by omega)))⟩⟩
      · show rc_P σ1 0 (kx_H A (kx_h A - 1))
        rw [hn]
        exact r2
      · show rc_H σ1 (kx_h A - 1) od (kx_H A)
        rw [hn]
        exact r1
    rw [r1.1.1, show n = kx_h A - 1 by omega]
    have a2 : ag xC σ σ1 := ag_mono a1 (fun k m q => by
      rcases q with q | q
      · show k.1 ≤ 24; omega
      · exact xp_C k m q)
    exact sm_undo_on ok (km_C ok hm a2) h0 (fun σ2 a3 e2 m2 => kf0 e2 ⟨_, ko_undo ok h0, kc_M c1 a3, m2⟩)
/-! ===== save, restore ===== -/
def kx_save (A : ma_X) (s : Nat) : ma_X := kx_setB A (fun j => if j = s then 1 else kx_b A j) (fun j => if j = s then kx_M A else kx_B A j)
def kx_rest (A : ma_X) (s : Nat) : ma_X := kx_setH (kx_setM A (kx_B A s)) 0 (kx_H A)
theorem ko_save {A : ma_X} {s : Nat} (ok : ko A) : ko (kx_save A s) := by
  obtain ⟨h1, h2, h3, h4, h5, h6⟩ := ok
  refine ⟨h1, h2, h3, h4, h5, fun j hj => ⟨?_, fun hb => ?_⟩⟩
  · show (if j = s then 1 else kx_b A j) ≤ 1
    by_cases q : j = s
    · rw [if_pos q]; exact Nat.le_refl _
    · rw [if_neg q]; exact (h6 j hj).1
  · have hb' : (if j = s then 1 else kx_b A j) = 1 := hb
    show mp_ok (if j = s then kx_M A else kx_B A j)
    by_cases q : j = s
    · rw [if_pos q]; exact h3
    · rw [if_neg q] at hb' ⊢
      exact (h6 j hj).2 hb'
theorem ko_rest {A : ma_X} {s : Nat} (ok : ko A) (hs : s < 2) (hb : kx_b A s = 1) : ko (kx_rest A s) :=
  ⟨ok.1, ok.2.1, (ok.2.2.2.2.2 s hs).2 hb, Nat.zero_le _, fun j hj => absurd hj (Nat.not_lt_zero j), ok.2.2.2.2.2⟩
theorem sc_slot {σ : ka_S} {v : Int32} {Q : ka_S → Prop} {X : Nat → ka_S → Prop} (h1 : ∀ s, s < 2 → v = nI s → Q σ) (h0 : (∀ s, s < 2 → v ≠ nI s) → X 2 σ) : kw_X8_requireSlot σ v Q X := by
  refine ⟨fun q => h0 (fun s hs e => absurd q (by rw [e]; exact nI_pos (by omega))), fun q => ⟨fun q2 => ?_, fun q2 => h0 (fun s hs e => q2 ?_)⟩⟩
  · obtain ⟨s, hs, e⟩ := nI_of q
    rw [e, show (2 : Int32) = nI 2 from rfl, nI_ltI hs (by decide)] at q2
    exact h1 s q2 e
  · rw [e, show (2 : Int32) = nI 2 from rfl, nI_ltI (by omega) (by decide)]
    exact hs
theorem sm_save_off {σ : ka_S} {A : ma_X} {v : Int32} {Q : Int32 → ka_S → Prop} (ok : ko A) (hm : km σ A) (hv : ∀ j, j < 2 → v ≠ nI j) (h : ∀ σ1, ag xM σ σ1 → σ1.1 (25, 0, 0) 0 = 1 → km σ1 A → Q 0 σ1) : kw_X9_save σ v Q :=
  sm_in_no (n := 2) rfl hv ⟨fun _ => sm_off (by decide) ok hm h, fun q => absurd rfl q⟩
theorem xs_N {s : Nat} (k : ka_K) (n : Nat) (h : k = (35, 0, 0) ∨ k = (40, 0, 0)) : xN k n := by
  rcases h with h | h
  · exact ⟨by rw [h]; decide, fun q => by rw [q.1] at h; exact absurd h (by decide)⟩
  · exact ⟨by rw [h]; decide, fun q => by rw [q.1] at h; exact absurd h (by decide)⟩
theorem sm_save_on {σ : ka_S} {A : ma_X} {s : Nat} {Q : Int32 → ka_S → Prop} (ok : ko A) (hm : km σ A) (hs : s < 2) (h : ∀ σ1, ag xM σ σ1 → σ1.1 (25, 0, 0) 0 = 0 → km σ1 (kx_save A s) → Q (nI (mp_N (kx_M A))) σ1) : kw_X9_save σ (nI s) Q := by
  refine sm_in_ok (n := 2) (by decide) rfl hs ⟨fun q => absurd q (by decide), fun _ => sm_on ok hm (fun σ1 a1 e1 m1 => ⟨(kI_in (by omega)).mpr hs, ?_⟩)⟩
  rw [nI_clamp (by omega), forall_eq, show (253 : Int32) * nI s = nI (253 * s) by rw [kI_lit, pk_mul], show (0 : Int32) = nI 0 from rfl, show (253 : Int32) = nI 253 from rfl]
  refine sp_X9_copy (by decide) (by show 253 * s + 253 ≤ 506; omega) (by omega) (Or.inl (by decide)) (fun σ2 a2 r2 => ?_)
  have a3 : ag (fun (k : ka_K) (_ : Nat) => k = (35, 0, 0) ∨ k = (40, 0, 0)) σ1 σ2 := ag_trans (ag_I ag_refl (Or.inl rfl)) (ag_mono a2 (fun k j q => Or.inr q.1))
  have m2 : km σ2 (kx_save A s) := km_slots ok m1 a3 (fun j hj => ⟨?_, fun hb => ?_⟩)
  · refine sp_X9_many rfl m2.2.1 ?_
    exact h σ2 (sm_MN a1 (ag_mono a3 (xs_N (s := s)))) (sm_0 e1 (ag_mono a3 (xs_N (s := s)))) m2
  · rw [(a2 (35, 0, 0) j (fun q => absurd q.1 (by decide))).1]
    simp only [st_I, st_L, st_I2, st_L1, Prod.mk.injEq, Nat.reduceEqDiff, false_and, and_false, true_and, and_true, and_self, if_false, if_true, reduceIte]
    show _ = nI (if j = s then 1 else kx_b A j)
    by_cases q : j = s
    · rw [if_pos q, if_pos q]; rfl
    · rw [if_neg q, if_neg q]
      exact (m1.2.2.2 j hj).1
  · have hb' : (if j = s then 1 else kx_b A j) = 1 := hb
    show rd_at σ2 (40, 0, 0) (253 * j) (if j = s then kx_M A else kx_B A j)
    by_cases q : j = s
    · rw [if_pos q, q]
      refine rd_F_congr ok.2.2.1 m1.2.1 (fun i hi => ?_)
      have := r2 i hi
      rw [Nat.zero_add] at this
      exact this
    · rw [if_neg q] at hb' ⊢
      refine rd_at_ag ((ok.2.2.2.2.2 j hj).2 hb') ((m1.2.2.2 j hj).2 hb') (fun i hi => ?_)
      exact (a2 (40, 0, 0) _ (fun z => by have := z.2; omega)).2
theorem kl_29 {σ : ka_S} {xs : Nat → Int32} {i : Nat} {o : Int64} (hK : kK σ) : kl_c29 σ xs i o (fun σ1 _ => kK σ1) := by
  obtain ⟨A, ok, hc, hm⟩ := hK
  unfold kl_c29 kw_L_save
  generalize xs (i + 1) = v
  refine sc_slot (fun s hs e => ?_) (fun hv => sm_save_off ok hm hv (fun σ2 a2 e2 m2 => kf1 (by decide) e2 ⟨A, ok, kc_M hc a2, m2⟩))
  subst e
  have v2 : vp_in (nI s) 2 := (kI_in (by omega)).mpr hs
  rw [nI_clamp (by omega)]
  refine ⟨v2, sp_X4_copyFrom (by omega) hc.2.1 ok.2.2.1 (fun σ1 a1 r1 => ⟨v2, ?_⟩)⟩
  rw [forall_eq]
  have c2 : kc (ka_wI σ1 (24, 0, 0) s 1) (kx_save A s) := by
    obtain ⟨h1, h2, ⟨od, h3, h4⟩, h5⟩ := hc
    have a2 : ag (fun (k : ka_K) (m : Nat) => xp (s + 2) k m ∨ (k = (24, 0, 0) ∧ m = s)) σ (ka_wI σ1 (24, 0, 0) s 1) := ag_I (ag_mono a1 (fun k m q => Or.inl q)) (Or.inr ⟨rfl, rfl⟩)
    have n0 : ∀ κ o i m, κ ≠ 24 → o ≠ s + 2 ∨ 10 ≤ κ → ¬ (fun (k : ka_K) (m : Nat) => xp (s + 2) k m ∨ (k = (24, 0, 0) ∧ m = s)) (κ, o, i) m := fun κ o i m hk hk2 q => by
      rcases q with q | q
      · have q1 : o = s + 2 := q.1
        have q2 : κ ≤ 9 := q.2
        omega
      · exact hk (congrArg Prod.fst q.1)
    refine ⟨⟨(a2 _ _ (n0 10 0 0 1 (by decide) (Or.inr (by decide)))).1.trans h1.1, fun k hk => (a2 _ _ (n0 11 0 0 k (by decide) (Or.inr (by decide)))).1.trans (h1.2 k hk)⟩, rc_P_ag h2 a2 (fun κ i n hk => n0 κ 0 i n (by omega) (Or.inl (by omega))),
      ⟨od, h3, rc_H_ag h4 a2 (fun j => n0 20 0 0 j (by decide) (Or.inr (by decide))) (fun κ o i m hk _ _ => n0 κ o i m (by omega) (Or.inl (by omega)))⟩, fun j hj => ⟨?_, fun hb => ?_⟩⟩
    · show _ = nI (if j = s then 1 else kx_b A j)
      by_cases q : j = s
      · rw [if_pos q, q]
        simp only [st_I, st_L, st_I2, st_L1, Prod.mk.injEq, Nat.reduceEqDiff, false_and, and_false, true_and, and_true, and_self, if_false, if_true, reduceIte]
        rfl
      · rw [if_neg q]
        refine (a2 (24, 0, 0) j (fun z => ?_)).1.trans (h5 j hj).1
        rcases z with z | z
        · exact absurd (show 24 ≤ 9 from z.2) (by decide)
        · exact q z.2
    · have hb' : (if j = s then 1 else kx_b A j) = 1 := hb
      show rc_P _ (j + 2) (if j = s then kx_M A else kx_B A j)
      by_cases q : j = s
      · rw [if_pos q, q]
        exact rc_P_ag (X := fun k _ => k.1 = 24) r1 (ag_I ag_refl rfl) (fun κ i n hk z => by
          have : κ = 24 := z
          omega)
      · rw [if_neg q] at hb' ⊢
        exact rc_P_ag ((h5 j hj).2 hb') a2 (fun κ i n hk => n0 κ (j + 2) i n (by omega) (Or.inl (by omega)))
  rw [c2.2.1.1.1]
  have a3 : ag xC σ (ka_wI σ1 (24, 0, 0) s 1) := ag_I (ag_mono a1 xp_C) (by show 24 ≤ 24; decide)
  exact sm_save_on ok (km_C ok hm a3) hs (fun σ3 a4 e3 m3 => kf0 e3 ⟨_, ko_save ok, kc_M c2 a4, m3⟩)
theorem sm_rest_off1 {σ : ka_S} {A : ma_X} {v : Int32} {Q : Int32 → ka_S → Prop} (ok : ko A) (hm : km σ A) (hv : ∀ j, j < 2 → v ≠ nI j) (h : ∀ σ1, ag xM σ σ1 → σ1.1 (25, 0, 0) 0 = 1 → km σ1 A → Q 0 σ1) : kw_X9_restore σ v Q :=
  sm_in_no (n := 2) rfl hv ⟨fun _ => sm_off (by decide) ok hm h, fun q => absurd rfl q⟩
theorem sm_rest_off2 {σ : ka_S} {A : ma_X} {s : Nat} {Q : Int32 → ka_S → Prop} (ok : ko A) (hm : km σ A) (hs : s < 2) (hb : kx_b A s = 0) (h : ∀ σ1, ag xM σ σ1 → σ1.1 (25, 0, 0) 0 = 2 → km σ1 A → Q 0 σ1) : kw_X9_restore σ (nI s) Q := by
  refine sm_in_ok (n := 2) (by decide) rfl hs ⟨fun q => absurd q (by decide), fun _ => ⟨(kI_in (by omega)).mpr hs, ?_⟩⟩
  have e : σ.1 (35, 0, 0) s = (0 : Int32) := by rw [(hm.2.2.2 s hs).1, hb]; rfl
  rw [nI_clamp (by omega)]
  exact ⟨fun _ => sm_off (by decide) ok hm h, fun q => absurd e q⟩
theorem sm_rest_on {σ : ka_S} {A : ma_X} {s : Nat} {Q : Int32 → ka_S → Prop} (ok : ko A) (hm : km σ A) (hs : s < 2) (hb : kx_b A s = 1) (h : ∀ σ1, ag xM σ σ1 → σ1.1 (25, 0, 0) 0 = 0 → km σ1 (kx_rest A s) → Q (nI (mp_N (kx_B A s))) σ1) : kw_X9_restore σ (nI s) Q := by
  refine sm_in_ok (n := 2) (by decide) rfl hs ⟨fun q => absurd q (by decide), fun _ => ⟨(kI_in (by omega)).mpr hs, ?_⟩⟩
  have e : ¬ σ.1 (35, 0, 0) s = (0 : Int32) := by rw [(hm.2.2.2 s hs).1, hb]; decide
  rw [nI_clamp (by omega)]
  refine ⟨fun q => absurd q e, fun _ => sm_on ok hm (fun σ1 a1 e1 m1 => ?_)⟩
  rw [show (253 : Int32) * nI s = nI (253 * s) by rw [kI_lit, pk_mul], show (0 : Int32) = nI 0 from rfl, show (253 : Int32) = nI 253 from rfl]
  refine sp_X9_copy (by show 253 * s + 253 ≤ 506; omega) (by decide) (by omega) (Or.inl (by decide)) (fun σ2 a2 r2 => ?_)
  have okB := (ok.2.2.2.2.2 s hs).2 hb
  have a2' : ag (xr (37, 0, 0)) σ1 σ2 := ag_mono a2 xc_r
  have r3 : rd_P σ2 (37, 0, 0) (kx_B A s) := rd_F_congr okB ((m1.2.2.2 s hs).2 hb) (fun j hj => by
    have := r2 j hj
    rw [Nat.zero_add] at this
    exact this)
  have m2 := km_page ok m1 a2' r3
  rw [forall_eq]
  have a3 : ag xd σ2 (ka_wI σ2 (25, 0, 0) 8 (nI 0)) := ag_I ag_refl (Or.inr ⟨rfl, rfl⟩)
  have m3 : km (ka_wI σ2 (25, 0, 0) 8 (nI 0)) (kx_rest A s) := km_hist (ko_setM ok okB) m2 a3 ⟨by
    simp only [st_I, st_L, st_I2, st_L1, Prod.mk.injEq, Nat.reduceEqDiff, false_and, and_false, true_and, and_true, and_self, if_false, if_true, reduceIte], fun j hj => absurd hj (Nat.not_lt_zero j)⟩
  exact sp_X9_many rfl m3.2.1 (h _ (sm_MN a1 (ag_trans (ag_mono a2' xr_N) (ag_mono a3 xd_N))) (sm_0 e1 (ag_trans (ag_mono a2' xr_N) (ag_mono a3 xd_N))) m3)
theorem kl_30 {σ : ka_S} {xs : Nat → Int32} {i : Nat} {o : Int64} (hK : kK σ) : kl_c30 σ xs i o (fun σ1 _ => kK σ1) := by
  obtain ⟨A, ok, hc, hm⟩ := hK
  unfold kl_c30 kw_L_restore
  generalize xs (i + 1) = v
  refine sc_slot (fun s hs e => ?_) (fun hv => sm_rest_off1 ok hm hv (fun σ2 a2 e2 m2 => kf1 (by decide) e2 ⟨A, ok, kc_M hc a2, m2⟩))
  subst e
  have v2 : vp_in (nI s) 2 := (kI_in (by omega)).mpr hs
  have hb1 := (ok.2.2.2.2.2 s hs).1
  have hb2 := (hc.2.2.2 s hs).1
  rw [nI_clamp (by omega), hb2, show (0 : Int32) = nI 0 from rfl, nI_eq (by omega) (by decide)]
  refine ⟨v2, fun q => sm_rest_off2 ok hm hs q (fun σ2 a2 e2 m2 => kf1 (by decide) e2 ⟨A, ok, kc_M hc a2, m2⟩), fun q => ⟨v2, ?_⟩⟩
  have hb : kx_b A s = 1 := by omega
  have okB := (ok.2.2.2.2.2 s hs).2 hb
  refine sp_X4_copyFrom (by omega) ((hc.2.2.2 s hs).2 hb) okB (fun σ1 a1 r1 => sp_X0_clear (H := kx_H A) (fun σ2 a2 r2 => ?_))
  have c1 := kc_page hc a1 r1
  have c2 : kc σ2 (kx_rest A s) := kc_hist c1 (ag_mono a2 (fun k m q => Or.inl q)) (by decide) r2
  rw [c2.2.1.1.1]
  exact sm_rest_on ok (km_C ok hm (ag_trans (ag_mono a1 xp_C) (ag_mono a2 (fun k m q => by show k.1 ≤ 24; omega)))) hs hb (fun σ3 a3 e3 m3 => kf0 e3 ⟨_, ko_rest ok hs hb, kc_M c2 a3, m3⟩)
