/-! GlossRows$History.clear()V -/
def rm_X0_clear : Room := { frames := 0, cells := 0, slots := 0, locals := 0 }
def kw_X0_clear (σ : ka_S) (Q : ka_S → Prop) : Prop := ∀ σ1 : ka_S, σ1 = ka_wI σ (20, 0, 0) 1 (0 : Int32) →
  ∀ σ2 : ka_S, σ2 = ka_wI σ1 (20, 0, 0) 2 (0 : Int32) →
  Q σ2
set_option maxHeartbeats 4000000 in
set_option maxRecDepth 100000 in
theorem km_X0_clear (l : Launch) {G : ka_G} (hI : ka_I G) {σ : ka_S} {Q : ka_S → Prop} (hq : kw_X0_clear σ Q) : kc_v l yX0_clear (kw_ yX0_clear cX0_clear 1 none) rm_X0_clear G [.ref (ka_a G (20, 0, 0))] σ Q := by
  refine ka_of "GlossRows$History" rfl (by decide) (Nat.le_of_ble_eq_true rfl) ?_
  intro p e s m below meth c C0 hK H locs hP hS ls hl
  obtain ⟨hx, hb, -, hml, hown, hts, -⟩ := id C0
  have hl : lv_has ls 1 [(0, .ref (ka_a G (20, 0, 0)))] := hl
  unfold kw_X0_clear at hq
  refine lv_aload_n hx hb dX0_clear_0 rfl (lv_at hl 0 rfl) ?_
  refine lv_iconst (v := 0) hx hb dX0_clear_1 (by decide) ?_
  refine kp_X0_count C0 hK hI hP hS (kv_s (by decide) (by decide)) kq_221 dX0_clear_2 (fun H locs hP hS => ?_)
  obtain ⟨σ1, eσ1⟩ : ∃ z : ka_S, z = ka_wI σ (20, 0, 0) 1 (0 : Int32) := ⟨_, rfl⟩
  rw [← eσ1] at hP
  have hq := hq σ1 eσ1
  refine lv_aload_n hx hb dX0_clear_5 rfl (lv_at hl 0 rfl) ?_
  refine lv_iconst (v := 0) hx hb dX0_clear_6 (by decide) ?_
  refine kp_X0_oldest C0 hK hI hP hS (kv_s (by decide) (by decide)) kq_223 dX0_clear_7 (fun H locs hP hS => ?_)
  obtain ⟨σ2, eσ2⟩ : ∃ z : ka_S, z = ka_wI σ1 (20, 0, 0) 2 (0 : Int32) := ⟨_, rfl⟩
  rw [← eσ2] at hP
  have hq := hq σ2 eσ2
  exact kr_vret C0 hK hP hS hq dX0_clear_10
/-! GlossRows$History.remember(LGlossRows$Page;)V -/
def rm_X0_remember : Room := { frames := 2, cells := 0, slots := 0, locals := 44 }
def kw_X0_remember (σ : ka_S) (o2 : Nat) (Q : ka_S → Prop) : Prop := vp_in (((σ.1 (20, 0, 0) 2) + (σ.1 (20, 0, 0) 1)) - ((σ.1 (20, 0, 0) 2) + (σ.1 (20, 0, 0) 1)) / (14 : Int32) * (14 : Int32)) 14 ∧
  kw_X4_copyFrom σ ((((σ.1 (20, 0, 0) 2) + (σ.1 (20, 0, 0) 1)) - ((σ.1 (20, 0, 0) 2) + (σ.1 (20, 0, 0) 1)) / (14 : Int32) * (14 : Int32)).toNatClampNeg + 4) o2 (fun σ2 => 
  ((14 : Int32) ≤ (σ2.1 (20, 0, 0) 1) → ∀ σ3 : ka_S, σ3 = ka_wI σ2 (20, 0, 0) 2 (((σ2.1 (20, 0, 0) 2) + (1 : Int32)) - ((σ2.1 (20, 0, 0) 2) + (1 : Int32)) / (14 : Int32) * (14 : Int32)) →
    Q σ3) ∧
  (¬ (14 : Int32) ≤ (σ2.1 (20, 0, 0) 1) → ∀ σ4 : ka_S, σ4 = ka_wI σ2 (20, 0, 0) 1 ((σ2.1 (20, 0, 0) 1) + (1 : Int32)) →
    Q σ4))
set_option maxHeartbeats 4000000 in
set_option maxRecDepth 100000 in
theorem km_X0_remember (l : Launch) {G : ka_G} (hI : ka_I G) {o2 : Nat} (ho2 : o2 < 18) {σ : ka_S} {Q : ka_S → Prop} (hq : kw_X0_remember σ o2 Q) : kc_v l yX0_remember (kw_ yX0_remember cX0_remember 2 none) rm_X0_remember G [.ref (ka_a G (20, 0, 0)), .ref (ka_a G (0, o2, 0))] σ Q := by
  refine ka_of "GlossRows$History" rfl (by decide) (Nat.le_of_ble_eq_true rfl) ?_
  intro p e s m below meth c C0 hK H locs hP hS ls hl
  obtain ⟨hx, hb, -, hml, hown, hts, -⟩ := id C0
  have hl : lv_has ls 2 [(0, .ref (ka_a G (20, 0, 0))), (1, .ref (ka_a G (0, o2, 0)))] := hl
  unfold kw_X0_remember at hq
  refine lv_aload_n hx hb dX0_remember_0 rfl (lv_at hl 0 rfl) ?_
  refine kg_X0_pages C0 hK hP (kv_s (by decide) (by decide)) kq_220 dX0_remember_1 ?_
  refine lv_aload_n hx hb dX0_remember_4 rfl (lv_at hl 0 rfl) ?_
  refine kg_X0_oldest C0 hK hP (kv_s (by decide) (by decide)) kq_223 dX0_remember_5 ?_
  refine lv_aload_n hx hb dX0_remember_8 rfl (lv_at hl 0 rfl) ?_
  refine kg_X0_count C0 hK hP (kv_s (by decide) (by decide)) kq_221 dX0_remember_9 ?_
  refine lv_iadd hx hb dX0_remember_12 ?_
  refine lv_bipush (v := 14) hx hb dX0_remember_13 (by decide) ?_
  refine lv_irem hx hb dX0_remember_15 (by decide) ?_
  obtain ⟨b1, hq⟩ := hq
  refine kr_aald (t := 4) C0 hK hP (kv_s (by decide) (by decide)) rfl rfl b1 rfl dX0_remember_16 ?_
  refine lv_aload_n hx hb dX0_remember_17 rfl (lv_at hl 1 rfl) ?_
  refine kr_Vv (k := (0, ((((σ.1 (20, 0, 0) 2) + (σ.1 (20, 0, 0) 1)) - ((σ.1 (20, 0, 0) 2) + (σ.1 (20, 0, 0) 1)) / (14 : Int32) * (14 : Int32)).toNatClampNeg + 4), 0)) (As := [.ref (ka_a G (0, o2, 0))]) (rest := []) C0 hK hP hS hl (km_X4_copyFrom l hI (Nat.add_lt_add_right (vp_lt b1) 4) ho2 hq) kd_X4_copyFrom kq_866 (kv_p (by decide) (Nat.add_lt_add_right (vp_lt b1) 4)) rfl rfl rfl ⟨rfl, rfl, Nat.le_of_ble_eq_true rfl, Nat.le_of_ble_eq_true rfl⟩ rfl (Nat.le_of_ble_eq_true rfl) dX0_remember_18 ⟨Nat.zero_le _, Nat.zero_le _⟩ (fun σ2 H locs hq hP hS => ?_)
  refine lv_aload_n hx hb dX0_remember_21 rfl (lv_at hl 0 rfl) ?_
  refine kg_X0_count C0 hK hP (kv_s (by decide) (by decide)) kq_221 dX0_remember_22 ?_
  refine lv_bipush (v := 14) hx hb dX0_remember_25 (by decide) ?_
  refine lv_icmp_ge (tgt := 43) hx hb dX0_remember_27 (by decide) (fun hc => ?_) (fun hc => ?_)
  · have hq := hq.1 hc
    refine lv_aload_n hx hb dX0_remember_43 rfl (lv_at hl 0 rfl) ?_
    refine lv_aload_n hx hb dX0_remember_44 rfl (lv_at hl 0 rfl) ?_
    refine kg_X0_oldest C0 hK hP (kv_s (by decide) (by decide)) kq_223 dX0_remember_45 ?_
    refine lv_iconst (v := 1) hx hb dX0_remember_48 (by decide) ?_
    refine lv_iadd hx hb dX0_remember_49 ?_
    refine lv_bipush (v := 14) hx hb dX0_remember_50 (by decide) ?_
    refine lv_irem hx hb dX0_remember_52 (by decide) ?_
    refine kp_X0_oldest C0 hK hI hP hS (kv_s (by decide) (by decide)) kq_223 dX0_remember_53 (fun H locs hP hS => ?_)
    obtain ⟨σ3, eσ3⟩ : ∃ z : ka_S, z = ka_wI σ2 (20, 0, 0) 2 (((σ2.1 (20, 0, 0) 2) + (1 : Int32)) - ((σ2.1 (20, 0, 0) 2) + (1 : Int32)) / (14 : Int32) * (14 : Int32)) := ⟨_, rfl⟩
    rw [← eσ3] at hP
    have hq := hq σ3 eσ3
    exact kr_vret C0 hK hP hS hq dX0_remember_56
  · have hq := hq.2 hc
    refine lv_aload_n hx hb dX0_remember_30 rfl (lv_at hl 0 rfl) ?_
    refine lv_dup hx hb dX0_remember_31 rfl ?_
    refine kg_X0_count C0 hK hP (kv_s (by decide) (by decide)) kq_221 dX0_remember_32 ?_
    refine lv_iconst (v := 1) hx hb dX0_remember_35 (by decide) ?_
    refine lv_iadd hx hb dX0_remember_36 ?_
    refine kp_X0_count C0 hK hI hP hS (kv_s (by decide) (by decide)) kq_221 dX0_remember_37 (fun H locs hP hS => ?_)
    obtain ⟨σ4, eσ4⟩ : ∃ z : ka_S, z = ka_wI σ2 (20, 0, 0) 1 ((σ2.1 (20, 0, 0) 1) + (1 : Int32)) := ⟨_, rfl⟩
    rw [← eσ4] at hP
    have hq := hq σ4 eσ4
    refine lv_goto (tgt := 56) hx hb dX0_remember_40 (by decide) ?_
    exact kr_vret C0 hK hP hS hq dX0_remember_56
/-! GlossRows$History.takeBack(LGlossRows$Page;)V -/
def rm_X0_takeBack : Room := { frames := 2, cells := 0, slots := 0, locals := 44 }
def kw_X0_takeBack (σ : ka_S) (o2 : Nat) (Q : ka_S → Prop) : Prop := ((σ.1 (20, 0, 0) 1) ≤ (0 : Int32) → Q σ) ∧
  (¬ (σ.1 (20, 0, 0) 1) ≤ (0 : Int32) → ∀ σ1 : ka_S, σ1 = ka_wI σ (20, 0, 0) 1 ((σ.1 (20, 0, 0) 1) - (1 : Int32)) →
    vp_in (((σ1.1 (20, 0, 0) 2) + (σ1.1 (20, 0, 0) 1)) - ((σ1.1 (20, 0, 0) 2) + (σ1.1 (20, 0, 0) 1)) / (14 : Int32) * (14 : Int32)) 14 ∧
    kw_X4_copyFrom σ1 o2 ((((σ1.1 (20, 0, 0) 2) + (σ1.1 (20, 0, 0) 1)) - ((σ1.1 (20, 0, 0) 2) + (σ1.1 (20, 0, 0) 1)) / (14 : Int32) * (14 : Int32)).toNatClampNeg + 4) (fun σ3 => 
    Q σ3))
set_option maxHeartbeats 4000000 in
set_option maxRecDepth 100000 in
theorem km_X0_takeBack (l : Launch) {G : ka_G} (hI : ka_I G) {o2 : Nat} (ho2 : o2 < 18) {σ : ka_S} {Q : ka_S → Prop} (hq : kw_X0_takeBack σ o2 Q) : kc_v l yX0_takeBack (kw_ yX0_takeBack cX0_takeBack 2 none) rm_X0_takeBack G [.ref (ka_a G (20, 0, 0)), .ref (ka_a G (0, o2, 0))] σ Q := by
  refine ka_of "GlossRows$History" rfl (by decide) (Nat.le_of_ble_eq_true rfl) ?_
  intro p e s m below meth c C0 hK H locs hP hS ls hl
  obtain ⟨hx, hb, -, hml, hown, hts, -⟩ := id C0
  have hl : lv_has ls 2 [(0, .ref (ka_a G (20, 0, 0))), (1, .ref (ka_a G (0, o2, 0)))] := hl
  unfold kw_X0_takeBack at hq
  refine lv_aload_n hx hb dX0_takeBack_0 rfl (lv_at hl 0 rfl) ?_
  refine kg_X0_count C0 hK hP (kv_s (by decide) (by decide)) kq_221 dX0_takeBack_1 ?_
  refine lv_if_le (tgt := 38) hx hb dX0_takeBack_4 (by decide) (fun hc => ?_) (fun hc => ?_)
  · have hq := hq.1 hc
    exact kr_vret C0 hK hP hS hq dX0_takeBack_38
  · have hq := hq.2 hc
    refine lv_aload_n hx hb dX0_takeBack_7 rfl (lv_at hl 0 rfl) ?_
    refine lv_dup hx hb dX0_takeBack_8 rfl ?_
    refine kg_X0_count C0 hK hP (kv_s (by decide) (by decide)) kq_221 dX0_takeBack_9 ?_
    refine lv_iconst (v := 1) hx hb dX0_takeBack_12 (by decide) ?_
    refine lv_isub hx hb dX0_takeBack_13 ?_
    refine kp_X0_count C0 hK hI hP hS (kv_s (by decide) (by decide)) kq_221 dX0_takeBack_14 (fun H locs hP hS => ?_)
    obtain ⟨σ1, eσ1⟩ : ∃ z : ka_S, z = ka_wI σ (20, 0, 0) 1 ((σ.1 (20, 0, 0) 1) - (1 : Int32)) := ⟨_, rfl⟩
    rw [← eσ1] at hP
    have hq := hq σ1 eσ1
    refine lv_aload_n hx hb dX0_takeBack_17 rfl (lv_at hl 1 rfl) ?_
    refine lv_aload_n hx hb dX0_takeBack_18 rfl (lv_at hl 0 rfl) ?_
    refine kg_X0_pages C0 hK hP (kv_s (by decide) (by decide)) kq_220 dX0_takeBack_19 ?_
    refine lv_aload_n hx hb dX0_takeBack_22 rfl (lv_at hl 0 rfl) ?_
    refine kg_X0_oldest C0 hK hP (kv_s (by decide) (by decide)) kq_223 dX0_takeBack_23 ?_
    refine lv_aload_n hx hb dX0_takeBack_26 rfl (lv_at hl 0 rfl) ?_
    refine kg_X0_count C0 hK hP (kv_s (by decide) (by decide)) kq_221 dX0_takeBack_27 ?_
    refine lv_iadd hx hb dX0_takeBack_30 ?_
    refine lv_bipush (v := 14) hx hb dX0_takeBack_31 (by decide) ?_
    refine lv_irem hx hb dX0_takeBack_33 (by decide) ?_
    obtain ⟨b2, hq⟩ := hq
    refine kr_aald (t := 4) C0 hK hP (kv_s (by decide) (by decide)) rfl rfl b2 rfl dX0_takeBack_34 ?_
    refine kr_Vv (k := (0, o2, 0)) (As := [.ref (ka_a G (0, ((((σ1.1 (20, 0, 0) 2) + (σ1.1 (20, 0, 0) 1)) - ((σ1.1 (20, 0, 0) 2) + (σ1.1 (20, 0, 0) 1)) / (14 : Int32) * (14 : Int32)).toNatClampNeg + 4), 0))]) (rest := []) C0 hK hP hS hl (km_X4_copyFrom l hI ho2 (Nat.add_lt_add_right (vp_lt b2) 4) hq) kd_X4_copyFrom kq_866 (kv_p (by decide) ho2) rfl rfl rfl ⟨rfl, rfl, Nat.le_of_ble_eq_true rfl, Nat.le_of_ble_eq_true rfl⟩ rfl (Nat.le_of_ble_eq_true rfl) dX0_takeBack_35 ⟨Nat.zero_le _, Nat.zero_le _⟩ (fun σ3 H locs hq hP hS => ?_)
    exact kr_vret C0 hK hP hS hq dX0_takeBack_38
/-! GlossRows$Layout.measure(LGlossRows$Page;I)V -/
def rm_X1_measure : Room := { frames := 4, cells := 0, slots := 0, locals := 92 }
def kw_X1_measure_2 (o2 : Nat) (Q : ka_S → Prop) : Nat → ka_S → Int32 → Int32 → Prop
  | 0, _, _, _ => False
  | n + 1, σ, v2, v3 => ((σ.1 (0, o2, 0) 2) ≤ v3 → Q σ) ∧
    (¬ (σ.1 (0, o2, 0) 2) ≤ v3 → vp_in v3 12 ∧
      kw_X7_width σ o2 v3.toNatClampNeg v2 (fun r4 σ3 => 
      vp_in v3 12 ∧
      ∀ σ6 : ka_S, σ6 = ka_wI σ3 (16, 0, 0) v3.toNatClampNeg r4 →
      ∀ x7 : Int32, x7 = v3 + (1 : Int32) →
      (kw_X1_measure_2 o2 Q n) σ6 v2 x7))
def kw_X1_measure (σ : ka_S) (o2 : Nat) (v2 : Int32) (Q : ka_S → Prop) : Prop := ∃ n1 : Nat, kw_X1_measure_2 o2 Q n1 σ v2 (0 : Int32)
set_option maxHeartbeats 4000000 in
set_option maxRecDepth 100000 in
theorem kb_X1_measure_2 {p : Program} {l : Launch} {e : Env} {s : State} {m : MethodId} {args : Array Value} {below : List Frame} {meth : Method} {c : Code} {G : ka_G} (hI : ka_I G) {o2 : Nat} (ho2 : o2 < 18) (C0 : ka_C p s m args meth c cX1_measure 4 "GlossRows$Layout" none) (hK : ka_Kn G s) {Q : ka_S → Prop} : ∀ (n : Nat) (σ : ka_S) (v2 : Int32) (v3 : Int32), kw_X1_measure_2 o2 Q n σ v2 v3 → ∀ (H : Heap) (locs : List Loc), ka_P G σ H → va_S (ka_A G) s.heap H locs → ∀ ls : Array Slot, lv_has ls 4 [(0, .ref (ka_a G (12, 0, 0))), (1, .ref (ka_a G (0, o2, 0))), (2, .int v2), (3, .int v3)] → W p l e rm_X1_measure s m args below meth c H locs 0 0 (MQ below (va_Qv Q (ka_B G) (ka_A G)) args s 0 0 (ka_A G)) (F0 m 2 ls []) := by
  obtain ⟨hx, hb, -, hml, hown, hts, -⟩ := id C0
  intro n
  induction n with
  | zero =>
    intro σ v2 v3 hq
    rw [kw_X1_measure_2] at hq
    exact hq.elim
  | succ n ih =>
    intro σ v2 v3 hq H locs hP hS ls hl
    rw [kw_X1_measure_2] at hq
    refine lv_iload_n hx hb dX1_measure_2 rfl (lv_at hl 3 rfl) ?_
    refine lv_aload_n hx hb dX1_measure_3 rfl (lv_at hl 1 rfl) ?_
    refine kg_X4_count C0 hK hP (kv_p (by decide) ho2) kq_154 dX1_measure_4 ?_
    refine lv_icmp_ge (tgt := 32) hx hb dX1_measure_7 (by decide) (fun hc => ?_) (fun hc => ?_)
    · have hq := hq.1 hc
      exact kr_vret C0 hK hP hS hq dX1_measure_32
    · have hq := hq.2 hc
      refine lv_aload_n hx hb dX1_measure_10 rfl (lv_at hl 0 rfl) ?_
      refine kg_X1_widths C0 hK hP (kv_s (by decide) (by decide)) kq_194 dX1_measure_11 ?_
      refine lv_iload_n hx hb dX1_measure_14 rfl (lv_at hl 3 rfl) ?_
      refine lv_aload_n hx hb dX1_measure_15 rfl (lv_at hl 1 rfl) ?_
      refine kg_X4_words C0 hK hP (kv_p (by decide) ho2) kq_149 dX1_measure_16 ?_
      refine lv_iload_n hx hb dX1_measure_19 rfl (lv_at hl 3 rfl) ?_
      obtain ⟨b2, hq⟩ := hq
      refine kr_aald (t := 3) C0 hK hP (kv_p (by decide) ho2) rfl rfl b2 rfl dX1_measure_20 ?_
      refine lv_iload_n hx hb dX1_measure_21 rfl (lv_at hl 2 rfl) ?_
      refine kr_Vi (k := (5, o2, v3.toNatClampNeg)) (As := [.int v2]) (rest := [.int v3, .ref (ka_a G (16, 0, 0))]) C0 hK hP hS hl (km_X7_width l hI (k_19 ho2) (vp_lt b2) hq) kd_X7_width kq_510 (kv_w (by decide) (by decide) (k_19 ho2) (vp_lt b2)) rfl rfl rfl ⟨rfl, rfl, Nat.le_of_ble_eq_true rfl, Nat.le_of_ble_eq_true rfl⟩ rfl (Nat.le_of_ble_eq_true rfl) dX1_measure_22 ⟨Nat.zero_le _, Nat.zero_le _⟩ (fun r4 σ3 H locs hq hP hS => ?_)
      obtain ⟨b5, hq⟩ := hq
      refine kr_iast C0 hK hI hP hS (kv_s (by decide) (by decide)) (fun _ => rfl) b5 dX1_measure_25 (fun H locs hP hS => ?_)
      obtain ⟨σ6, eσ6⟩ : ∃ z : ka_S, z = ka_wI σ3 (16, 0, 0) v3.toNatClampNeg r4 := ⟨_, rfl⟩
      rw [← eσ6] at hP
      have hq := hq σ6 eσ6
      obtain ⟨x7, ex7⟩ : ∃ y : Int32, y = v3 + (1 : Int32) := ⟨_, rfl⟩
      have hq := hq x7 ex7
      refine lv_iinc (v := x7) (lv' := [(3, .int x7), (0, .ref (ka_a G (12, 0, 0))), (1, .ref (ka_a G (0, o2, 0))), (2, .int v2)]) hx hb dX1_measure_26 hl (k := 3) rfl (by rw [ex7]; rfl) (by decide) rfl (fun ls hl => ?_)
      refine lv_goto (tgt := 2) hx hb dX1_measure_29 (by decide) ?_
      exact ih σ6 v2 x7 hq H locs hP hS ls (lv_sub hl [1, 2, 3, 0] rfl)
set_option maxHeartbeats 4000000 in
set_option maxRecDepth 100000 in
theorem km_X1_measure (l : Launch) {G : ka_G} (hI : ka_I G) {o2 : Nat} (ho2 : o2 < 18) {σ : ka_S} {v2 : Int32} {Q : ka_S → Prop} (hq : kw_X1_measure σ o2 v2 Q) : kc_v l yX1_measure (kw_ yX1_measure cX1_measure 4 none) rm_X1_measure G [.ref (ka_a G (12, 0, 0)), .ref (ka_a G (0, o2, 0)), .int v2] σ Q := by
  refine ka_of "GlossRows$Layout" rfl (by decide) (Nat.le_of_ble_eq_true rfl) ?_
  intro p e s m below meth c C0 hK H locs hP hS ls hl
  obtain ⟨hx, hb, -, hml, hown, hts, -⟩ := id C0
  have hl : lv_has ls 4 [(0, .ref (ka_a G (12, 0, 0))), (1, .ref (ka_a G (0, o2, 0))), (2, .int v2)] := hl
  unfold kw_X1_measure at hq
  refine lv_iconst (v := 0) hx hb dX1_measure_0 (by decide) ?_
  refine lv_istore_n (lv' := [(3, .int (0 : Int32)), (0, .ref (ka_a G (12, 0, 0))), (1, .ref (ka_a G (0, o2, 0))), (2, .int v2)]) hx hb dX1_measure_1 rfl hl (by decide) rfl (fun ls hl => ?_)
  obtain ⟨n1, hq⟩ := hq
  exact kb_X1_measure_2 hI ho2 C0 hK n1 σ v2 (0 : Int32) hq H locs hP hS ls (lv_sub hl [1, 2, 3, 0] rfl)
/-! GlossRows$Layout.rowsOfFree(II)I -/
def rm_X1_rowsOfFree : Room := { frames := 0, cells := 0, slots := 0, locals := 0 }
def kw_X1_rowsOfFree (σ : ka_S) (v0 : Int32) (v1 : Int32) (Q : Int32 → ka_S → Prop) : Prop := ((1 : Int32) ≤ v1 → ¬ v1 = 0 ∧
    Q (((v0 + v1) - (1 : Int32)) / v1) σ) ∧
  (¬ (1 : Int32) ≤ v1 → Q (0 : Int32) σ)
set_option maxHeartbeats 4000000 in
set_option maxRecDepth 100000 in
theorem km_X1_rowsOfFree (l : Launch) {G : ka_G} (hI : ka_I G) {σ : ka_S} {v0 : Int32} {v1 : Int32} {Q : Int32 → ka_S → Prop} (hq : kw_X1_rowsOfFree σ v0 v1 Q) : kc_i l yX1_rowsOfFree (kw_ yX1_rowsOfFree cX1_rowsOfFree 2 (some .int)) rm_X1_rowsOfFree G [.int v0, .int v1] σ Q := by
  refine ka_of "GlossRows$Layout" rfl (by decide) (Nat.le_of_ble_eq_true rfl) ?_
  intro p e s m below meth c C0 hK H locs hP hS ls hl
  obtain ⟨hx, hb, -, hml, hown, hts, -⟩ := id C0
  have hl : lv_has ls 2 [(0, .int v0), (1, .int v1)] := hl
  unfold kw_X1_rowsOfFree at hq
  refine lv_iload_n hx hb dX1_rowsOfFree_0 rfl (lv_at hl 1 rfl) ?_
  refine lv_iconst (v := 1) hx hb dX1_rowsOfFree_1 (by decide) ?_
  refine lv_icmp_ge (tgt := 9) hx hb dX1_rowsOfFree_2 (by decide) (fun hc => ?_) (fun hc => ?_)
  · have hq := hq.1 hc
    refine lv_iload_n hx hb dX1_rowsOfFree_9 rfl (lv_at hl 0 rfl) ?_
    refine lv_iload_n hx hb dX1_rowsOfFree_10 rfl (lv_at hl 1 rfl) ?_
    refine lv_iadd hx hb dX1_rowsOfFree_11 ?_
    refine lv_iconst (v := 1) hx hb dX1_rowsOfFree_12 (by decide) ?_
    refine lv_isub hx hb dX1_rowsOfFree_13 ?_
    refine lv_iload_n hx hb dX1_rowsOfFree_14 rfl (lv_at hl 1 rfl) ?_
    obtain ⟨hne, hq⟩ := hq
    refine lv_idiv hx hb dX1_rowsOfFree_15 hne ?_
    exact kr_iret C0 hK hP hS hq dX1_rowsOfFree_16
  · have hq := hq.2 hc
    refine lv_iconst (v := 0) hx hb dX1_rowsOfFree_5 (by decide) ?_
    refine lv_goto (tgt := 16) hx hb dX1_rowsOfFree_6 (by decide) ?_
    exact kr_iret C0 hK hP hS hq dX1_rowsOfFree_16
/-! GlossRows$Layout.wrap(LGlossRows$Page;I)V -/
def rm_X1_wrap : Room := { frames := 1, cells := 0, slots := 0, locals := 21 }
def kw_X1_wrap_80 (o2 : Nat) (K21 : ka_S → Int32 → Int32 → Int32 → Int32 → Int32 → Prop) (Q : ka_S → Prop) (σ : ka_S) (v2 : Int32) (v4 : Int32) (v6 : Int32) (v7 : Int32) : Prop := vp_in v6 12 ∧
  ∀ σ9 : ka_S, σ9 = ka_wI σ (13, 0, 0) v6.toNatClampNeg ((σ.1 (12, 0, 0) 3) - (1 : Int32)) →
  vp_in v6 12 ∧
  ∀ σ11 : ka_S, σ11 = ka_wI σ9 (14, 0, 0) v6.toNatClampNeg v7 →
  vp_in v6 12 ∧
  ∀ σ13 : ka_S, σ13 = ka_wI σ11 (15, 0, 0) v6.toNatClampNeg v4 →
  vp_in v6 12 ∧
  ∀ σ15 : ka_S, σ15 = ka_wI σ13 (17, 0, 0) v6.toNatClampNeg ((σ13.1 (12, 0, 0) 4) - (2 : Int32)) →
  vp_in v6 12 ∧
  ∀ x17 : Int32, x17 = (v7 + (σ15.1 (16, 0, 0) v6.toNatClampNeg)) → 
  vp_in v6 12 ∧
  ∀ x19 : Int32, x19 = (σ15.1 (5, o2, v6.toNatClampNeg) 6) → 
  (x19 = (0 : Int32) → ∀ x20 : Int32, x20 = v6 + (1 : Int32) →
    K21 σ15 v2 x17 v4 x19 x20) ∧
  (¬ x19 = (0 : Int32) → ∀ x21 : Int32, x21 = v4 + (1 : Int32) →
    vp_in v6 12 ∧
    kw_X1_rowsOfFree σ15 (σ15.1 (5, o2, v6.toNatClampNeg) 5) v2 (fun r24 σ23 => 
    ∀ σ25 : ka_S, σ25 = ka_wI σ23 (12, 0, 0) 4 ((σ15.1 (12, 0, 0) 4) + r24) →
    ∀ x26 : Int32, x26 = v6 + (1 : Int32) →
    K21 σ25 v2 x17 x21 x19 x26))
def kw_X1_wrap_57 (o2 : Nat) (K21 : ka_S → Int32 → Int32 → Int32 → Int32 → Int32 → Prop) (Q : ka_S → Prop) (σ : ka_S) (v2 : Int32) (v4 : Int32) (v6 : Int32) : Prop := ∀ σ6 : ka_S, σ6 = ka_wI σ (12, 0, 0) 3 ((σ.1 (12, 0, 0) 3) + (1 : Int32)) →
  ∀ σ7 : ka_S, σ7 = ka_wI σ6 (12, 0, 0) 4 ((σ6.1 (12, 0, 0) 4) + (2 : Int32)) →
  kw_X1_wrap_80 o2 K21 Q σ7 v2 v4 v6 (0 : Int32)
def kw_X1_wrap_21 (o2 : Nat) (Q : ka_S → Prop) : Nat → ka_S → Int32 → Int32 → Int32 → Int32 → Int32 → Prop
  | 0, _, _, _, _, _, _ => False
  | n + 1, σ, v2, v3, v4, v5, v6 => ((σ.1 (0, o2, 0) 2) ≤ v6 → Q σ) ∧
    (¬ (σ.1 (0, o2, 0) 2) ≤ v6 → ∀ x4 : Int32, x4 = (v3 + (σ.1 (0, o2, 0) 4)) → 
      (v5 = (0 : Int32) → vp_in v6 12 ∧
        ((x4 + (σ.1 (16, 0, 0) v6.toNatClampNeg)) ≤ v2 → kw_X1_wrap_80 o2 (kw_X1_wrap_21 o2 Q n) Q σ v2 v4 v6 x4) ∧
        (¬ (x4 + (σ.1 (16, 0, 0) v6.toNatClampNeg)) ≤ v2 → kw_X1_wrap_57 o2 (kw_X1_wrap_21 o2 Q n) Q σ v2 v4 v6)) ∧
      (¬ v5 = (0 : Int32) → kw_X1_wrap_57 o2 (kw_X1_wrap_21 o2 Q n) Q σ v2 v4 v6))
def kw_X1_wrap (σ : ka_S) (o2 : Nat) (v2 : Int32) (Q : ka_S → Prop) : Prop := ∀ σ1 : ka_S, σ1 = ka_wI σ (12, 0, 0) 3 (0 : Int32) →
  ∀ σ2 : ka_S, σ2 = ka_wI σ1 (12, 0, 0) 4 (0 : Int32) →
  ∃ n3 : Nat, kw_X1_wrap_21 o2 Q n3 σ2 v2 (0 : Int32) (0 : Int32) (1 : Int32) (0 : Int32)
set_option maxHeartbeats 4000000 in
set_option maxRecDepth 100000 in
theorem kb_X1_wrap_80 {p : Program} {l : Launch} {e : Env} {s : State} {m : MethodId} {args : Array Value} {below : List Frame} {meth : Method} {c : Code} {G : ka_G} (hI : ka_I G) {o2 : Nat} (ho2 : o2 < 18) (C0 : ka_C p s m args meth c cX1_wrap 8 "GlossRows$Layout" none) (hK : ka_Kn G s) {Q : ka_S → Prop} {K21 : ka_S → Int32 → Int32 → Int32 → Int32 → Int32 → Prop} (hk21 : ∀ (σ : ka_S) (v2 : Int32) (v3 : Int32) (v4 : Int32) (v5 : Int32) (v6 : Int32), K21 σ v2 v3 v4 v5 v6 → ∀ (H : Heap) (locs : List Loc), ka_P G σ H → va_S (ka_A G) s.heap H locs → ∀ ls : Array Slot, lv_has ls 8 [(0, .ref (ka_a G (12, 0, 0))), (1, .ref (ka_a G (0, o2, 0))), (2, .int v2), (3, .int v3), (4, .int v4), (5, .int v5), (6, .int v6)] → W p l e rm_X1_wrap s m args below meth c H locs 0 0 (MQ below (va_Qv Q (ka_B G) (ka_A G)) args s 0 0 (ka_A G)) (F0 m 21 ls [])) : ∀ (σ : ka_S) (v2 : Int32) (v4 : Int32) (v6 : Int32) (v7 : Int32), kw_X1_wrap_80 o2 K21 Q σ v2 v4 v6 v7 → ∀ (H : Heap) (locs : List Loc), ka_P G σ H → va_S (ka_A G) s.heap H locs → ∀ ls : Array Slot, lv_has ls 8 [(0, .ref (ka_a G (12, 0, 0))), (1, .ref (ka_a G (0, o2, 0))), (2, .int v2), (4, .int v4), (6, .int v6), (7, .int v7)] → W p l e rm_X1_wrap s m args below meth c H locs 0 0 (MQ below (va_Qv Q (ka_B G) (ka_A G)) args s 0 0 (ka_A G)) (F0 m 80 ls []) := by
  obtain ⟨hx, hb, -, hml, hown, hts, -⟩ := id C0
  intro σ v2 v4 v6 v7 hq H locs hP hS ls hl
  unfold kw_X1_wrap_80 at hq
  refine lv_aload_n hx hb dX1_wrap_80 rfl (lv_at hl 0 rfl) ?_
  refine kg_X1_lines C0 hK hP (kv_s (by decide) (by decide)) kq_184 dX1_wrap_81 ?_
  refine lv_iload hx hb dX1_wrap_84 (lv_at hl 4 rfl) ?_
  refine lv_aload_n hx hb dX1_wrap_86 rfl (lv_at hl 0 rfl) ?_
  refine kg_X1_lineCount C0 hK hP (kv_s (by decide) (by decide)) kq_190 dX1_wrap_87 ?_
  refine lv_iconst (v := 1) hx hb dX1_wrap_90 (by decide) ?_
  refine lv_isub hx hb dX1_wrap_91 ?_
  obtain ⟨b8, hq⟩ := hq
  refine kr_iast C0 hK hI hP hS (kv_s (by decide) (by decide)) (fun _ => rfl) b8 dX1_wrap_92 (fun H locs hP hS => ?_)
  obtain ⟨σ9, eσ9⟩ : ∃ z : ka_S, z = ka_wI σ (13, 0, 0) v6.toNatClampNeg ((σ.1 (12, 0, 0) 3) - (1 : Int32)) := ⟨_, rfl⟩
  rw [← eσ9] at hP
  have hq := hq σ9 eσ9
  refine lv_aload_n hx hb dX1_wrap_93 rfl (lv_at hl 0 rfl) ?_
  refine kg_X1_columns C0 hK hP (kv_s (by decide) (by decide)) kq_186 dX1_wrap_94 ?_
  refine lv_iload hx hb dX1_wrap_97 (lv_at hl 4 rfl) ?_
  refine lv_iload hx hb dX1_wrap_99 (lv_at hl 5 rfl) ?_
  obtain ⟨b10, hq⟩ := hq
  refine kr_iast C0 hK hI hP hS (kv_s (by decide) (by decide)) (fun _ => rfl) b10 dX1_wrap_101 (fun H locs hP hS => ?_)
  obtain ⟨σ11, eσ11⟩ : ∃ z : ka_S, z = ka_wI σ9 (14, 0, 0) v6.toNatClampNeg v7 := ⟨_, rfl⟩
  rw [← eσ11] at hP
  have hq := hq σ11 eσ11
  refine lv_aload_n hx hb dX1_wrap_102 rfl (lv_at hl 0 rfl) ?_
  refine kg_X1_sentences C0 hK hP (kv_s (by decide) (by decide)) kq_188 dX1_wrap_103 ?_
  refine lv_iload hx hb dX1_wrap_106 (lv_at hl 4 rfl) ?_
  refine lv_iload hx hb dX1_wrap_108 (lv_at hl 3 rfl) ?_
  obtain ⟨b12, hq⟩ := hq
  refine kr_iast C0 hK hI hP hS (kv_s (by decide) (by decide)) (fun _ => rfl) b12 dX1_wrap_110 (fun H locs hP hS => ?_)
  obtain ⟨σ13, eσ13⟩ : ∃ z : ka_S, z = ka_wI σ11 (15, 0, 0) v6.toNatClampNeg v4 := ⟨_, rfl⟩
  rw [← eσ13] at hP
  have hq := hq σ13 eσ13
  refine lv_aload_n hx hb dX1_wrap_111 rfl (lv_at hl 0 rfl) ?_
  refine kg_X1_firstRows C0 hK hP (kv_s (by decide) (by decide)) kq_195 dX1_wrap_112 ?_
  refine lv_iload hx hb dX1_wrap_115 (lv_at hl 4 rfl) ?_
  refine lv_aload_n hx hb dX1_wrap_117 rfl (lv_at hl 0 rfl) ?_
  refine kg_X1_rowCount C0 hK hP (kv_s (by decide) (by decide)) kq_192 dX1_wrap_118 ?_
  refine lv_iconst (v := 2) hx hb dX1_wrap_121 (by decide) ?_
  refine lv_isub hx hb dX1_wrap_122 ?_
  obtain ⟨b14, hq⟩ := hq
  refine kr_iast C0 hK hI hP hS (kv_s (by decide) (by decide)) (fun _ => rfl) b14 dX1_wrap_123 (fun H locs hP hS => ?_)
  obtain ⟨σ15, eσ15⟩ : ∃ z : ka_S, z = ka_wI σ13 (17, 0, 0) v6.toNatClampNeg ((σ13.1 (12, 0, 0) 4) - (2 : Int32)) := ⟨_, rfl⟩
  rw [← eσ15] at hP
  have hq := hq σ15 eσ15
  refine lv_iload hx hb dX1_wrap_124 (lv_at hl 5 rfl) ?_
  refine lv_aload_n hx hb dX1_wrap_126 rfl (lv_at hl 0 rfl) ?_
  refine kg_X1_widths C0 hK hP (kv_s (by decide) (by decide)) kq_194 dX1_wrap_127 ?_
  refine lv_iload hx hb dX1_wrap_130 (lv_at hl 4 rfl) ?_
  obtain ⟨b16, hq⟩ := hq
  refine kr_iald C0 hK hP (kv_s (by decide) (by decide)) rfl b16 dX1_wrap_132 ?_
  refine lv_iadd hx hb dX1_wrap_133 ?_
  refine lv_topi (fun x17 ex17 => ?_)
  have hq := hq x17 ex17
  refine lv_istore_n (lv' := [(3, .int x17), (0, .ref (ka_a G (12, 0, 0))), (1, .ref (ka_a G (0, o2, 0))), (2, .int v2), (4, .int v4), (6, .int v6), (7, .int v7)]) hx hb dX1_wrap_134 rfl hl (by decide) rfl (fun ls hl => ?_)
  refine lv_aload_n hx hb dX1_wrap_135 rfl (lv_at hl 2 rfl) ?_
  refine kg_X4_words C0 hK hP (kv_p (by decide) ho2) kq_149 dX1_wrap_136 ?_
  refine lv_iload hx hb dX1_wrap_139 (lv_at hl 5 rfl) ?_
  obtain ⟨b18, hq⟩ := hq
  refine kr_aald (t := 3) C0 hK hP (kv_p (by decide) ho2) rfl rfl b18 rfl dX1_wrap_141 ?_
  refine kg_X7_ended C0 hK hP (kv_w (by decide) (by decide) (k_19 ho2) (vp_lt b18)) kq_77 dX1_wrap_142 ?_
  refine lv_topi (fun x19 ex19 => ?_)
  have hq := hq x19 ex19
  refine lv_istore (lv' := [(5, .int x19), (3, .int x17), (0, .ref (ka_a G (12, 0, 0))), (1, .ref (ka_a G (0, o2, 0))), (2, .int v2), (4, .int v4), (6, .int v6), (7, .int v7)]) hx hb dX1_wrap_145 hl (by decide) rfl (fun ls hl => ?_)
  refine lv_iload hx hb dX1_wrap_147 (lv_at hl 0 rfl) ?_
  refine lv_if_eq (tgt := 178) hx hb dX1_wrap_149 (by decide) (fun hc => ?_) (fun hc => ?_)
  · have hq := hq.1 hc
    obtain ⟨x20, ex20⟩ : ∃ y : Int32, y = v6 + (1 : Int32) := ⟨_, rfl⟩
    have hq := hq x20 ex20
    refine lv_iinc (v := x20) (lv' := [(6, .int x20), (5, .int x19), (3, .int x17), (0, .ref (ka_a G (12, 0, 0))), (1, .ref (ka_a G (0, o2, 0))), (2, .int v2), (4, .int v4), (7, .int v7)]) hx hb dX1_wrap_178 hl (k := 6) rfl (by rw [ex20]; rfl) (by decide) rfl (fun ls hl => ?_)
    refine lv_goto (tgt := 21) hx hb dX1_wrap_181 (by decide) ?_
    exact hk21 σ15 v2 x17 v4 x19 x20 hq H locs hP hS ls (lv_sub hl [3, 4, 5, 2, 6, 1, 0] rfl)
  · have hq := hq.2 hc
    obtain ⟨x21, ex21⟩ : ∃ y : Int32, y = v4 + (1 : Int32) := ⟨_, rfl⟩
    have hq := hq x21 ex21
    refine lv_iinc (v := x21) (lv' := [(4, .int x21), (5, .int x19), (3, .int x17), (0, .ref (ka_a G (12, 0, 0))), (1, .ref (ka_a G (0, o2, 0))), (2, .int v2), (6, .int v6), (7, .int v7)]) hx hb dX1_wrap_152 hl (k := 5) rfl (by rw [ex21]; rfl) (by decide) rfl (fun ls hl => ?_)
    refine lv_aload_n hx hb dX1_wrap_155 rfl (lv_at hl 3 rfl) ?_
    refine lv_dup hx hb dX1_wrap_156 rfl ?_
    refine kg_X1_rowCount C0 hK hP (kv_s (by decide) (by decide)) kq_192 dX1_wrap_157 ?_
    refine lv_aload_n hx hb dX1_wrap_160 rfl (lv_at hl 4 rfl) ?_
    refine kg_X4_words C0 hK hP (kv_p (by decide) ho2) kq_149 dX1_wrap_161 ?_
    refine lv_iload hx hb dX1_wrap_164 (lv_at hl 6 rfl) ?_
    obtain ⟨b22, hq⟩ := hq
    refine kr_aald (t := 3) C0 hK hP (kv_p (by decide) ho2) rfl rfl b22 rfl dX1_wrap_166 ?_
    refine kg_X7_freeLength C0 hK hP (kv_w (by decide) (by decide) (k_19 ho2) (vp_lt b22)) kq_74 dX1_wrap_167 ?_
    refine lv_iload_n hx hb dX1_wrap_170 rfl (lv_at hl 5 rfl) ?_
    refine kr_Si (As := [.int (σ15.1 (5, o2, v6.toNatClampNeg) 5), .int v2]) (rest := [.int (σ15.1 (12, 0, 0) 4), .ref (ka_a G (12, 0, 0))]) C0 hK hP hS hl (km_X1_rowsOfFree l hI hq) kd_X1_rowsOfFree kq_527 ⟨rfl, rfl, Nat.le_of_ble_eq_true rfl, Nat.le_of_ble_eq_true rfl⟩ rfl (Nat.le_of_ble_eq_true rfl) dX1_wrap_171 ⟨Nat.zero_le _, Nat.zero_le _⟩ (fun r24 σ23 H locs hq hP hS => ?_)
    refine lv_iadd hx hb dX1_wrap_174 ?_
    refine kp_X1_rowCount C0 hK hI hP hS (kv_s (by decide) (by decide)) kq_192 dX1_wrap_175 (fun H locs hP hS => ?_)
    obtain ⟨σ25, eσ25⟩ : ∃ z : ka_S, z = ka_wI σ23 (12, 0, 0) 4 ((σ15.1 (12, 0, 0) 4) + r24) := ⟨_, rfl⟩
    rw [← eσ25] at hP
    have hq := hq σ25 eσ25
    obtain ⟨x26, ex26⟩ : ∃ y : Int32, y = v6 + (1 : Int32) := ⟨_, rfl⟩
    have hq := hq x26 ex26
    refine lv_iinc (v := x26) (lv' := [(6, .int x26), (4, .int x21), (5, .int x19), (3, .int x17), (0, .ref (ka_a G (12, 0, 0))), (1, .ref (ka_a G (0, o2, 0))), (2, .int v2), (7, .int v7)]) hx hb dX1_wrap_178 hl (k := 6) rfl (by rw [ex26]; rfl) (by decide) rfl (fun ls hl => ?_)
    refine lv_goto (tgt := 21) hx hb dX1_wrap_181 (by decide) ?_
    exact hk21 σ25 v2 x17 x21 x19 x26 hq H locs hP hS ls (lv_sub hl [4, 5, 6, 3, 1, 2, 0] rfl)
set_option maxHeartbeats 4000000 in
set_option maxRecDepth 100000 in
theorem kb_X1_wrap_57 {p : Program} {l : Launch} {e : Env} {s : State} {m : MethodId} {args : Array Value} {below : List Frame} {meth : Method} {c : Code} {G : ka_G} (hI : ka_I G) {o2 : Nat} (ho2 : o2 < 18) (C0 : ka_C p s m args meth c cX1_wrap 8 "GlossRows$Layout" none) (hK : ka_Kn G s) {Q : ka_S → Prop} {K21 : ka_S → Int32 → Int32 → Int32 → Int32 → Int32 → Prop} (hk21 : ∀ (σ : ka_S) (v2 : Int32) (v3 : Int32) (v4 : Int32) (v5 : Int32) (v6 : Int32), K21 σ v2 v3 v4 v5 v6 → ∀ (H : Heap) (locs : List Loc), ka_P G σ H → va_S (ka_A G) s.heap H locs → ∀ ls : Array Slot, lv_has ls 8 [(0, .ref (ka_a G (12, 0, 0))), (1, .ref (ka_a G (0, o2, 0))), (2, .int v2), (3, .int v3), (4, .int v4), (5, .int v5), (6, .int v6)] → W p l e rm_X1_wrap s m args below meth c H locs 0 0 (MQ below (va_Qv Q (ka_B G) (ka_A G)) args s 0 0 (ka_A G)) (F0 m 21 ls [])) : ∀ (σ : ka_S) (v2 : Int32) (v4 : Int32) (v6 : Int32), kw_X1_wrap_57 o2 K21 Q σ v2 v4 v6 → ∀ (H : Heap) (locs : List Loc), ka_P G σ H → va_S (ka_A G) s.heap H locs → ∀ ls : Array Slot, lv_has ls 8 [(0, .ref (ka_a G (12, 0, 0))), (1, .ref (ka_a G (0, o2, 0))), (2, .int v2), (4, .int v4), (6, .int v6)] → W p l e rm_X1_wrap s m args below meth c H locs 0 0 (MQ below (va_Qv Q (ka_B G) (ka_A G)) args s 0 0 (ka_A G)) (F0 m 57 ls []) := by
  obtain ⟨hx, hb, -, hml, hown, hts, -⟩ := id C0
  intro σ v2 v4 v6 hq H locs hP hS ls hl
  unfold kw_X1_wrap_57 at hq
  refine lv_iconst (v := 0) hx hb dX1_wrap_57 (by decide) ?_
  refine lv_istore (lv' := [(7, .int (0 : Int32)), (0, .ref (ka_a G (12, 0, 0))), (1, .ref (ka_a G (0, o2, 0))), (2, .int v2), (4, .int v4), (6, .int v6)]) hx hb dX1_wrap_58 hl (by decide) rfl (fun ls hl => ?_)
  refine lv_aload_n hx hb dX1_wrap_60 rfl (lv_at hl 1 rfl) ?_
  refine lv_dup hx hb dX1_wrap_61 rfl ?_
  refine kg_X1_lineCount C0 hK hP (kv_s (by decide) (by decide)) kq_190 dX1_wrap_62 ?_
  refine lv_iconst (v := 1) hx hb dX1_wrap_65 (by decide) ?_
  refine lv_iadd hx hb dX1_wrap_66 ?_
  refine kp_X1_lineCount C0 hK hI hP hS (kv_s (by decide) (by decide)) kq_190 dX1_wrap_67 (fun H locs hP hS => ?_)
  obtain ⟨σ6, eσ6⟩ : ∃ z : ka_S, z = ka_wI σ (12, 0, 0) 3 ((σ.1 (12, 0, 0) 3) + (1 : Int32)) := ⟨_, rfl⟩
  rw [← eσ6] at hP
  have hq := hq σ6 eσ6
  refine lv_aload_n hx hb dX1_wrap_70 rfl (lv_at hl 1 rfl) ?_
  refine lv_dup hx hb dX1_wrap_71 rfl ?_
  refine kg_X1_rowCount C0 hK hP (kv_s (by decide) (by decide)) kq_192 dX1_wrap_72 ?_
  refine lv_iconst (v := 2) hx hb dX1_wrap_75 (by decide) ?_
  refine lv_iadd hx hb dX1_wrap_76 ?_
  refine kp_X1_rowCount C0 hK hI hP hS (kv_s (by decide) (by decide)) kq_192 dX1_wrap_77 (fun H locs hP hS => ?_)
  obtain ⟨σ7, eσ7⟩ : ∃ z : ka_S, z = ka_wI σ6 (12, 0, 0) 4 ((σ6.1 (12, 0, 0) 4) + (2 : Int32)) := ⟨_, rfl⟩
  rw [← eσ7] at hP
  have hq := hq σ7 eσ7
  exact kb_X1_wrap_80 hI ho2 C0 hK hk21 σ7 v2 v4 v6 (0 : Int32) hq H locs hP hS ls (lv_sub hl [1, 2, 3, 4, 5, 0] rfl)
set_option maxHeartbeats 4000000 in
set_option maxRecDepth 100000 in
theorem kb_X1_wrap_21 {p : Program} {l : Launch} {e : Env} {s : State} {m : MethodId} {args : Array Value} {below : List Frame} {meth : Method} {c : Code} {G : ka_G} (hI : ka_I G) {o2 : Nat} (ho2 : o2 < 18) (C0 : ka_C p s m args meth c cX1_wrap 8 "GlossRows$Layout" none) (hK : ka_Kn G s) {Q : ka_S → Prop} : ∀ (n : Nat) (σ : ka_S) (v2 : Int32) (v3 : Int32) (v4 : Int32) (v5 : Int32) (v6 : Int32), kw_X1_wrap_21 o2 Q n σ v2 v3 v4 v5 v6 → ∀ (H : Heap) (locs : List Loc), ka_P G σ H → va_S (ka_A G) s.heap H locs → ∀ ls : Array Slot, lv_has ls 8 [(0, .ref (ka_a G (12, 0, 0))), (1, .ref (ka_a G (0, o2, 0))), (2, .int v2), (3, .int v3), (4, .int v4), (5, .int v5), (6, .int v6)] → W p l e rm_X1_wrap s m args below meth c H locs 0 0 (MQ below (va_Qv Q (ka_B G) (ka_A G)) args s 0 0 (ka_A G)) (F0 m 21 ls []) := by
  obtain ⟨hx, hb, -, hml, hown, hts, -⟩ := id C0
  intro n
  induction n with
  | zero =>
    intro σ v2 v3 v4 v5 v6 hq
    rw [kw_X1_wrap_21] at hq
    exact hq.elim
  | succ n ih =>
    intro σ v2 v3 v4 v5 v6 hq H locs hP hS ls hl
    rw [kw_X1_wrap_21] at hq
    refine lv_iload hx hb dX1_wrap_21 (lv_at hl 6 rfl) ?_
    refine lv_aload_n hx hb dX1_wrap_23 rfl (lv_at hl 1 rfl) ?_
    refine kg_X4_count C0 hK hP (kv_p (by decide) ho2) kq_154 dX1_wrap_24 ?_
    refine lv_icmp_ge (tgt := 184) hx hb dX1_wrap_27 (by decide) (fun hc => ?_) (fun hc => ?_)
    · have hq := hq.1 hc
      exact kr_vret C0 hK hP hS hq dX1_wrap_184
    · have hq := hq.2 hc
      refine lv_iload_n hx hb dX1_wrap_30 rfl (lv_at hl 3 rfl) ?_
      refine lv_aload_n hx hb dX1_wrap_31 rfl (lv_at hl 1 rfl) ?_
      refine kg_X4_space C0 hK hP (kv_p (by decide) ho2) kq_160 dX1_wrap_32 ?_
      refine lv_iadd hx hb dX1_wrap_35 ?_
      refine lv_topi (fun x4 ex4 => ?_)
      have hq := hq x4 ex4
      refine lv_istore (lv' := [(7, .int x4), (0, .ref (ka_a G (12, 0, 0))), (1, .ref (ka_a G (0, o2, 0))), (2, .int v2), (3, .int v3), (4, .int v4), (5, .int v5), (6, .int v6)]) hx hb dX1_wrap_36 hl (by decide) rfl (fun ls hl => ?_)
      refine lv_iload hx hb dX1_wrap_38 (lv_at hl 6 rfl) ?_
      refine lv_if_ne (tgt := 57) hx hb dX1_wrap_40 (by decide) (fun hc => ?_) (fun hc => ?_)
      · have hq := hq.2 hc
        exact kb_X1_wrap_57 hI ho2 C0 hK ih σ v2 v4 v6 hq H locs hP hS ls (lv_sub hl [1, 2, 3, 5, 7] rfl)
      · have hq := hq.1 hc
        refine lv_iload hx hb dX1_wrap_43 (lv_at hl 0 rfl) ?_
        refine lv_aload_n hx hb dX1_wrap_45 rfl (lv_at hl 1 rfl) ?_
        refine kg_X1_widths C0 hK hP (kv_s (by decide) (by decide)) kq_194 dX1_wrap_46 ?_
        refine lv_iload hx hb dX1_wrap_49 (lv_at hl 7 rfl) ?_
        obtain ⟨b5, hq⟩ := hq
        refine kr_iald C0 hK hP (kv_s (by decide) (by decide)) rfl b5 dX1_wrap_51 ?_
        refine lv_iadd hx hb dX1_wrap_52 ?_
        refine lv_iload_n hx hb dX1_wrap_53 rfl (lv_at hl 3 rfl) ?_
        refine lv_icmp_le (tgt := 80) hx hb dX1_wrap_54 (by decide) (fun hc => ?_) (fun hc => ?_)
        · have hq := hq.1 hc
          exact kb_X1_wrap_80 hI ho2 C0 hK ih σ v2 v4 v6 x4 hq H locs hP hS ls (lv_sub hl [1, 2, 3, 5, 7, 0] rfl)
        · have hq := hq.2 hc
          exact kb_X1_wrap_57 hI ho2 C0 hK ih σ v2 v4 v6 hq H locs hP hS ls (lv_sub hl [1, 2, 3, 5, 7] rfl)
set_option maxHeartbeats 4000000 in
set_option maxRecDepth 100000 in
theorem km_X1_wrap (l : Launch) {G : ka_G} (hI : ka_I G) {o2 : Nat} (ho2 : o2 < 18) {σ : ka_S} {v2 : Int32} {Q : ka_S → Prop} (hq : kw_X1_wrap σ o2 v2 Q) : kc_v l yX1_wrap (kw_ yX1_wrap cX1_wrap 8 none) rm_X1_wrap G [.ref (ka_a G (12, 0, 0)), .ref (ka_a G (0, o2, 0)), .int v2] σ Q := by
  refine ka_of "GlossRows$Layout" rfl (by decide) (Nat.le_of_ble_eq_true rfl) ?_
  intro p e s m below meth c C0 hK H locs hP hS ls hl
  obtain ⟨hx, hb, -, hml, hown, hts, -⟩ := id C0
  have hl : lv_has ls 8 [(0, .ref (ka_a G (12, 0, 0))), (1, .ref (ka_a G (0, o2, 0))), (2, .int v2)] := hl
  unfold kw_X1_wrap at hq
  refine lv_iconst (v := 0) hx hb dX1_wrap_0 (by decide) ?_
  refine lv_istore_n (lv' := [(3, .int (0 : Int32)), (0, .ref (ka_a G (12, 0, 0))), (1, .ref (ka_a G (0, o2, 0))), (2, .int v2)]) hx hb dX1_wrap_1 rfl hl (by decide) rfl (fun ls hl => ?_)
  refine lv_iconst (v := 0) hx hb dX1_wrap_2 (by decide) ?_
  refine lv_istore (lv' := [(4, .int (0 : Int32)), (3, .int (0 : Int32)), (0, .ref (ka_a G (12, 0, 0))), (1, .ref (ka_a G (0, o2, 0))), (2, .int v2)]) hx hb dX1_wrap_3 hl (by decide) rfl (fun ls hl => ?_)
  refine lv_iconst (v := 1) hx hb dX1_wrap_5 (by decide) ?_
  refine lv_istore (lv' := [(5, .int (1 : Int32)), (4, .int (0 : Int32)), (3, .int (0 : Int32)), (0, .ref (ka_a G (12, 0, 0))), (1, .ref (ka_a G (0, o2, 0))), (2, .int v2)]) hx hb dX1_wrap_6 hl (by decide) rfl (fun ls hl => ?_)
  refine lv_aload_n hx hb dX1_wrap_8 rfl (lv_at hl 3 rfl) ?_
  refine lv_iconst (v := 0) hx hb dX1_wrap_9 (by decide) ?_
  refine kp_X1_lineCount C0 hK hI hP hS (kv_s (by decide) (by decide)) kq_190 dX1_wrap_10 (fun H locs hP hS => ?_)
  obtain ⟨σ1, eσ1⟩ : ∃ z : ka_S, z = ka_wI σ (12, 0, 0) 3 (0 : Int32) := ⟨_, rfl⟩
  rw [← eσ1] at hP
  have hq := hq σ1 eσ1
  refine lv_aload_n hx hb dX1_wrap_13 rfl (lv_at hl 3 rfl) ?_
  refine lv_iconst (v := 0) hx hb dX1_wrap_14 (by decide) ?_
  refine kp_X1_rowCount C0 hK hI hP hS (kv_s (by decide) (by decide)) kq_192 dX1_wrap_15 (fun H locs hP hS => ?_)
  obtain ⟨σ2, eσ2⟩ : ∃ z : ka_S, z = ka_wI σ1 (12, 0, 0) 4 (0 : Int32) := ⟨_, rfl⟩
  rw [← eσ2] at hP
  have hq := hq σ2 eσ2
  refine lv_iconst (v := 0) hx hb dX1_wrap_18 (by decide) ?_
  refine lv_istore (lv' := [(6, .int (0 : Int32)), (5, .int (1 : Int32)), (4, .int (0 : Int32)), (3, .int (0 : Int32)), (0, .ref (ka_a G (12, 0, 0))), (1, .ref (ka_a G (0, o2, 0))), (2, .int v2)]) hx hb dX1_wrap_19 hl (by decide) rfl (fun ls hl => ?_)
  obtain ⟨n3, hq⟩ := hq
  exact kb_X1_wrap_21 hI ho2 C0 hK n3 σ2 v2 (0 : Int32) (0 : Int32) (1 : Int32) (0 : Int32) hq H locs hP hS ls (lv_sub hl [4, 5, 6, 3, 2, 1, 0] rfl)
/-! GlossRows$Layout.countWider(LGlossRows$Page;I)I -/
def rm_X1_countWider : Room := { frames := 0, cells := 0, slots := 0, locals := 0 }
def kw_X1_countWider_5 (o2 : Nat) (Q : Int32 → ka_S → Prop) : Nat → ka_S → Int32 → Int32 → Int32 → Prop
  | 0, _, _, _, _ => False
  | n + 1, σ, v2, v3, v4 => ((σ.1 (0, o2, 0) 2) ≤ v4 → Q v3 σ) ∧
    (¬ (σ.1 (0, o2, 0) 2) ≤ v4 → vp_in v4 12 ∧
      ((σ.1 (16, 0, 0) v4.toNatClampNeg) ≤ v2 → ∀ x3 : Int32, x3 = v4 + (1 : Int32) →
        (kw_X1_countWider_5 o2 Q n) σ v2 v3 x3) ∧
      (¬ (σ.1 (16, 0, 0) v4.toNatClampNeg) ≤ v2 → ∀ x4 : Int32, x4 = v3 + (1 : Int32) →
        ∀ x5 : Int32, x5 = v4 + (1 : Int32) →
        (kw_X1_countWider_5 o2 Q n) σ v2 x4 x5))
def kw_X1_countWider (σ : ka_S) (o2 : Nat) (v2 : Int32) (Q : Int32 → ka_S → Prop) : Prop := ∃ n1 : Nat, kw_X1_countWider_5 o2 Q n1 σ v2 (0 : Int32) (0 : Int32)
set_option maxHeartbeats 4000000 in
set_option maxRecDepth 100000 in
theorem kb_X1_countWider_5 {p : Program} {l : Launch} {e : Env} {s : State} {m : MethodId} {args : Array Value} {below : List Frame} {meth : Method} {c : Code} {G : ka_G} (hI : ka_I G) {o2 : Nat} (ho2 : o2 < 18) (C0 : ka_C p s m args meth c cX1_countWider 5 "GlossRows$Layout" (some .int)) (hK : ka_Kn G s) {Q : Int32 → ka_S → Prop} : ∀ (n : Nat) (σ : ka_S) (v2 : Int32) (v3 : Int32) (v4 : Int32), kw_X1_countWider_5 o2 Q n σ v2 v3 v4 → ∀ (H : Heap) (locs : List Loc), ka_P G σ H → va_S (ka_A G) s.heap H locs → ∀ ls : Array Slot, lv_has ls 5 [(0, .ref (ka_a G (12, 0, 0))), (1, .ref (ka_a G (0, o2, 0))), (2, .int v2), (3, .int v3), (4, .int v4)] → W p l e rm_X1_countWider s m args below meth c H locs 0 0 (MQ below (va_Qi Q (ka_B G) (ka_A G)) args s 0 0 (ka_A G)) (F0 m 5 ls []) := by
  obtain ⟨hx, hb, -, hml, hown, hts, -⟩ := id C0
  intro n
  induction n with
  | zero =>
    intro σ v2 v3 v4 hq
    rw [kw_X1_countWider_5] at hq
    exact hq.elim
  | succ n ih =>
    intro σ v2 v3 v4 hq H locs hP hS ls hl
    rw [kw_X1_countWider_5] at hq
    refine lv_iload hx hb dX1_countWider_5 (lv_at hl 4 rfl) ?_
    refine lv_aload_n hx hb dX1_countWider_7 rfl (lv_at hl 1 rfl) ?_
    refine kg_X4_count C0 hK hP (kv_p (by decide) ho2) kq_154 dX1_countWider_8 ?_
    refine lv_icmp_ge (tgt := 34) hx hb dX1_countWider_11 (by decide) (fun hc => ?_) (fun hc => ?_)
    · have hq := hq.1 hc
      refine lv_iload_n hx hb dX1_countWider_34 rfl (lv_at hl 3 rfl) ?_
      exact kr_iret C0 hK hP hS hq dX1_countWider_35
    · have hq := hq.2 hc
      refine lv_aload_n hx hb dX1_countWider_14 rfl (lv_at hl 0 rfl) ?_
      refine kg_X1_widths C0 hK hP (kv_s (by decide) (by decide)) kq_194 dX1_countWider_15 ?_
      refine lv_iload hx hb dX1_countWider_18 (lv_at hl 4 rfl) ?_
      obtain ⟨b2, hq⟩ := hq
      refine kr_iald C0 hK hP (kv_s (by decide) (by decide)) rfl b2 dX1_countWider_20 ?_
      refine lv_iload_n hx hb dX1_countWider_21 rfl (lv_at hl 2 rfl) ?_
      refine lv_icmp_le (tgt := 28) hx hb dX1_countWider_22 (by decide) (fun hc => ?_) (fun hc => ?_)
      · have hq := hq.1 hc
        obtain ⟨x3, ex3⟩ : ∃ y : Int32, y = v4 + (1 : Int32) := ⟨_, rfl⟩
        have hq := hq x3 ex3
        refine lv_iinc (v := x3) (lv' := [(4, .int x3), (0, .ref (ka_a G (12, 0, 0))), (1, .ref (ka_a G (0, o2, 0))), (2, .int v2), (3, .int v3)]) hx hb dX1_countWider_28 hl (k := 4) rfl (by rw [ex3]; rfl) (by decide) rfl (fun ls hl => ?_)
        refine lv_goto (tgt := 5) hx hb dX1_countWider_31 (by decide) ?_
        exact ih σ v2 v3 x3 hq H locs hP hS ls (lv_sub hl [1, 2, 3, 4, 0] rfl)
      · have hq := hq.2 hc
        obtain ⟨x4, ex4⟩ : ∃ y : Int32, y = v3 + (1 : Int32) := ⟨_, rfl⟩
        have hq := hq x4 ex4
        refine lv_iinc (v := x4) (lv' := [(3, .int x4), (0, .ref (ka_a G (12, 0, 0))), (1, .ref (ka_a G (0, o2, 0))), (2, .int v2), (4, .int v4)]) hx hb dX1_countWider_25 hl (k := 3) rfl (by rw [ex4]; rfl) (by decide) rfl (fun ls hl => ?_)
        obtain ⟨x5, ex5⟩ : ∃ y : Int32, y = v4 + (1 : Int32) := ⟨_, rfl⟩
        have hq := hq x5 ex5
        refine lv_iinc (v := x5) (lv' := [(4, .int x5), (3, .int x4), (0, .ref (ka_a G (12, 0, 0))), (1, .ref (ka_a G (0, o2, 0))), (2, .int v2)]) hx hb dX1_countWider_28 hl (k := 4) rfl (by rw [ex5]; rfl) (by decide) rfl (fun ls hl => ?_)
        refine lv_goto (tgt := 5) hx hb dX1_countWider_31 (by decide) ?_
        exact ih σ v2 x4 x5 hq H locs hP hS ls (lv_sub hl [2, 3, 4, 1, 0] rfl)
set_option maxHeartbeats 4000000 in
set_option maxRecDepth 100000 in
theorem km_X1_countWider (l : Launch) {G : ka_G} (hI : ka_I G) {o2 : Nat} (ho2 : o2 < 18) {σ : ka_S} {v2 : Int32} {Q : Int32 → ka_S → Prop} (hq : kw_X1_countWider σ o2 v2 Q) : kc_i l yX1_countWider (kw_ yX1_countWider cX1_countWider 5 (some .int)) rm_X1_countWider G [.ref (ka_a G (12, 0, 0)), .ref (ka_a G (0, o2, 0)), .int v2] σ Q := by
  refine ka_of "GlossRows$Layout" rfl (by decide) (Nat.le_of_ble_eq_true rfl) ?_
  intro p e s m below meth c C0 hK H locs hP hS ls hl
  obtain ⟨hx, hb, -, hml, hown, hts, -⟩ := id C0
  have hl : lv_has ls 5 [(0, .ref (ka_a G (12, 0, 0))), (1, .ref (ka_a G (0, o2, 0))), (2, .int v2)] := hl
  unfold kw_X1_countWider at hq
  refine lv_iconst (v := 0) hx hb dX1_countWider_0 (by decide) ?_
  refine lv_istore_n (lv' := [(3, .int (0 : Int32)), (0, .ref (ka_a G (12, 0, 0))), (1, .ref (ka_a G (0, o2, 0))), (2, .int v2)]) hx hb dX1_countWider_1 rfl hl (by decide) rfl (fun ls hl => ?_)
  refine lv_iconst (v := 0) hx hb dX1_countWider_2 (by decide) ?_
  refine lv_istore (lv' := [(4, .int (0 : Int32)), (3, .int (0 : Int32)), (0, .ref (ka_a G (12, 0, 0))), (1, .ref (ka_a G (0, o2, 0))), (2, .int v2)]) hx hb dX1_countWider_3 hl (by decide) rfl (fun ls hl => ?_)
  obtain ⟨n1, hq⟩ := hq
  exact kb_X1_countWider_5 hI ho2 C0 hK n1 σ v2 (0 : Int32) (0 : Int32) hq H locs hP hS ls (lv_sub hl [2, 3, 4, 1, 0] rfl)
/-! GlossRows$Layout.countEmpty(LGlossRows$Page;I)I -/
def rm_X1_countEmpty : Room := { frames := 1, cells := 0, slots := 0, locals := 21 }
def kw_X1_countEmpty_49 (o2 : Nat) (K5 : ka_S → Int32 → Int32 → Int32 → Prop) (Q : Int32 → ka_S → Prop) (σ : ka_S) (v2 : Int32) (v3 : Int32) (v4 : Int32) (t0 : Int32) : Prop := (t0 = (0 : Int32) → ∀ x4 : Int32, x4 = v4 + (1 : Int32) →
    K5 σ v2 v3 x4) ∧
  (¬ t0 = (0 : Int32) → vp_in v4 12 ∧
    vp_in v4 12 ∧
    ∀ x7 : Int32, x7 = (v3 + (if (0 : Int32) < ((v2 - (σ.1 (14, 0, 0) v4.toNatClampNeg)) - (σ.1 (16, 0, 0) v4.toNatClampNeg)) then ((v2 - (σ.1 (14, 0, 0) v4.toNatClampNeg)) - (σ.1 (16, 0, 0) v4.toNatClampNeg)) else (0 : Int32))) → 
    ∀ x8 : Int32, x8 = v4 + (1 : Int32) →
    K5 σ v2 x7 x8)
def kw_X1_countEmpty_44 (o2 : Nat) (K5 : ka_S → Int32 → Int32 → Int32 → Prop) (Q : Int32 → ka_S → Prop) (σ : ka_S) (v2 : Int32) (v3 : Int32) (v4 : Int32) : Prop := kw_X1_countEmpty_49 o2 K5 Q σ v2 v3 v4 (1 : Int32)
def kw_X1_countEmpty_5 (o2 : Nat) (Q : Int32 → ka_S → Prop) : Nat → ka_S → Int32 → Int32 → Int32 → Prop
  | 0, _, _, _, _ => False
  | n + 1, σ, v2, v3, v4 => ((σ.1 (0, o2, 0) 2) ≤ v4 → Q v3 σ) ∧
    (¬ (σ.1 (0, o2, 0) 2) ≤ v4 → (v4 = ((σ.1 (0, o2, 0) 2) - (1 : Int32)) → kw_X1_countEmpty_44 o2 (kw_X1_countEmpty_5 o2 Q n) Q σ v2 v3 v4) ∧
      (¬ v4 = ((σ.1 (0, o2, 0) 2) - (1 : Int32)) → vp_in (v4 + (1 : Int32)) 12 ∧
        vp_in v4 12 ∧
        ((σ.1 (13, 0, 0) (v4 + (1 : Int32)).toNatClampNeg) = (σ.1 (13, 0, 0) v4.toNatClampNeg) → kw_X1_countEmpty_49 o2 (kw_X1_countEmpty_5 o2 Q n) Q σ v2 v3 v4 (0 : Int32)) ∧
        (¬ (σ.1 (13, 0, 0) (v4 + (1 : Int32)).toNatClampNeg) = (σ.1 (13, 0, 0) v4.toNatClampNeg) → kw_X1_countEmpty_44 o2 (kw_X1_countEmpty_5 o2 Q n) Q σ v2 v3 v4)))
def kw_X1_countEmpty (σ : ka_S) (o2 : Nat) (v2 : Int32) (Q : Int32 → ka_S → Prop) : Prop := ∃ n1 : Nat, kw_X1_countEmpty_5 o2 Q n1 σ v2 (0 : Int32) (0 : Int32)
set_option maxHeartbeats 4000000 in
set_option maxRecDepth 100000 in
theorem kb_X1_countEmpty_49 {p : Program} {l : Launch} {e : Env} {s : State} {m : MethodId} {args : Array Value} {below : List Frame} {meth : Method} {c : Code} {G : ka_G} (hI : ka_I G) {o2 : Nat} (ho2 : o2 < 18) (C0 : ka_C p s m args meth c cX1_countEmpty 6 "GlossRows$Layout" (some .int)) (hK : ka_Kn G s) {Q : Int32 → ka_S → Prop} {K5 : ka_S → Int32 → Int32 → Int32 → Prop} (hk5 : ∀ (σ : ka_S) (v2 : Int32) (v3 : Int32) (v4 : Int32), K5 σ v2 v3 v4 → ∀ (H : Heap) (locs : List Loc), ka_P G σ H → va_S (ka_A G) s.heap H locs → ∀ ls : Array Slot, lv_has ls 6 [(0, .ref (ka_a G (12, 0, 0))), (1, .ref (ka_a G (0, o2, 0))), (2, .int v2), (3, .int v3), (4, .int v4)] → W p l e rm_X1_countEmpty s m args below meth c H locs 0 0 (MQ below (va_Qi Q (ka_B G) (ka_A G)) args s 0 0 (ka_A G)) (F0 m 5 ls [])) : ∀ (σ : ka_S) (v2 : Int32) (v3 : Int32) (v4 : Int32) (t0 : Int32), kw_X1_countEmpty_49 o2 K5 Q σ v2 v3 v4 t0 → ∀ (H : Heap) (locs : List Loc), ka_P G σ H → va_S (ka_A G) s.heap H locs → ∀ ls : Array Slot, lv_has ls 6 [(0, .ref (ka_a G (12, 0, 0))), (1, .ref (ka_a G (0, o2, 0))), (2, .int v2), (3, .int v3), (4, .int v4)] → W p l e rm_X1_countEmpty s m args below meth c H locs 0 0 (MQ below (va_Qi Q (ka_B G) (ka_A G)) args s 0 0 (ka_A G)) (F0 m 49 ls [.int t0]) := by
  obtain ⟨hx, hb, -, hml, hown, hts, -⟩ := id C0
  intro σ v2 v3 v4 t0 hq H locs hP hS ls hl
  unfold kw_X1_countEmpty_49 at hq
  refine lv_istore (lv' := [(5, .int t0), (0, .ref (ka_a G (12, 0, 0))), (1, .ref (ka_a G (0, o2, 0))), (2, .int v2), (3, .int v3), (4, .int v4)]) hx hb dX1_countEmpty_49 hl (by decide) rfl (fun ls hl => ?_)
  refine lv_iload hx hb dX1_countEmpty_51 (lv_at hl 0 rfl) ?_
  refine lv_if_eq (tgt := 80) hx hb dX1_countEmpty_53 (by decide) (fun hc => ?_) (fun hc => ?_)
  · have hq := hq.1 hc
    obtain ⟨x4, ex4⟩ : ∃ y : Int32, y = v4 + (1 : Int32) := ⟨_, rfl⟩
    have hq := hq x4 ex4
    refine lv_iinc (v := x4) (lv' := [(4, .int x4), (5, .int t0), (0, .ref (ka_a G (12, 0, 0))), (1, .ref (ka_a G (0, o2, 0))), (2, .int v2), (3, .int v3)]) hx hb dX1_countEmpty_80 hl (k := 5) rfl (by rw [ex4]; rfl) (by decide) rfl (fun ls hl => ?_)
    refine lv_goto (tgt := 5) hx hb dX1_countEmpty_83 (by decide) ?_
    exact hk5 σ v2 v3 x4 hq H locs hP hS ls (lv_sub hl [2, 3, 4, 5, 0] rfl)
  · have hq := hq.2 hc
    refine lv_iload_n hx hb dX1_countEmpty_56 rfl (lv_at hl 4 rfl) ?_
    refine lv_iconst (v := 0) hx hb dX1_countEmpty_57 (by decide) ?_
    refine lv_iload_n hx hb dX1_countEmpty_58 rfl (lv_at hl 3 rfl) ?_
    refine lv_aload_n hx hb dX1_countEmpty_59 rfl (lv_at hl 1 rfl) ?_
    refine kg_X1_columns C0 hK hP (kv_s (by decide) (by decide)) kq_186 dX1_countEmpty_60 ?_
    refine lv_iload hx hb dX1_countEmpty_63 (lv_at hl 5 rfl) ?_
    obtain ⟨b5, hq⟩ := hq
    refine kr_iald C0 hK hP (kv_s (by decide) (by decide)) rfl b5 dX1_countEmpty_65 ?_
    refine lv_isub hx hb dX1_countEmpty_66 ?_
    refine lv_aload_n hx hb dX1_countEmpty_67 rfl (lv_at hl 1 rfl) ?_
    refine kg_X1_widths C0 hK hP (kv_s (by decide) (by decide)) kq_194 dX1_countEmpty_68 ?_
    refine lv_iload hx hb dX1_countEmpty_71 (lv_at hl 5 rfl) ?_
    obtain ⟨b6, hq⟩ := hq
    refine kr_iald C0 hK hP (kv_s (by decide) (by decide)) rfl b6 dX1_countEmpty_73 ?_
    refine lv_isub hx hb dX1_countEmpty_74 ?_
    refine kr_max C0 hl kq_675 ⟨Nat.le_of_ble_eq_true rfl, Nat.le_of_ble_eq_true rfl⟩ ⟨Nat.zero_le _, Nat.zero_le _⟩ dX1_countEmpty_75 ?_
    refine lv_iadd hx hb dX1_countEmpty_78 ?_
    refine lv_topi (fun x7 ex7 => ?_)
    have hq := hq x7 ex7
    refine lv_istore_n (lv' := [(3, .int x7), (5, .int t0), (0, .ref (ka_a G (12, 0, 0))), (1, .ref (ka_a G (0, o2, 0))), (2, .int v2), (4, .int v4)]) hx hb dX1_countEmpty_79 rfl hl (by decide) rfl (fun ls hl => ?_)
    obtain ⟨x8, ex8⟩ : ∃ y : Int32, y = v4 + (1 : Int32) := ⟨_, rfl⟩
    have hq := hq x8 ex8
    refine lv_iinc (v := x8) (lv' := [(4, .int x8), (3, .int x7), (5, .int t0), (0, .ref (ka_a G (12, 0, 0))), (1, .ref (ka_a G (0, o2, 0))), (2, .int v2)]) hx hb dX1_countEmpty_80 hl (k := 5) rfl (by rw [ex8]; rfl) (by decide) rfl (fun ls hl => ?_)
    refine lv_goto (tgt := 5) hx hb dX1_countEmpty_83 (by decide) ?_
    exact hk5 σ v2 x7 x8 hq H locs hP hS ls (lv_sub hl [3, 4, 5, 1, 0] rfl)
set_option maxHeartbeats 4000000 in
set_option maxRecDepth 100000 in
theorem kb_X1_countEmpty_44 {p : Program} {l : Launch} {e : Env} {s : State} {m : MethodId} {args : Array Value} {below : List Frame} {meth : Method} {c : Code} {G : ka_G} (hI : ka_I G) {o2 : Nat} (ho2 : o2 < 18) (C0 : ka_C p s m args meth c cX1_countEmpty 6 "GlossRows$Layout" (some .int)) (hK : ka_Kn G s) {Q : Int32 → ka_S → Prop} {K5 : ka_S → Int32 → Int32 → Int32 → Prop} (hk5 : ∀ (σ : ka_S) (v2 : Int32) (v3 : Int32) (v4 : Int32), K5 σ v2 v3 v4 → ∀ (H : Heap) (locs : List Loc), ka_P G σ H → va_S (ka_A G) s.heap H locs → ∀ ls : Array Slot, lv_has ls 6 [(0, .ref (ka_a G (12, 0, 0))), (1, .ref (ka_a G (0, o2, 0))), (2, .int v2), (3, .int v3), (4, .int v4)] → W p l e rm_X1_countEmpty s m args below meth c H locs 0 0 (MQ below (va_Qi Q (ka_B G) (ka_A G)) args s 0 0 (ka_A G)) (F0 m 5 ls [])) : ∀ (σ : ka_S) (v2 : Int32) (v3 : Int32) (v4 : Int32), kw_X1_countEmpty_44 o2 K5 Q σ v2 v3 v4 → ∀ (H : Heap) (locs : List Loc), ka_P G σ H → va_S (ka_A G) s.heap H locs → ∀ ls : Array Slot, lv_has ls 6 [(0, .ref (ka_a G (12, 0, 0))), (1, .ref (ka_a G (0, o2, 0))), (2, .int v2), (3, .int v3), (4, .int v4)] → W p l e rm_X1_countEmpty s m args below meth c H locs 0 0 (MQ below (va_Qi Q (ka_B G) (ka_A G)) args s 0 0 (ka_A G)) (F0 m 44 ls []) := by
  obtain ⟨hx, hb, -, hml, hown, hts, -⟩ := id C0
  intro σ v2 v3 v4 hq H locs hP hS ls hl
  unfold kw_X1_countEmpty_44 at hq
  refine lv_iconst (v := 1) hx hb dX1_countEmpty_44 (by decide) ?_
  refine lv_goto (tgt := 49) hx hb dX1_countEmpty_45 (by decide) ?_
  exact kb_X1_countEmpty_49 hI ho2 C0 hK hk5 σ v2 v3 v4 (1 : Int32) hq H locs hP hS ls (lv_sub hl [0, 1, 2, 3, 4] rfl)
set_option maxHeartbeats 4000000 in
set_option maxRecDepth 100000 in
theorem kb_X1_countEmpty_5 {p : Program} {l : Launch} {e : Env} {s : State} {m : MethodId} {args : Array Value} {below : List Frame} {meth : Method} {c : Code} {G : ka_G} (hI : ka_I G) {o2 : Nat} (ho2 : o2 < 18) (C0 : ka_C p s m args meth c cX1_countEmpty 6 "GlossRows$Layout" (some .int)) (hK : ka_Kn G s) {Q : Int32 → ka_S → Prop} : ∀ (n : Nat) (σ : ka_S) (v2 : Int32) (v3 : Int32) (v4 : Int32), kw_X1_countEmpty_5 o2 Q n σ v2 v3 v4 → ∀ (H : Heap) (locs : List Loc), ka_P G σ H → va_S (ka_A G) s.heap H locs → ∀ ls : Array Slot, lv_has ls 6 [(0, .ref (ka_a G (12, 0, 0))), (1, .ref (ka_a G (0, o2, 0))), (2, .int v2), (3, .int v3), (4, .int v4)] → W p l e rm_X1_countEmpty s m args below meth c H locs 0 0 (MQ below (va_Qi Q (ka_B G) (ka_A G)) args s 0 0 (ka_A G)) (F0 m 5 ls []) := by
  obtain ⟨hx, hb, -, hml, hown, hts, -⟩ := id C0
  intro n
  induction n with
  | zero =>
    intro σ v2 v3 v4 hq
    rw [kw_X1_countEmpty_5] at hq
    exact hq.elim
  | succ n ih =>
    intro σ v2 v3 v4 hq H locs hP hS ls hl
    rw [kw_X1_countEmpty_5] at hq
    refine lv_iload hx hb dX1_countEmpty_5 (lv_at hl 4 rfl) ?_
    refine lv_aload_n hx hb dX1_countEmpty_7 rfl (lv_at hl 1 rfl) ?_
    refine kg_X4_count C0 hK hP (kv_p (by decide) ho2) kq_154 dX1_countEmpty_8 ?_
    refine lv_icmp_ge (tgt := 86) hx hb dX1_countEmpty_11 (by decide) (fun hc => ?_) (fun hc => ?_)
    · have hq := hq.1 hc
      refine lv_iload_n hx hb dX1_countEmpty_86 rfl (lv_at hl 3 rfl) ?_
      exact kr_iret C0 hK hP hS hq dX1_countEmpty_87
    · have hq := hq.2 hc
      refine lv_iload hx hb dX1_countEmpty_14 (lv_at hl 4 rfl) ?_
      refine lv_aload_n hx hb dX1_countEmpty_16 rfl (lv_at hl 1 rfl) ?_
      refine kg_X4_count C0 hK hP (kv_p (by decide) ho2) kq_154 dX1_countEmpty_17 ?_
      refine lv_iconst (v := 1) hx hb dX1_countEmpty_20 (by decide) ?_
      refine lv_isub hx hb dX1_countEmpty_21 ?_
      refine lv_icmp_eq (tgt := 44) hx hb dX1_countEmpty_22 (by decide) (fun hc => ?_) (fun hc => ?_)
      · have hq := hq.1 hc
        exact kb_X1_countEmpty_44 hI ho2 C0 hK ih σ v2 v3 v4 hq H locs hP hS ls (lv_sub hl [0, 1, 2, 3, 4] rfl)
      · have hq := hq.2 hc
        refine lv_aload_n hx hb dX1_countEmpty_25 rfl (lv_at hl 0 rfl) ?_
        refine kg_X1_lines C0 hK hP (kv_s (by decide) (by decide)) kq_184 dX1_countEmpty_26 ?_
        refine lv_iload hx hb dX1_countEmpty_29 (lv_at hl 4 rfl) ?_
        refine lv_iconst (v := 1) hx hb dX1_countEmpty_31 (by decide) ?_
        refine lv_iadd hx hb dX1_countEmpty_32 ?_
        obtain ⟨b2, hq⟩ := hq
        refine kr_iald C0 hK hP (kv_s (by decide) (by decide)) rfl b2 dX1_countEmpty_33 ?_
        refine lv_aload_n hx hb dX1_countEmpty_34 rfl (lv_at hl 0 rfl) ?_
        refine kg_X1_lines C0 hK hP (kv_s (by decide) (by decide)) kq_184 dX1_countEmpty_35 ?_
        refine lv_iload hx hb dX1_countEmpty_38 (lv_at hl 4 rfl) ?_
        obtain ⟨b3, hq⟩ := hq
        refine kr_iald C0 hK hP (kv_s (by decide) (by decide)) rfl b3 dX1_countEmpty_40 ?_
        refine lv_icmp_eq (tgt := 48) hx hb dX1_countEmpty_41 (by decide) (fun hc => ?_) (fun hc => ?_)
        · have hq := hq.1 hc
          refine lv_iconst (v := 0) hx hb dX1_countEmpty_48 (by decide) ?_
          exact kb_X1_countEmpty_49 hI ho2 C0 hK ih σ v2 v3 v4 (0 : Int32) hq H locs hP hS ls (lv_sub hl [0, 1, 2, 3, 4] rfl)
        · have hq := hq.2 hc
          exact kb_X1_countEmpty_44 hI ho2 C0 hK ih σ v2 v3 v4 hq H locs hP hS ls (lv_sub hl [0, 1, 2, 3, 4] rfl)
set_option maxHeartbeats 4000000 in
set_option maxRecDepth 100000 in
theorem km_X1_countEmpty (l : Launch) {G : ka_G} (hI : ka_I G) {o2 : Nat} (ho2 : o2 < 18) {σ : ka_S} {v2 : Int32} {Q : Int32 → ka_S → Prop} (hq : kw_X1_countEmpty σ o2 v2 Q) : kc_i l yX1_countEmpty (kw_ yX1_countEmpty cX1_countEmpty 6 (some .int)) rm_X1_countEmpty G [.ref (ka_a G (12, 0, 0)), .ref (ka_a G (0, o2, 0)), .int v2] σ Q := by
  refine ka_of "GlossRows$Layout" rfl (by decide) (Nat.le_of_ble_eq_true rfl) ?_
  intro p e s m below meth c C0 hK H locs hP hS ls hl
  obtain ⟨hx, hb, -, hml, hown, hts, -⟩ := id C0
  have hl : lv_has ls 6 [(0, .ref (ka_a G (12, 0, 0))), (1, .ref (ka_a G (0, o2, 0))), (2, .int v2)] := hl
  unfold kw_X1_countEmpty at hq
  refine lv_iconst (v := 0) hx hb dX1_countEmpty_0 (by decide) ?_
  refine lv_istore_n (lv' := [(3, .int (0 : Int32)), (0, .ref (ka_a G (12, 0, 0))), (1, .ref (ka_a G (0, o2, 0))), (2, .int v2)]) hx hb dX1_countEmpty_1 rfl hl (by decide) rfl (fun ls hl => ?_)
  refine lv_iconst (v := 0) hx hb dX1_countEmpty_2 (by decide) ?_
  refine lv_istore (lv' := [(4, .int (0 : Int32)), (3, .int (0 : Int32)), (0, .ref (ka_a G (12, 0, 0))), (1, .ref (ka_a G (0, o2, 0))), (2, .int v2)]) hx hb dX1_countEmpty_3 hl (by decide) rfl (fun ls hl => ?_)
  obtain ⟨n1, hq⟩ := hq
  exact kb_X1_countEmpty_5 hI ho2 C0 hK n1 σ v2 (0 : Int32) (0 : Int32) hq H locs hP hS ls (lv_sub hl [2, 3, 4, 1, 0] rfl)
/-! GlossRows$Layout.lastWordOfRow(LGlossRows$Page;I)I -/
def rm_X1_lastWordOfRow : Room := { frames := 0, cells := 0, slots := 0, locals := 0 }
def kw_X1_lastWordOfRow_5 (o2 : Nat) (Q : Int32 → ka_S → Prop) : Nat → ka_S → Int32 → Int32 → Int32 → Prop
  | 0, _, _, _, _ => False
  | n + 1, σ, v2, v3, v4 => ((σ.1 (0, o2, 0) 2) ≤ v4 → Q v3 σ) ∧
    (¬ (σ.1 (0, o2, 0) 2) ≤ v4 → vp_in v4 12 ∧
      (v2 < (σ.1 (17, 0, 0) v4.toNatClampNeg) → ∀ x3 : Int32, x3 = v4 + (1 : Int32) →
        (kw_X1_lastWordOfRow_5 o2 Q n) σ v2 v3 x3) ∧
      (¬ v2 < (σ.1 (17, 0, 0) v4.toNatClampNeg) → ∀ x4 : Int32, x4 = v4 + (1 : Int32) →
        (kw_X1_lastWordOfRow_5 o2 Q n) σ v2 v4 x4))
def kw_X1_lastWordOfRow (σ : ka_S) (o2 : Nat) (v2 : Int32) (Q : Int32 → ka_S → Prop) : Prop := ∃ n1 : Nat, kw_X1_lastWordOfRow_5 o2 Q n1 σ v2 (0 : Int32) (1 : Int32)
set_option maxHeartbeats 4000000 in
set_option maxRecDepth 100000 in
theorem kb_X1_lastWordOfRow_5 {p : Program} {l : Launch} {e : Env} {s : State} {m : MethodId} {args : Array Value} {below : List Frame} {meth : Method} {c : Code} {G : ka_G} (hI : ka_I G) {o2 : Nat} (ho2 : o2 < 18) (C0 : ka_C p s m args meth c cX1_lastWordOfRow 5 "GlossRows$Layout" (some .int)) (hK : ka_Kn G s) {Q : Int32 → ka_S → Prop} : ∀ (n : Nat) (σ : ka_S) (v2 : Int32) (v3 : Int32) (v4 : Int32), kw_X1_lastWordOfRow_5 o2 Q n σ v2 v3 v4 → ∀ (H : Heap) (locs : List Loc), ka_P G σ H → va_S (ka_A G) s.heap H locs → ∀ ls : Array Slot, lv_has ls 5 [(0, .ref (ka_a G (12, 0, 0))), (1, .ref (ka_a G (0, o2, 0))), (2, .int v2), (3, .int v3), (4, .int v4)] → W p l e rm_X1_lastWordOfRow s m args below meth c H locs 0 0 (MQ below (va_Qi Q (ka_B G) (ka_A G)) args s 0 0 (ka_A G)) (F0 m 5 ls []) := by
  obtain ⟨hx, hb, -, hml, hown, hts, -⟩ := id C0
  intro n
  induction n with
  | zero =>
    intro σ v2 v3 v4 hq
    rw [kw_X1_lastWordOfRow_5] at hq
    exact hq.elim
  | succ n ih =>
    intro σ v2 v3 v4 hq H locs hP hS ls hl
    rw [kw_X1_lastWordOfRow_5] at hq
    refine lv_iload hx hb dX1_lastWordOfRow_5 (lv_at hl 4 rfl) ?_
    refine lv_aload_n hx hb dX1_lastWordOfRow_7 rfl (lv_at hl 1 rfl) ?_
    refine kg_X4_count C0 hK hP (kv_p (by decide) ho2) kq_154 dX1_lastWordOfRow_8 ?_
    refine lv_icmp_ge (tgt := 34) hx hb dX1_lastWordOfRow_11 (by decide) (fun hc => ?_) (fun hc => ?_)
    · have hq := hq.1 hc
      refine lv_iload_n hx hb dX1_lastWordOfRow_34 rfl (lv_at hl 3 rfl) ?_
      exact kr_iret C0 hK hP hS hq dX1_lastWordOfRow_35
    · have hq := hq.2 hc
      refine lv_aload_n hx hb dX1_lastWordOfRow_14 rfl (lv_at hl 0 rfl) ?_
      refine kg_X1_firstRows C0 hK hP (kv_s (by decide) (by decide)) kq_195 dX1_lastWordOfRow_15 ?_
      refine lv_iload hx hb dX1_lastWordOfRow_18 (lv_at hl 4 rfl) ?_
      obtain ⟨b2, hq⟩ := hq
      refine kr_iald C0 hK hP (kv_s (by decide) (by decide)) rfl b2 dX1_lastWordOfRow_20 ?_
      refine lv_iload_n hx hb dX1_lastWordOfRow_21 rfl (lv_at hl 2 rfl) ?_
      refine lv_icmp_gt (tgt := 28) hx hb dX1_lastWordOfRow_22 (by decide) (fun hc => ?_) (fun hc => ?_)
      · have hq := hq.1 hc
        obtain ⟨x3, ex3⟩ : ∃ y : Int32, y = v4 + (1 : Int32) := ⟨_, rfl⟩
        have hq := hq x3 ex3
        refine lv_iinc (v := x3) (lv' := [(4, .int x3), (0, .ref (ka_a G (12, 0, 0))), (1, .ref (ka_a G (0, o2, 0))), (2, .int v2), (3, .int v3)]) hx hb dX1_lastWordOfRow_28 hl (k := 4) rfl (by rw [ex3]; rfl) (by decide) rfl (fun ls hl => ?_)
        refine lv_goto (tgt := 5) hx hb dX1_lastWordOfRow_31 (by decide) ?_
        exact ih σ v2 v3 x3 hq H locs hP hS ls (lv_sub hl [1, 2, 3, 4, 0] rfl)
      · have hq := hq.2 hc
        refine lv_iload hx hb dX1_lastWordOfRow_25 (lv_at hl 4 rfl) ?_
        refine lv_istore_n (lv' := [(3, .int v4), (0, .ref (ka_a G (12, 0, 0))), (1, .ref (ka_a G (0, o2, 0))), (2, .int v2), (4, .int v4)]) hx hb dX1_lastWordOfRow_27 rfl hl (by decide) rfl (fun ls hl => ?_)
        obtain ⟨x4, ex4⟩ : ∃ y : Int32, y = v4 + (1 : Int32) := ⟨_, rfl⟩
        have hq := hq x4 ex4
        refine lv_iinc (v := x4) (lv' := [(4, .int x4), (3, .int v4), (0, .ref (ka_a G (12, 0, 0))), (1, .ref (ka_a G (0, o2, 0))), (2, .int v2)]) hx hb dX1_lastWordOfRow_28 hl (k := 4) rfl (by rw [ex4]; rfl) (by decide) rfl (fun ls hl => ?_)
        refine lv_goto (tgt := 5) hx hb dX1_lastWordOfRow_31 (by decide) ?_
        exact ih σ v2 v4 x4 hq H locs hP hS ls (lv_sub hl [2, 3, 4, 1, 0] rfl)
set_option maxHeartbeats 4000000 in
set_option maxRecDepth 100000 in
theorem km_X1_lastWordOfRow (l : Launch) {G : ka_G} (hI : ka_I G) {o2 : Nat} (ho2 : o2 < 18) {σ : ka_S} {v2 : Int32} {Q : Int32 → ka_S → Prop} (hq : kw_X1_lastWordOfRow σ o2 v2 Q) : kc_i l yX1_lastWordOfRow (kw_ yX1_lastWordOfRow cX1_lastWordOfRow 5 (some .int)) rm_X1_lastWordOfRow G [.ref (ka_a G (12, 0, 0)), .ref (ka_a G (0, o2, 0)), .int v2] σ Q := by
  refine ka_of "GlossRows$Layout" rfl (by decide) (Nat.le_of_ble_eq_true rfl) ?_
  intro p e s m below meth c C0 hK H locs hP hS ls hl
  obtain ⟨hx, hb, -, hml, hown, hts, -⟩ := id C0
  have hl : lv_has ls 5 [(0, .ref (ka_a G (12, 0, 0))), (1, .ref (ka_a G (0, o2, 0))), (2, .int v2)] := hl
  unfold kw_X1_lastWordOfRow at hq
  refine lv_iconst (v := 0) hx hb dX1_lastWordOfRow_0 (by decide) ?_
  refine lv_istore_n (lv' := [(3, .int (0 : Int32)), (0, .ref (ka_a G (12, 0, 0))), (1, .ref (ka_a G (0, o2, 0))), (2, .int v2)]) hx hb dX1_lastWordOfRow_1 rfl hl (by decide) rfl (fun ls hl => ?_)
  refine lv_iconst (v := 1) hx hb dX1_lastWordOfRow_2 (by decide) ?_
  refine lv_istore (lv' := [(4, .int (1 : Int32)), (3, .int (0 : Int32)), (0, .ref (ka_a G (12, 0, 0))), (1, .ref (ka_a G (0, o2, 0))), (2, .int v2)]) hx hb dX1_lastWordOfRow_3 hl (by decide) rfl (fun ls hl => ?_)
  obtain ⟨n1, hq⟩ := hq
  exact kb_X1_lastWordOfRow_5 hI ho2 C0 hK n1 σ v2 (0 : Int32) (1 : Int32) hq H locs hP hS ls (lv_sub hl [2, 3, 4, 1, 0] rfl)
/-! GlossRows$Layout.kindOfRow(LGlossRows$Page;I)I -/
def rm_X1_kindOfRow : Room := { frames := 1, cells := 0, slots := 0, locals := 24 }
def kw_X1_kindOfRow (σ : ka_S) (o2 : Nat) (v2 : Int32) (Q : Int32 → ka_S → Prop) : Prop := kw_X1_lastWordOfRow σ o2 v2 (fun r2 σ1 => 
  vp_in r2 12 ∧
  Q (if (2 : Int32) < (v2 - (σ1.1 (17, 0, 0) r2.toNatClampNeg)) then (2 : Int32) else (v2 - (σ1.1 (17, 0, 0) r2.toNatClampNeg))) σ1)
set_option maxHeartbeats 4000000 in
set_option maxRecDepth 100000 in
theorem km_X1_kindOfRow (l : Launch) {G : ka_G} (hI : ka_I G) {o2 : Nat} (ho2 : o2 < 18) {σ : ka_S} {v2 : Int32} {Q : Int32 → ka_S → Prop} (hq : kw_X1_kindOfRow σ o2 v2 Q) : kc_i l yX1_kindOfRow (kw_ yX1_kindOfRow cX1_kindOfRow 3 (some .int)) rm_X1_kindOfRow G [.ref (ka_a G (12, 0, 0)), .ref (ka_a G (0, o2, 0)), .int v2] σ Q := by
  refine ka_of "GlossRows$Layout" rfl (by decide) (Nat.le_of_ble_eq_true rfl) ?_
  intro p e s m below meth c C0 hK H locs hP hS ls hl
  obtain ⟨hx, hb, -, hml, hown, hts, -⟩ := id C0
  have hl : lv_has ls 3 [(0, .ref (ka_a G (12, 0, 0))), (1, .ref (ka_a G (0, o2, 0))), (2, .int v2)] := hl
  unfold kw_X1_kindOfRow at hq
  refine lv_iload_n hx hb dX1_kindOfRow_0 rfl (lv_at hl 2 rfl) ?_
  refine lv_aload_n hx hb dX1_kindOfRow_1 rfl (lv_at hl 0 rfl) ?_
  refine kg_X1_firstRows C0 hK hP (kv_s (by decide) (by decide)) kq_195 dX1_kindOfRow_2 ?_
  refine lv_aload_n hx hb dX1_kindOfRow_5 rfl (lv_at hl 0 rfl) ?_
  refine lv_aload_n hx hb dX1_kindOfRow_6 rfl (lv_at hl 1 rfl) ?_
  refine lv_iload_n hx hb dX1_kindOfRow_7 rfl (lv_at hl 2 rfl) ?_
  refine kr_Vi (k := (12, 0, 0)) (As := [.ref (ka_a G (0, o2, 0)), .int v2]) (rest := [.ref (ka_a G (17, 0, 0)), .int v2]) C0 hK hP hS hl (km_X1_lastWordOfRow l hI ho2 hq) kd_X1_lastWordOfRow kq_703 (kv_s (by decide) (by decide)) rfl rfl rfl ⟨rfl, rfl, Nat.le_of_ble_eq_true rfl, Nat.le_of_ble_eq_true rfl⟩ rfl (Nat.le_of_ble_eq_true rfl) dX1_kindOfRow_8 ⟨Nat.zero_le _, Nat.zero_le _⟩ (fun r2 σ1 H locs hq hP hS => ?_)
  obtain ⟨b3, hq⟩ := hq
  refine kr_iald C0 hK hP (kv_s (by decide) (by decide)) rfl b3 dX1_kindOfRow_11 ?_
  refine lv_isub hx hb dX1_kindOfRow_12 ?_
  refine lv_iconst (v := 2) hx hb dX1_kindOfRow_13 (by decide) ?_
  refine kr_min C0 hl kq_707 ⟨Nat.le_of_ble_eq_true rfl, Nat.le_of_ble_eq_true rfl⟩ ⟨Nat.zero_le _, Nat.zero_le _⟩ dX1_kindOfRow_14 ?_
  exact kr_iret C0 hK hP hS hq dX1_kindOfRow_17
/-! GlossRows$Layout.beginInFree(LGlossRows$Page;I)I -/
def rm_X1_beginInFree : Room := { frames := 1, cells := 0, slots := 0, locals := 24 }
def kw_X1_beginInFree (σ : ka_S) (o2 : Nat) (v2 : Int32) (Q : Int32 → ka_S → Prop) : Prop := kw_X1_lastWordOfRow σ o2 v2 (fun r2 σ1 => 
  vp_in r2 12 ∧
  Q (((v2 - (σ1.1 (17, 0, 0) r2.toNatClampNeg)) - (2 : Int32)) * (σ1.1 (0, o2, 0) 3)) σ1)
set_option maxHeartbeats 4000000 in
set_option maxRecDepth 100000 in
theorem km_X1_beginInFree (l : Launch) {G : ka_G} (hI : ka_I G) {o2 : Nat} (ho2 : o2 < 18) {σ : ka_S} {v2 : Int32} {Q : Int32 → ka_S → Prop} (hq : kw_X1_beginInFree σ o2 v2 Q) : kc_i l yX1_beginInFree (kw_ yX1_beginInFree cX1_beginInFree 3 (some .int)) rm_X1_beginInFree G [.ref (ka_a G (12, 0, 0)), .ref (ka_a G (0, o2, 0)), .int v2] σ Q := by
  refine ka_of "GlossRows$Layout" rfl (by decide) (Nat.le_of_ble_eq_true rfl) ?_
  intro p e s m below meth c C0 hK H locs hP hS ls hl
  obtain ⟨hx, hb, -, hml, hown, hts, -⟩ := id C0
  have hl : lv_has ls 3 [(0, .ref (ka_a G (12, 0, 0))), (1, .ref (ka_a G (0, o2, 0))), (2, .int v2)] := hl
  unfold kw_X1_beginInFree at hq
  refine lv_iload_n hx hb dX1_beginInFree_0 rfl (lv_at hl 2 rfl) ?_
  refine lv_aload_n hx hb dX1_beginInFree_1 rfl (lv_at hl 0 rfl) ?_
  refine kg_X1_firstRows C0 hK hP (kv_s (by decide) (by decide)) kq_195 dX1_beginInFree_2 ?_
  refine lv_aload_n hx hb dX1_beginInFree_5 rfl (lv_at hl 0 rfl) ?_
  refine lv_aload_n hx hb dX1_beginInFree_6 rfl (lv_at hl 1 rfl) ?_
  refine lv_iload_n hx hb dX1_beginInFree_7 rfl (lv_at hl 2 rfl) ?_
  refine kr_Vi (k := (12, 0, 0)) (As := [.ref (ka_a G (0, o2, 0)), .int v2]) (rest := [.ref (ka_a G (17, 0, 0)), .int v2]) C0 hK hP hS hl (km_X1_lastWordOfRow l hI ho2 hq) kd_X1_lastWordOfRow kq_703 (kv_s (by decide) (by decide)) rfl rfl rfl ⟨rfl, rfl, Nat.le_of_ble_eq_true rfl, Nat.le_of_ble_eq_true rfl⟩ rfl (Nat.le_of_ble_eq_true rfl) dX1_beginInFree_8 ⟨Nat.zero_le _, Nat.zero_le _⟩ (fun r2 σ1 H locs hq hP hS => ?_)
  obtain ⟨b3, hq⟩ := hq
  refine kr_iald C0 hK hP (kv_s (by decide) (by decide)) rfl b3 dX1_beginInFree_11 ?_
  refine lv_isub hx hb dX1_beginInFree_12 ?_
  refine lv_iconst (v := 2) hx hb dX1_beginInFree_13 (by decide) ?_
  refine lv_isub hx hb dX1_beginInFree_14 ?_
  refine lv_aload_n hx hb dX1_beginInFree_15 rfl (lv_at hl 1 rfl) ?_
  refine kg_X4_width C0 hK hP (kv_p (by decide) ho2) kq_158 dX1_beginInFree_16 ?_
  refine lv_imul hx hb dX1_beginInFree_19 ?_
  exact kr_iret C0 hK hP hS hq dX1_beginInFree_20
/-! GlossRows$Layout.lengthOfRow(LGlossRows$Page;I)I -/
def rm_X1_lengthOfRow : Room := { frames := 2, cells := 0, slots := 0, locals := 46 }
def kw_X1_lengthOfRow (σ : ka_S) (o2 : Nat) (v2 : Int32) (Q : Int32 → ka_S → Prop) : Prop := kw_X1_lastWordOfRow σ o2 v2 (fun r2 σ1 => 
  kw_X1_kindOfRow σ1 o2 v2 (fun r4 σ3 => 
  (r4 = (2 : Int32) → vp_in r2 12 ∧
    kw_X1_beginInFree σ3 o2 v2 (fun r9 σ8 => 
    Q (if ((σ3.1 (5, o2, r2.toNatClampNeg) 5) - r9) < (σ3.1 (0, o2, 0) 3) then ((σ3.1 (5, o2, r2.toNatClampNeg) 5) - r9) else (σ3.1 (0, o2, 0) 3)) σ8)) ∧
  (¬ r4 = (2 : Int32) → vp_in r2 12 ∧
    vp_in r2 12 ∧
    Q ((σ3.1 (14, 0, 0) r2.toNatClampNeg) + (σ3.1 (16, 0, 0) r2.toNatClampNeg)) σ3)))
set_option maxHeartbeats 4000000 in
set_option maxRecDepth 100000 in
theorem km_X1_lengthOfRow (l : Launch) {G : ka_G} (hI : ka_I G) {o2 : Nat} (ho2 : o2 < 18) {σ : ka_S} {v2 : Int32} {Q : Int32 → ka_S → Prop} (hq : kw_X1_lengthOfRow σ o2 v2 Q) : kc_i l yX1_lengthOfRow (kw_ yX1_lengthOfRow cX1_lengthOfRow 4 (some .int)) rm_X1_lengthOfRow G [.ref (ka_a G (12, 0, 0)), .ref (ka_a G (0, o2, 0)), .int v2] σ Q := by
  refine ka_of "GlossRows$Layout" rfl (by decide) (Nat.le_of_ble_eq_true rfl) ?_
  intro p e s m below meth c C0 hK H locs hP hS ls hl
  obtain ⟨hx, hb, -, hml, hown, hts, -⟩ := id C0
  have hl : lv_has ls 4 [(0, .ref (ka_a G (12, 0, 0))), (1, .ref (ka_a G (0, o2, 0))), (2, .int v2)] := hl
  unfold kw_X1_lengthOfRow at hq
  refine lv_aload_n hx hb dX1_lengthOfRow_0 rfl (lv_at hl 0 rfl) ?_
  refine lv_aload_n hx hb dX1_lengthOfRow_1 rfl (lv_at hl 1 rfl) ?_
  refine lv_iload_n hx hb dX1_lengthOfRow_2 rfl (lv_at hl 2 rfl) ?_
  refine kr_Vi (k := (12, 0, 0)) (As := [.ref (ka_a G (0, o2, 0)), .int v2]) (rest := []) C0 hK hP hS hl (km_X1_lastWordOfRow l hI ho2 hq) kd_X1_lastWordOfRow kq_703 (kv_s (by decide) (by decide)) rfl rfl rfl ⟨rfl, rfl, Nat.le_of_ble_eq_true rfl, Nat.le_of_ble_eq_true rfl⟩ rfl (Nat.le_of_ble_eq_true rfl) dX1_lengthOfRow_3 ⟨Nat.zero_le _, Nat.zero_le _⟩ (fun r2 σ1 H locs hq hP hS => ?_)
  refine lv_istore_n (lv' := [(3, .int r2), (0, .ref (ka_a G (12, 0, 0))), (1, .ref (ka_a G (0, o2, 0))), (2, .int v2)]) hx hb dX1_lengthOfRow_6 rfl hl (by decide) rfl (fun ls hl => ?_)
  refine lv_aload_n hx hb dX1_lengthOfRow_7 rfl (lv_at hl 1 rfl) ?_
  refine lv_aload_n hx hb dX1_lengthOfRow_8 rfl (lv_at hl 2 rfl) ?_
  refine lv_iload_n hx hb dX1_lengthOfRow_9 rfl (lv_at hl 3 rfl) ?_
  refine kr_Vi (k := (12, 0, 0)) (As := [.ref (ka_a G (0, o2, 0)), .int v2]) (rest := []) C0 hK hP hS hl (km_X1_kindOfRow l hI ho2 hq) kd_X1_kindOfRow kq_714 (kv_s (by decide) (by decide)) rfl rfl rfl ⟨rfl, rfl, Nat.le_of_ble_eq_true rfl, Nat.le_of_ble_eq_true rfl⟩ rfl (Nat.le_of_ble_eq_true rfl) dX1_lengthOfRow_10 ⟨Nat.zero_le _, Nat.zero_le _⟩ (fun r4 σ3 H locs hq hP hS => ?_)
  refine lv_iconst (v := 2) hx hb dX1_lengthOfRow_13 (by decide) ?_
  refine lv_icmp_ne (tgt := 41) hx hb dX1_lengthOfRow_14 (by decide) (fun hc => ?_) (fun hc => ?_)
  · have hq := hq.2 hc
    refine lv_aload_n hx hb dX1_lengthOfRow_41 rfl (lv_at hl 1 rfl) ?_
    refine kg_X1_columns C0 hK hP (kv_s (by decide) (by decide)) kq_186 dX1_lengthOfRow_42 ?_
    refine lv_iload_n hx hb dX1_lengthOfRow_45 rfl (lv_at hl 0 rfl) ?_
    obtain ⟨b5, hq⟩ := hq
    refine kr_iald C0 hK hP (kv_s (by decide) (by decide)) rfl b5 dX1_lengthOfRow_46 ?_
    refine lv_aload_n hx hb dX1_lengthOfRow_47 rfl (lv_at hl 1 rfl) ?_
    refine kg_X1_widths C0 hK hP (kv_s (by decide) (by decide)) kq_194 dX1_lengthOfRow_48 ?_
    refine lv_iload_n hx hb dX1_lengthOfRow_51 rfl (lv_at hl 0 rfl) ?_
    obtain ⟨b6, hq⟩ := hq
    refine kr_iald C0 hK hP (kv_s (by decide) (by decide)) rfl b6 dX1_lengthOfRow_52 ?_
    refine lv_iadd hx hb dX1_lengthOfRow_53 ?_
    exact kr_iret C0 hK hP hS hq dX1_lengthOfRow_54
  · have hq := hq.1 hc
    refine lv_aload_n hx hb dX1_lengthOfRow_17 rfl (lv_at hl 2 rfl) ?_
    refine kg_X4_width C0 hK hP (kv_p (by decide) ho2) kq_158 dX1_lengthOfRow_18 ?_
    refine lv_aload_n hx hb dX1_lengthOfRow_21 rfl (lv_at hl 2 rfl) ?_
    refine kg_X4_words C0 hK hP (kv_p (by decide) ho2) kq_149 dX1_lengthOfRow_22 ?_
    refine lv_iload_n hx hb dX1_lengthOfRow_25 rfl (lv_at hl 0 rfl) ?_
    obtain ⟨b7, hq⟩ := hq
    refine kr_aald (t := 3) C0 hK hP (kv_p (by decide) ho2) rfl rfl b7 rfl dX1_lengthOfRow_26 ?_
    refine kg_X7_freeLength C0 hK hP (kv_w (by decide) (by decide) (k_19 ho2) (vp_lt b7)) kq_74 dX1_lengthOfRow_27 ?_
    refine lv_aload_n hx hb dX1_lengthOfRow_30 rfl (lv_at hl 1 rfl) ?_
    refine lv_aload_n hx hb dX1_lengthOfRow_31 rfl (lv_at hl 2 rfl) ?_
    refine lv_iload_n hx hb dX1_lengthOfRow_32 rfl (lv_at hl 3 rfl) ?_
    refine kr_Vi (k := (12, 0, 0)) (As := [.ref (ka_a G (0, o2, 0)), .int v2]) (rest := [.int (σ3.1 (5, o2, r2.toNatClampNeg) 5), .int (σ3.1 (0, o2, 0) 3)]) C0 hK hP hS hl (km_X1_beginInFree l hI ho2 hq) kd_X1_beginInFree kq_715 (kv_s (by decide) (by decide)) rfl rfl rfl ⟨rfl, rfl, Nat.le_of_ble_eq_true rfl, Nat.le_of_ble_eq_true rfl⟩ rfl (Nat.le_of_ble_eq_true rfl) dX1_lengthOfRow_33 ⟨Nat.zero_le _, Nat.zero_le _⟩ (fun r9 σ8 H locs hq hP hS => ?_)
    refine lv_isub hx hb dX1_lengthOfRow_36 ?_
    refine kr_min C0 hl kq_707 ⟨Nat.le_of_ble_eq_true rfl, Nat.le_of_ble_eq_true rfl⟩ ⟨Nat.zero_le _, Nat.zero_le _⟩ dX1_lengthOfRow_37 ?_
    exact kr_iret C0 hK hP hS hq dX1_lengthOfRow_40
/-! GlossRows$Layout.sentenceOfRow(LGlossRows$Page;I)I -/
def rm_X1_sentenceOfRow : Room := { frames := 1, cells := 0, slots := 0, locals := 24 }
def kw_X1_sentenceOfRow (σ : ka_S) (o2 : Nat) (v2 : Int32) (Q : Int32 → ka_S → Prop) : Prop := kw_X1_lastWordOfRow σ o2 v2 (fun r2 σ1 => 
  vp_in r2 12 ∧
  Q (σ1.1 (15, 0, 0) r2.toNatClampNeg) σ1)
set_option maxHeartbeats 4000000 in
set_option maxRecDepth 100000 in
theorem km_X1_sentenceOfRow (l : Launch) {G : ka_G} (hI : ka_I G) {o2 : Nat} (ho2 : o2 < 18) {σ : ka_S} {v2 : Int32} {Q : Int32 → ka_S → Prop} (hq : kw_X1_sentenceOfRow σ o2 v2 Q) : kc_i l yX1_sentenceOfRow (kw_ yX1_sentenceOfRow cX1_sentenceOfRow 3 (some .int)) rm_X1_sentenceOfRow G [.ref (ka_a G (12, 0, 0)), .ref (ka_a G (0, o2, 0)), .int v2] σ Q := by
  refine ka_of "GlossRows$Layout" rfl (by decide) (Nat.le_of_ble_eq_true rfl) ?_
  intro p e s m below meth c C0 hK H locs hP hS ls hl
  obtain ⟨hx, hb, -, hml, hown, hts, -⟩ := id C0
  have hl : lv_has ls 3 [(0, .ref (ka_a G (12, 0, 0))), (1, .ref (ka_a G (0, o2, 0))), (2, .int v2)] := hl
  unfold kw_X1_sentenceOfRow at hq
  refine lv_aload_n hx hb dX1_sentenceOfRow_0 rfl (lv_at hl 0 rfl) ?_
  refine kg_X1_sentences C0 hK hP (kv_s (by decide) (by decide)) kq_188 dX1_sentenceOfRow_1 ?_
  refine lv_aload_n hx hb dX1_sentenceOfRow_4 rfl (lv_at hl 0 rfl) ?_
  refine lv_aload_n hx hb dX1_sentenceOfRow_5 rfl (lv_at hl 1 rfl) ?_
  refine lv_iload_n hx hb dX1_sentenceOfRow_6 rfl (lv_at hl 2 rfl) ?_
  refine kr_Vi (k := (12, 0, 0)) (As := [.ref (ka_a G (0, o2, 0)), .int v2]) (rest := [.ref (ka_a G (15, 0, 0))]) C0 hK hP hS hl (km_X1_lastWordOfRow l hI ho2 hq) kd_X1_lastWordOfRow kq_703 (kv_s (by decide) (by decide)) rfl rfl rfl ⟨rfl, rfl, Nat.le_of_ble_eq_true rfl, Nat.le_of_ble_eq_true rfl⟩ rfl (Nat.le_of_ble_eq_true rfl) dX1_sentenceOfRow_7 ⟨Nat.zero_le _, Nat.zero_le _⟩ (fun r2 σ1 H locs hq hP hS => ?_)
  obtain ⟨b3, hq⟩ := hq
  refine kr_iald C0 hK hP (kv_s (by decide) (by decide)) rfl b3 dX1_sentenceOfRow_10 ?_
  exact kr_iret C0 hK hP hS hq dX1_sentenceOfRow_11
/-! GlossRows$Layout.codeInRow(LGlossRows$Page;II)I -/
def rm_X1_codeInRow : Room := { frames := 4, cells := 0, slots := 0, locals := 93 }
def kw_X1_codeInRow_58 (o2 : Nat) (Q : Int32 → ka_S → Prop) : Nat → ka_S → Int32 → Int32 → Int32 → Int32 → Prop
  | 0, _, _, _, _, _ => False
  | n + 1, σ, v3, v4, v5, v6 => (v6 < (0 : Int32) → Q (32 : Int32) σ) ∧
    (¬ v6 < (0 : Int32) → vp_in v6 12 ∧
      vp_in v4 12 ∧
      ((σ.1 (13, 0, 0) v6.toNatClampNeg) = (σ.1 (13, 0, 0) v4.toNatClampNeg) → vp_in v6 12 ∧
        (v3 < (σ.1 (14, 0, 0) v6.toNatClampNeg) → ∀ x16 : Int32, x16 = v6 + (-1 : Int32) →
          (kw_X1_codeInRow_58 o2 Q n) σ v3 v4 v5 x16) ∧
        (¬ v3 < (σ.1 (14, 0, 0) v6.toNatClampNeg) → vp_in v6 12 ∧
          vp_in v6 12 ∧
          kw_X7_codeShown σ o2 v6.toNatClampNeg v5 (σ.1 (0, o2, 0) 5) (v3 - (σ.1 (14, 0, 0) v6.toNatClampNeg)) (fun r20 σ19 => 
          Q r20 σ19))) ∧
      (¬ (σ.1 (13, 0, 0) v6.toNatClampNeg) = (σ.1 (13, 0, 0) v4.toNatClampNeg) → Q (32 : Int32) σ))
def kw_X1_codeInRow (σ : ka_S) (o2 : Nat) (v2 : Int32) (v3 : Int32) (Q : Int32 → ka_S → Prop) : Prop := kw_X1_lengthOfRow σ o2 v2 (fun r2 σ1 => 
  (v3 < r2 → kw_X1_lastWordOfRow σ1 o2 v2 (fun r4 σ3 => 
    kw_X1_kindOfRow σ3 o2 v2 (fun r6 σ5 => 
    (r6 = (2 : Int32) → vp_in r4 12 ∧
      kw_X1_beginInFree σ5 o2 v2 (fun r10 σ9 => 
      kw_X7_codeOfFree σ9 o2 r4.toNatClampNeg (r10 + v3) (fun r12 σ11 => 
      Q r12 σ11))) ∧
    (¬ r6 = (2 : Int32) → ∃ n7 : Nat, kw_X1_codeInRow_58 o2 Q n7 σ5 v3 r4 r6 r4)))) ∧
  (¬ v3 < r2 → Q (-9 : Int32) σ1))
set_option maxHeartbeats 4000000 in
set_option maxRecDepth 100000 in
theorem kb_X1_codeInRow_58 {p : Program} {l : Launch} {e : Env} {s : State} {m : MethodId} {args : Array Value} {below : List Frame} {meth : Method} {c : Code} {G : ka_G} (hI : ka_I G) {o2 : Nat} (ho2 : o2 < 18) (C0 : ka_C p s m args meth c cX1_codeInRow 7 "GlossRows$Layout" (some .int)) (hK : ka_Kn G s) {Q : Int32 → ka_S → Prop} : ∀ (n : Nat) (σ : ka_S) (v3 : Int32) (v4 : Int32) (v5 : Int32) (v6 : Int32), kw_X1_codeInRow_58 o2 Q n σ v3 v4 v5 v6 → ∀ (H : Heap) (locs : List Loc), ka_P G σ H → va_S (ka_A G) s.heap H locs → ∀ ls : Array Slot, lv_has ls 7 [(0, .ref (ka_a G (12, 0, 0))), (1, .ref (ka_a G (0, o2, 0))), (3, .int v3), (4, .int v4), (5, .int v5), (6, .int v6)] → W p l e rm_X1_codeInRow s m args below meth c H locs 0 0 (MQ below (va_Qi Q (ka_B G) (ka_A G)) args s 0 0 (ka_A G)) (F0 m 58 ls []) := by
  obtain ⟨hx, hb, -, hml, hown, hts, -⟩ := id C0
  intro n
  induction n with
  | zero =>
    intro σ v3 v4 v5 v6 hq
    rw [kw_X1_codeInRow_58] at hq
    exact hq.elim
  | succ n ih =>
    intro σ v3 v4 v5 v6 hq H locs hP hS ls hl
    rw [kw_X1_codeInRow_58] at hq
    refine lv_iload hx hb dX1_codeInRow_58 (lv_at hl 5 rfl) ?_
    refine lv_if_lt (tgt := 123) hx hb dX1_codeInRow_60 (by decide) (fun hc => ?_) (fun hc => ?_)
    · have hq := hq.1 hc
      refine lv_bipush (v := 32) hx hb dX1_codeInRow_123 (by decide) ?_
      exact kr_iret C0 hK hP hS hq dX1_codeInRow_125
    · have hq := hq.2 hc
      refine lv_aload_n hx hb dX1_codeInRow_63 rfl (lv_at hl 0 rfl) ?_
      refine kg_X1_lines C0 hK hP (kv_s (by decide) (by decide)) kq_184 dX1_codeInRow_64 ?_
      refine lv_iload hx hb dX1_codeInRow_67 (lv_at hl 5 rfl) ?_
      obtain ⟨b13, hq⟩ := hq
      refine kr_iald C0 hK hP (kv_s (by decide) (by decide)) rfl b13 dX1_codeInRow_69 ?_
      refine lv_aload_n hx hb dX1_codeInRow_70 rfl (lv_at hl 0 rfl) ?_
      refine kg_X1_lines C0 hK hP (kv_s (by decide) (by decide)) kq_184 dX1_codeInRow_71 ?_
      refine lv_iload hx hb dX1_codeInRow_74 (lv_at hl 3 rfl) ?_
      obtain ⟨b14, hq⟩ := hq
      refine kr_iald C0 hK hP (kv_s (by decide) (by decide)) rfl b14 dX1_codeInRow_76 ?_
      refine lv_icmp_ne (tgt := 123) hx hb dX1_codeInRow_77 (by decide) (fun hc => ?_) (fun hc => ?_)
      · have hq := hq.2 hc
        refine lv_bipush (v := 32) hx hb dX1_codeInRow_123 (by decide) ?_
        exact kr_iret C0 hK hP hS hq dX1_codeInRow_125
      · have hq := hq.1 hc
        refine lv_iload_n hx hb dX1_codeInRow_80 rfl (lv_at hl 2 rfl) ?_
        refine lv_aload_n hx hb dX1_codeInRow_81 rfl (lv_at hl 0 rfl) ?_
        refine kg_X1_columns C0 hK hP (kv_s (by decide) (by decide)) kq_186 dX1_codeInRow_82 ?_
        refine lv_iload hx hb dX1_codeInRow_85 (lv_at hl 5 rfl) ?_
        obtain ⟨b15, hq⟩ := hq
        refine kr_iald C0 hK hP (kv_s (by decide) (by decide)) rfl b15 dX1_codeInRow_87 ?_
        refine lv_icmp_lt (tgt := 117) hx hb dX1_codeInRow_88 (by decide) (fun hc => ?_) (fun hc => ?_)
        · have hq := hq.1 hc
          obtain ⟨x16, ex16⟩ : ∃ y : Int32, y = v6 + (-1 : Int32) := ⟨_, rfl⟩
          have hq := hq x16 ex16
          refine lv_iinc (v := x16) (lv' := [(6, .int x16), (0, .ref (ka_a G (12, 0, 0))), (1, .ref (ka_a G (0, o2, 0))), (3, .int v3), (4, .int v4), (5, .int v5)]) hx hb dX1_codeInRow_117 hl (k := 5) rfl (by rw [ex16]; rfl) (by decide) rfl (fun ls hl => ?_)
          refine lv_goto (tgt := 58) hx hb dX1_codeInRow_120 (by decide) ?_
          exact ih σ v3 v4 v5 x16 hq H locs hP hS ls (lv_sub hl [1, 2, 3, 4, 5, 0] rfl)
        · have hq := hq.2 hc
          refine lv_aload_n hx hb dX1_codeInRow_91 rfl (lv_at hl 1 rfl) ?_
          refine kg_X4_words C0 hK hP (kv_p (by decide) ho2) kq_149 dX1_codeInRow_92 ?_
          refine lv_iload hx hb dX1_codeInRow_95 (lv_at hl 5 rfl) ?_
          obtain ⟨b17, hq⟩ := hq
          refine kr_aald (t := 3) C0 hK hP (kv_p (by decide) ho2) rfl rfl b17 rfl dX1_codeInRow_97 ?_
          refine lv_iload hx hb dX1_codeInRow_98 (lv_at hl 4 rfl) ?_
          refine lv_aload_n hx hb dX1_codeInRow_100 rfl (lv_at hl 1 rfl) ?_
          refine kg_X4_way C0 hK hP (kv_p (by decide) ho2) kq_164 dX1_codeInRow_101 ?_
          refine lv_iload_n hx hb dX1_codeInRow_104 rfl (lv_at hl 2 rfl) ?_
          refine lv_aload_n hx hb dX1_codeInRow_105 rfl (lv_at hl 0 rfl) ?_
          refine kg_X1_columns C0 hK hP (kv_s (by decide) (by decide)) kq_186 dX1_codeInRow_106 ?_
          refine lv_iload hx hb dX1_codeInRow_109 (lv_at hl 5 rfl) ?_
          obtain ⟨b18, hq⟩ := hq
          refine kr_iald C0 hK hP (kv_s (by decide) (by decide)) rfl b18 dX1_codeInRow_111 ?_
          refine lv_isub hx hb dX1_codeInRow_112 ?_
          refine kr_Vi (k := (5, o2, v6.toNatClampNeg)) (As := [.int v5, .int (σ.1 (0, o2, 0) 5), .int (v3 - (σ.1 (14, 0, 0) v6.toNatClampNeg))]) (rest := []) C0 hK hP hS hl (km_X7_codeShown l hI (k_19 ho2) (vp_lt b17) hq) kd_X7_codeShown kq_740 (kv_w (by decide) (by decide) (k_19 ho2) (vp_lt b17)) rfl rfl rfl ⟨rfl, rfl, Nat.le_of_ble_eq_true rfl, Nat.le_of_ble_eq_true rfl⟩ rfl (Nat.le_of_ble_eq_true rfl) dX1_codeInRow_113 ⟨Nat.zero_le _, Nat.zero_le _⟩ (fun r20 σ19 H locs hq hP hS => ?_)
          exact kr_iret C0 hK hP hS hq dX1_codeInRow_116
set_option maxHeartbeats 4000000 in
set_option maxRecDepth 100000 in
theorem km_X1_codeInRow (l : Launch) {G : ka_G} (hI : ka_I G) {o2 : Nat} (ho2 : o2 < 18) {σ : ka_S} {v2 : Int32} {v3 : Int32} {Q : Int32 → ka_S → Prop} (hq : kw_X1_codeInRow σ o2 v2 v3 Q) : kc_i l yX1_codeInRow (kw_ yX1_codeInRow cX1_codeInRow 7 (some .int)) rm_X1_codeInRow G [.ref (ka_a G (12, 0, 0)), .ref (ka_a G (0, o2, 0)), .int v2, .int v3] σ Q := by
  refine ka_of "GlossRows$Layout" rfl (by decide) (Nat.le_of_ble_eq_true rfl) ?_
  intro p e s m below meth c C0 hK H locs hP hS ls hl
  obtain ⟨hx, hb, -, hml, hown, hts, -⟩ := id C0
  have hl : lv_has ls 7 [(0, .ref (ka_a G (12, 0, 0))), (1, .ref (ka_a G (0, o2, 0))), (2, .int v2), (3, .int v3)] := hl
  unfold kw_X1_codeInRow at hq
  refine lv_iload_n hx hb dX1_codeInRow_0 rfl (lv_at hl 3 rfl) ?_
  refine lv_aload_n hx hb dX1_codeInRow_1 rfl (lv_at hl 0 rfl) ?_
  refine lv_aload_n hx hb dX1_codeInRow_2 rfl (lv_at hl 1 rfl) ?_
  refine lv_iload_n hx hb dX1_codeInRow_3 rfl (lv_at hl 2 rfl) ?_
  refine kr_Vi (k := (12, 0, 0)) (As := [.ref (ka_a G (0, o2, 0)), .int v2]) (rest := [.int v3]) C0 hK hP hS hl (km_X1_lengthOfRow l hI ho2 hq) kd_X1_lengthOfRow kq_735 (kv_s (by decide) (by decide)) rfl rfl rfl ⟨rfl, rfl, Nat.le_of_ble_eq_true rfl, Nat.le_of_ble_eq_true rfl⟩ rfl (Nat.le_of_ble_eq_true rfl) dX1_codeInRow_4 ⟨Nat.zero_le _, Nat.zero_le _⟩ (fun r2 σ1 H locs hq hP hS => ?_)
  refine lv_icmp_lt (tgt := 13) hx hb dX1_codeInRow_7 (by decide) (fun hc => ?_) (fun hc => ?_)
  · have hq := hq.1 hc
    refine lv_aload_n hx hb dX1_codeInRow_13 rfl (lv_at hl 0 rfl) ?_
    refine lv_aload_n hx hb dX1_codeInRow_14 rfl (lv_at hl 1 rfl) ?_
    refine lv_iload_n hx hb dX1_codeInRow_15 rfl (lv_at hl 2 rfl) ?_
    refine kr_Vi (k := (12, 0, 0)) (As := [.ref (ka_a G (0, o2, 0)), .int v2]) (rest := []) C0 hK hP hS hl (km_X1_lastWordOfRow l hI ho2 hq) kd_X1_lastWordOfRow kq_703 (kv_s (by decide) (by decide)) rfl rfl rfl ⟨rfl, rfl, Nat.le_of_ble_eq_true rfl, Nat.le_of_ble_eq_true rfl⟩ rfl (Nat.le_of_ble_eq_true rfl) dX1_codeInRow_16 ⟨Nat.zero_le _, Nat.zero_le _⟩ (fun r4 σ3 H locs hq hP hS => ?_)
    refine lv_istore (lv' := [(4, .int r4), (0, .ref (ka_a G (12, 0, 0))), (1, .ref (ka_a G (0, o2, 0))), (2, .int v2), (3, .int v3)]) hx hb dX1_codeInRow_19 hl (by decide) rfl (fun ls hl => ?_)
    refine lv_aload_n hx hb dX1_codeInRow_21 rfl (lv_at hl 1 rfl) ?_
    refine lv_aload_n hx hb dX1_codeInRow_22 rfl (lv_at hl 2 rfl) ?_
    refine lv_iload_n hx hb dX1_codeInRow_23 rfl (lv_at hl 3 rfl) ?_
    refine kr_Vi (k := (12, 0, 0)) (As := [.ref (ka_a G (0, o2, 0)), .int v2]) (rest := []) C0 hK hP hS hl (km_X1_kindOfRow l hI ho2 hq) kd_X1_kindOfRow kq_714 (kv_s (by decide) (by decide)) rfl rfl rfl ⟨rfl, rfl, Nat.le_of_ble_eq_true rfl, Nat.le_of_ble_eq_true rfl⟩ rfl (Nat.le_of_ble_eq_true rfl) dX1_codeInRow_24 ⟨Nat.zero_le _, Nat.zero_le _⟩ (fun r6 σ5 H locs hq hP hS => ?_)
    refine lv_istore (lv' := [(5, .int r6), (4, .int r4), (0, .ref (ka_a G (12, 0, 0))), (1, .ref (ka_a G (0, o2, 0))), (2, .int v2), (3, .int v3)]) hx hb dX1_codeInRow_27 hl (by decide) rfl (fun ls hl => ?_)
    refine lv_iload hx hb dX1_codeInRow_29 (lv_at hl 0 rfl) ?_
    refine lv_iconst (v := 2) hx hb dX1_codeInRow_31 (by decide) ?_
    refine lv_icmp_ne (tgt := 54) hx hb dX1_codeInRow_32 (by decide) (fun hc => ?_) (fun hc => ?_)
    · have hq := hq.2 hc
      refine lv_iload hx hb dX1_codeInRow_54 (lv_at hl 1 rfl) ?_
      refine lv_istore (lv' := [(6, .int r4), (5, .int r6), (4, .int r4), (0, .ref (ka_a G (12, 0, 0))), (1, .ref (ka_a G (0, o2, 0))), (2, .int v2), (3, .int v3)]) hx hb dX1_codeInRow_56 hl (by decide) rfl (fun ls hl => ?_)
      obtain ⟨n7, hq⟩ := hq
      exact kb_X1_codeInRow_58 hI ho2 C0 hK n7 σ5 v3 r4 r6 r4 hq H locs hP hS ls (lv_sub hl [3, 4, 6, 2, 1, 0] rfl)
    · have hq := hq.1 hc
      refine lv_aload_n hx hb dX1_codeInRow_35 rfl (lv_at hl 3 rfl) ?_
      refine kg_X4_words C0 hK hP (kv_p (by decide) ho2) kq_149 dX1_codeInRow_36 ?_
      refine lv_iload hx hb dX1_codeInRow_39 (lv_at hl 1 rfl) ?_
      obtain ⟨b8, hq⟩ := hq
      refine kr_aald (t := 3) C0 hK hP (kv_p (by decide) ho2) rfl rfl b8 rfl dX1_codeInRow_41 ?_
      refine lv_aload_n hx hb dX1_codeInRow_42 rfl (lv_at hl 2 rfl) ?_
      refine lv_aload_n hx hb dX1_codeInRow_43 rfl (lv_at hl 3 rfl) ?_
      refine lv_iload_n hx hb dX1_codeInRow_44 rfl (lv_at hl 4 rfl) ?_
      refine kr_Vi (k := (12, 0, 0)) (As := [.ref (ka_a G (0, o2, 0)), .int v2]) (rest := [.ref (ka_a G (5, o2, r4.toNatClampNeg))]) C0 hK hP hS hl (km_X1_beginInFree l hI ho2 hq) kd_X1_beginInFree kq_715 (kv_s (by decide) (by decide)) rfl rfl rfl ⟨rfl, rfl, Nat.le_of_ble_eq_true rfl, Nat.le_of_ble_eq_true rfl⟩ rfl (Nat.le_of_ble_eq_true rfl) dX1_codeInRow_45 ⟨Nat.zero_le _, Nat.zero_le _⟩ (fun r10 σ9 H locs hq hP hS => ?_)
      refine lv_iload_n hx hb dX1_codeInRow_48 rfl (lv_at hl 5 rfl) ?_
      refine lv_iadd hx hb dX1_codeInRow_49 ?_
      refine kr_Vi (k := (5, o2, r4.toNatClampNeg)) (As := [.int (r10 + v3)]) (rest := []) C0 hK hP hS hl (km_X7_codeOfFree l hI (k_19 ho2) (vp_lt b8) hq) kd_X7_codeOfFree kq_736 (kv_w (by decide) (by decide) (k_19 ho2) (vp_lt b8)) rfl rfl rfl ⟨rfl, rfl, Nat.le_of_ble_eq_true rfl, Nat.le_of_ble_eq_true rfl⟩ rfl (Nat.le_of_ble_eq_true rfl) dX1_codeInRow_50 ⟨Nat.zero_le _, Nat.zero_le _⟩ (fun r12 σ11 H locs hq hP hS => ?_)
      exact kr_iret C0 hK hP hS hq dX1_codeInRow_53
  · have hq := hq.2 hc
    refine lv_bipush (v := -9) hx hb dX1_codeInRow_10 (by decide) ?_
    exact kr_iret C0 hK hP hS hq dX1_codeInRow_12
/-! GlossRows$Reader.hasPartLetters()Z -/
def rm_X5_hasPartLetters : Room := { frames := 1, cells := 0, slots := 0, locals := 21 }
def kw_X5_hasPartLetters (σ : ka_S) (Q : Int32 → ka_S → Prop) : Prop := (σ.1 (18, 0, 0) 2).toNatClampNeg < 12 ∧
  vp_in (σ.1 (18, 0, 0) 4) 4 ∧
  kw_X2_length σ (σ.2 (6, 18, (σ.1 (18, 0, 0) 2).toNatClampNeg) (σ.1 (18, 0, 0) 4).toNatClampNeg) (fun r3 σ2 => 
  (r3 ≤ (0 : Int32) → Q (0 : Int32) σ2) ∧
  (¬ r3 ≤ (0 : Int32) → Q (1 : Int32) σ2))
set_option maxHeartbeats 4000000 in
set_option maxRecDepth 100000 in
theorem km_X5_hasPartLetters (l : Launch) {G : ka_G} (hI : ka_I G) {σ : ka_S} {Q : Int32 → ka_S → Prop} (hq : kw_X5_hasPartLetters σ Q) : kc_i l yX5_hasPartLetters (kw_ yX5_hasPartLetters cX5_hasPartLetters 1 (some .boolean)) rm_X5_hasPartLetters G [.ref (ka_a G (18, 0, 0))] σ Q := by
  refine ka_of "GlossRows$Reader" rfl (by decide) (Nat.le_of_ble_eq_true rfl) ?_
  intro p e s m below meth c C0 hK H locs hP hS ls hl
  obtain ⟨hx, hb, -, hml, hown, hts, -⟩ := id C0
  have hl : lv_has ls 1 [(0, .ref (ka_a G (18, 0, 0)))] := hl
  unfold kw_X5_hasPartLetters at hq
  refine lv_aload_n hx hb dX5_hasPartLetters_0 rfl (lv_at hl 0 rfl) ?_
  obtain ⟨hcur, hq⟩ := hq
  refine kg_X5_current C0 hK hP (kv_s (by decide) (by decide)) kq_101 dX5_hasPartLetters_1 ?_
  refine kg_X7_parts C0 hK hP (kv_w (by decide) (by decide) (by decide) hcur) kq_59 dX5_hasPartLetters_4 ?_
  refine lv_aload_n hx hb dX5_hasPartLetters_7 rfl (lv_at hl 0 rfl) ?_
  refine kg_X5_place C0 hK hP (kv_s (by decide) (by decide)) kq_103 dX5_hasPartLetters_8 ?_
  obtain ⟨b1, hq⟩ := hq
  refine kr_lald C0 hK hP (kv_w (by decide) (by decide) (by decide) hcur) rfl b1 dX5_hasPartLetters_11 ?_
  refine kr_Si (As := [.long (σ.2 (6, 18, (σ.1 (18, 0, 0) 2).toNatClampNeg) (σ.1 (18, 0, 0) 4).toNatClampNeg)]) (rest := []) C0 hK hP hS hl (km_X2_length l hI hq) kd_X2_length kq_302 ⟨rfl, rfl, Nat.le_of_ble_eq_true rfl, Nat.le_of_ble_eq_true rfl⟩ rfl (Nat.le_of_ble_eq_true rfl) dX5_hasPartLetters_12 ⟨Nat.zero_le _, Nat.zero_le _⟩ (fun r3 σ2 H locs hq hP hS => ?_)
  refine lv_if_le (tgt := 22) hx hb dX5_hasPartLetters_15 (by decide) (fun hc => ?_) (fun hc => ?_)
  · have hq := hq.1 hc
    refine lv_iconst (v := 0) hx hb dX5_hasPartLetters_22 (by decide) ?_
    exact kr_zret C0 hK hP hS rfl hq dX5_hasPartLetters_23
  · have hq := hq.2 hc
    refine lv_iconst (v := 1) hx hb dX5_hasPartLetters_18 (by decide) ?_
    refine lv_goto (tgt := 23) hx hb dX5_hasPartLetters_19 (by decide) ?_
    exact kr_zret C0 hK hP hS rfl hq dX5_hasPartLetters_23
/-! GlossRows$Reader.isWordWhole()Z -/
def rm_X5_isWordWhole : Room := { frames := 2, cells := 0, slots := 0, locals := 41 }
def kw_X5_isWordWhole (σ : ka_S) (Q : Int32 → ka_S → Prop) : Prop := ((σ.1 (18, 0, 0) 3) = (0 : Int32) → kw_X5_hasPartLetters σ (fun r2 σ1 => 
    (r2 = 0 ∨ r2 = 1) ∧
    Q r2 σ1)) ∧
  (¬ (σ.1 (18, 0, 0) 3) = (0 : Int32) → (σ.1 (18, 0, 0) 2).toNatClampNeg < 12 ∧
    ((σ.1 (18, 0, 0) 4) = ((σ.1 (5, 18, (σ.1 (18, 0, 0) 2).toNatClampNeg) 4) - (1 : Int32)) → Q (1 : Int32) σ) ∧
    (¬ (σ.1 (18, 0, 0) 4) = ((σ.1 (5, 18, (σ.1 (18, 0, 0) 2).toNatClampNeg) 4) - (1 : Int32)) → Q (0 : Int32) σ))
set_option maxHeartbeats 4000000 in
set_option maxRecDepth 100000 in
theorem km_X5_isWordWhole (l : Launch) {G : ka_G} (hI : ka_I G) {σ : ka_S} {Q : Int32 → ka_S → Prop} (hq : kw_X5_isWordWhole σ Q) : kc_i l yX5_isWordWhole (kw_ yX5_isWordWhole cX5_isWordWhole 1 (some .boolean)) rm_X5_isWordWhole G [.ref (ka_a G (18, 0, 0))] σ Q := by
  refine ka_of "GlossRows$Reader" rfl (by decide) (Nat.le_of_ble_eq_true rfl) ?_
  intro p e s m below meth c C0 hK H locs hP hS ls hl
  obtain ⟨hx, hb, -, hml, hown, hts, -⟩ := id C0
  have hl : lv_has ls 1 [(0, .ref (ka_a G (18, 0, 0)))] := hl
  unfold kw_X5_isWordWhole at hq
  refine lv_aload_n hx hb dX5_isWordWhole_0 rfl (lv_at hl 0 rfl) ?_
  refine kg_X5_inGlosses C0 hK hP (kv_s (by decide) (by decide)) kq_102 dX5_isWordWhole_1 ?_
  refine lv_if_eq (tgt := 31) hx hb dX5_isWordWhole_4 (by decide) (fun hc => ?_) (fun hc => ?_)
  · have hq := hq.1 hc
    refine lv_aload_n hx hb dX5_isWordWhole_31 rfl (lv_at hl 0 rfl) ?_
    refine kr_Vi (k := (18, 0, 0)) (As := []) (rest := []) C0 hK hP hS hl (km_X5_hasPartLetters l hI hq) kd_X5_hasPartLetters kq_298 (kv_s (by decide) (by decide)) rfl rfl rfl ⟨rfl, rfl, Nat.le_of_ble_eq_true rfl, Nat.le_of_ble_eq_true rfl⟩ rfl (Nat.le_of_ble_eq_true rfl) dX5_isWordWhole_32 ⟨Nat.zero_le _, Nat.zero_le _⟩ (fun r2 σ1 H locs hq hP hS => ?_)
    obtain ⟨hz, hq⟩ := hq
    exact kr_zret C0 hK hP hS (kz_n hz) hq dX5_isWordWhole_35
  · have hq := hq.2 hc
    refine lv_aload_n hx hb dX5_isWordWhole_7 rfl (lv_at hl 0 rfl) ?_
    refine kg_X5_place C0 hK hP (kv_s (by decide) (by decide)) kq_103 dX5_isWordWhole_8 ?_
    refine lv_aload_n hx hb dX5_isWordWhole_11 rfl (lv_at hl 0 rfl) ?_
    obtain ⟨hcur, hq⟩ := hq
    refine kg_X5_current C0 hK hP (kv_s (by decide) (by decide)) kq_101 dX5_isWordWhole_12 ?_
    refine kg_X7_size C0 hK hP (kv_w (by decide) (by decide) (by decide) hcur) kq_71 dX5_isWordWhole_15 ?_
    refine lv_iconst (v := 1) hx hb dX5_isWordWhole_18 (by decide) ?_
    refine lv_isub hx hb dX5_isWordWhole_19 ?_
    refine lv_icmp_ne (tgt := 27) hx hb dX5_isWordWhole_20 (by decide) (fun hc => ?_) (fun hc => ?_)
    · have hq := hq.2 hc
      refine lv_iconst (v := 0) hx hb dX5_isWordWhole_27 (by decide) ?_
      refine lv_goto (tgt := 35) hx hb dX5_isWordWhole_28 (by decide) ?_
      exact kr_zret C0 hK hP hS rfl hq dX5_isWordWhole_35
    · have hq := hq.1 hc
      refine lv_iconst (v := 1) hx hb dX5_isWordWhole_23 (by decide) ?_
      refine lv_goto (tgt := 35) hx hb dX5_isWordWhole_24 (by decide) ?_
      exact kr_zret C0 hK hP hS rfl hq dX5_isWordWhole_35
/-! GlossRows$Reader.openWord()V -/
def rm_X5_openWord : Room := { frames := 1, cells := 0, slots := 0, locals := 21 }
def kw_X5_openWord (σ : ka_S) (Q : ka_S → Prop) : Prop := ((12 : Int32) ≤ (σ.1 (18, 0, 0) 1) → Q σ) ∧
  (¬ (12 : Int32) ≤ (σ.1 (18, 0, 0) 1) → vp_in (σ.1 (18, 0, 0) 1) 12 ∧
    ∀ σ2 : ka_S, σ2 = ka_wI σ (18, 0, 0) 2 (σ.1 (18, 0, 0) 1) →
    ∀ σ3 : ka_S, σ3 = ka_wI σ2 (18, 0, 0) 1 ((σ2.1 (18, 0, 0) 1) + (1 : Int32)) →
    (σ3.1 (18, 0, 0) 2).toNatClampNeg < 12 ∧
    kw_X7_reset σ3 18 ((σ3.1 (18, 0, 0) 2).toNatClampNeg) (fun σ4 => 
    (σ4.1 (18, 0, 0) 2).toNatClampNeg < 12 ∧
    kw_X7_openPart σ4 18 ((σ4.1 (18, 0, 0) 2).toNatClampNeg) (-9 : Int32) (fun σ5 => 
    ∀ σ6 : ka_S, σ6 = ka_wI σ5 (18, 0, 0) 3 (0 : Int32) →
    ∀ σ7 : ka_S, σ7 = ka_wI σ6 (18, 0, 0) 4 (0 : Int32) →
    Q σ7)))
set_option maxHeartbeats 4000000 in
set_option maxRecDepth 100000 in
theorem km_X5_openWord (l : Launch) {G : ka_G} (hI : ka_I G) {σ : ka_S} {Q : ka_S → Prop} (hq : kw_X5_openWord σ Q) : kc_v l yX5_openWord (kw_ yX5_openWord cX5_openWord 1 none) rm_X5_openWord G [.ref (ka_a G (18, 0, 0))] σ Q := by
  refine ka_of "GlossRows$Reader" rfl (by decide) (Nat.le_of_ble_eq_true rfl) ?_
  intro p e s m below meth c C0 hK H locs hP hS ls hl
  obtain ⟨hx, hb, -, hml, hown, hts, -⟩ := id C0
  have hl : lv_has ls 1 [(0, .ref (ka_a G (18, 0, 0)))] := hl
  unfold kw_X5_openWord at hq
  refine lv_aload_n hx hb dX5_openWord_0 rfl (lv_at hl 0 rfl) ?_
  refine kg_X5_count C0 hK hP (kv_s (by decide) (by decide)) kq_98 dX5_openWord_1 ?_
  refine lv_bipush (v := 12) hx hb dX5_openWord_4 (by decide) ?_
  refine lv_icmp_ge (tgt := 58) hx hb dX5_openWord_6 (by decide) (fun hc => ?_) (fun hc => ?_)
  · have hq := hq.1 hc
    exact kr_vret C0 hK hP hS hq dX5_openWord_58
  · have hq := hq.2 hc
    refine lv_aload_n hx hb dX5_openWord_9 rfl (lv_at hl 0 rfl) ?_
    refine lv_aload_n hx hb dX5_openWord_10 rfl (lv_at hl 0 rfl) ?_
    refine kg_X5_words C0 hK hP (kv_s (by decide) (by decide)) kq_96 dX5_openWord_11 ?_
    refine lv_aload_n hx hb dX5_openWord_14 rfl (lv_at hl 0 rfl) ?_
    refine kg_X5_count C0 hK hP (kv_s (by decide) (by decide)) kq_98 dX5_openWord_15 ?_
    obtain ⟨b1, hq⟩ := hq
    refine kr_aald (t := 3) C0 hK hP (kv_s (by decide) (by decide)) rfl rfl b1 rfl dX5_openWord_18 ?_
    refine kp_X5_current (x := σ.1 (18, 0, 0) 1) C0 hK hI hP hS (kv_s (by decide) (by decide)) kq_101 dX5_openWord_19 (fun H locs hP hS => ?_)
    obtain ⟨σ2, eσ2⟩ : ∃ z : ka_S, z = ka_wI σ (18, 0, 0) 2 (σ.1 (18, 0, 0) 1) := ⟨_, rfl⟩
    rw [← eσ2] at hP
    have hq := hq σ2 eσ2
    refine lv_aload_n hx hb dX5_openWord_22 rfl (lv_at hl 0 rfl) ?_
    refine lv_dup hx hb dX5_openWord_23 rfl ?_
    refine kg_X5_count C0 hK hP (kv_s (by decide) (by decide)) kq_98 dX5_openWord_24 ?_
    refine lv_iconst (v := 1) hx hb dX5_openWord_27 (by decide) ?_
    refine lv_iadd hx hb dX5_openWord_28 ?_
    refine kp_X5_count C0 hK hI hP hS (kv_s (by decide) (by decide)) kq_98 dX5_openWord_29 (fun H locs hP hS => ?_)
    obtain ⟨σ3, eσ3⟩ : ∃ z : ka_S, z = ka_wI σ2 (18, 0, 0) 1 ((σ2.1 (18, 0, 0) 1) + (1 : Int32)) := ⟨_, rfl⟩
    rw [← eσ3] at hP
    have hq := hq σ3 eσ3
    refine lv_aload_n hx hb dX5_openWord_32 rfl (lv_at hl 0 rfl) ?_
    obtain ⟨hcur, hq⟩ := hq
    refine kg_X5_current C0 hK hP (kv_s (by decide) (by decide)) kq_101 dX5_openWord_33 ?_
    refine kr_Vv (k := (5, 18, (σ3.1 (18, 0, 0) 2).toNatClampNeg)) (As := []) (rest := []) C0 hK hP hS hl (km_X7_reset l hI (by decide) hcur hq) kd_X7_reset kq_278 (kv_w (by decide) (by decide) (by decide) hcur) rfl rfl rfl ⟨rfl, rfl, Nat.le_of_ble_eq_true rfl, Nat.le_of_ble_eq_true rfl⟩ rfl (Nat.le_of_ble_eq_true rfl) dX5_openWord_36 ⟨Nat.zero_le _, Nat.zero_le _⟩ (fun σ4 H locs hq hP hS => ?_)
    refine lv_aload_n hx hb dX5_openWord_39 rfl (lv_at hl 0 rfl) ?_
    obtain ⟨hcur, hq⟩ := hq
    refine kg_X5_current C0 hK hP (kv_s (by decide) (by decide)) kq_101 dX5_openWord_40 ?_
    refine lv_bipush (v := -9) hx hb dX5_openWord_43 (by decide) ?_
    refine kr_Vv (k := (5, 18, (σ4.1 (18, 0, 0) 2).toNatClampNeg)) (As := [.int (-9 : Int32)]) (rest := []) C0 hK hP hS hl (km_X7_openPart l hI (by decide) hcur hq) kd_X7_openPart kq_282 (kv_w (by decide) (by decide) (by decide) hcur) rfl rfl rfl ⟨rfl, rfl, Nat.le_of_ble_eq_true rfl, Nat.le_of_ble_eq_true rfl⟩ rfl (Nat.le_of_ble_eq_true rfl) dX5_openWord_45 ⟨Nat.zero_le _, Nat.zero_le _⟩ (fun σ5 H locs hq hP hS => ?_)
    refine lv_aload_n hx hb dX5_openWord_48 rfl (lv_at hl 0 rfl) ?_
    refine lv_iconst (v := 0) hx hb dX5_openWord_49 (by decide) ?_
    refine kp_X5_inGlosses C0 hK hI hP hS (kv_s (by decide) (by decide)) (by decide) kq_102 dX5_openWord_50 (fun H locs hP hS => ?_)
    obtain ⟨σ6, eσ6⟩ : ∃ z : ka_S, z = ka_wI σ5 (18, 0, 0) 3 (0 : Int32) := ⟨_, rfl⟩
    rw [← eσ6] at hP
    have hq := hq σ6 eσ6
    refine lv_aload_n hx hb dX5_openWord_53 rfl (lv_at hl 0 rfl) ?_
    refine lv_iconst (v := 0) hx hb dX5_openWord_54 (by decide) ?_
    refine kp_X5_place C0 hK hI hP hS (kv_s (by decide) (by decide)) kq_103 dX5_openWord_55 (fun H locs hP hS => ?_)
    obtain ⟨σ7, eσ7⟩ : ∃ z : ka_S, z = ka_wI σ6 (18, 0, 0) 4 (0 : Int32) := ⟨_, rfl⟩
    rw [← eσ7] at hP
    have hq := hq σ7 eσ7
    exact kr_vret C0 hK hP hS hq dX5_openWord_58
/-! GlossRows$Reader.takesBlank()Z -/
def rm_X5_takesBlank : Room := { frames := 3, cells := 0, slots := 0, locals := 61 }
def kw_X5_takesBlank (σ : ka_S) (Q : Int32 → ka_S → Prop) : Prop := kw_X5_isWordWhole σ (fun r2 σ1 => 
  (r2 = (0 : Int32) → Q (0 : Int32) σ1) ∧
  (¬ r2 = (0 : Int32) → ((σ1.1 (18, 0, 0) 1) < (12 : Int32) → kw_X5_openWord σ1 (fun σ3 => 
      Q (1 : Int32) σ3)) ∧
    (¬ (σ1.1 (18, 0, 0) 1) < (12 : Int32) → Q (0 : Int32) σ1)))
set_option maxHeartbeats 4000000 in
set_option maxRecDepth 100000 in
theorem km_X5_takesBlank (l : Launch) {G : ka_G} (hI : ka_I G) {σ : ka_S} {Q : Int32 → ka_S → Prop} (hq : kw_X5_takesBlank σ Q) : kc_i l yX5_takesBlank (kw_ yX5_takesBlank cX5_takesBlank 1 (some .boolean)) rm_X5_takesBlank G [.ref (ka_a G (18, 0, 0))] σ Q := by
  refine ka_of "GlossRows$Reader" rfl (by decide) (Nat.le_of_ble_eq_true rfl) ?_
  intro p e s m below meth c C0 hK H locs hP hS ls hl
  obtain ⟨hx, hb, -, hml, hown, hts, -⟩ := id C0
  have hl : lv_has ls 1 [(0, .ref (ka_a G (18, 0, 0)))] := hl
  unfold kw_X5_takesBlank at hq
  refine lv_aload_n hx hb dX5_takesBlank_0 rfl (lv_at hl 0 rfl) ?_
  refine kr_Vi (k := (18, 0, 0)) (As := []) (rest := []) C0 hK hP hS hl (km_X5_isWordWhole l hI hq) kd_X5_isWordWhole kq_294 (kv_s (by decide) (by decide)) rfl rfl rfl ⟨rfl, rfl, Nat.le_of_ble_eq_true rfl, Nat.le_of_ble_eq_true rfl⟩ rfl (Nat.le_of_ble_eq_true rfl) dX5_takesBlank_1 ⟨Nat.zero_le _, Nat.zero_le _⟩ (fun r2 σ1 H locs hq hP hS => ?_)
  refine lv_if_eq (tgt := 16) hx hb dX5_takesBlank_4 (by decide) (fun hc => ?_) (fun hc => ?_)
  · have hq := hq.1 hc
    refine lv_iconst (v := 0) hx hb dX5_takesBlank_16 (by decide) ?_
    exact kr_zret C0 hK hP hS rfl hq dX5_takesBlank_17
  · have hq := hq.2 hc
    refine lv_aload_n hx hb dX5_takesBlank_7 rfl (lv_at hl 0 rfl) ?_
    refine kg_X5_count C0 hK hP (kv_s (by decide) (by decide)) kq_98 dX5_takesBlank_8 ?_
    refine lv_bipush (v := 12) hx hb dX5_takesBlank_11 (by decide) ?_
    refine lv_icmp_lt (tgt := 18) hx hb dX5_takesBlank_13 (by decide) (fun hc => ?_) (fun hc => ?_)
    · have hq := hq.1 hc
      refine lv_aload_n hx hb dX5_takesBlank_18 rfl (lv_at hl 0 rfl) ?_
      refine kr_Vv (k := (18, 0, 0)) (As := []) (rest := []) C0 hK hP hS hl (km_X5_openWord l hI hq) kd_X5_openWord kq_274 (kv_s (by decide) (by decide)) rfl rfl rfl ⟨rfl, rfl, Nat.le_of_ble_eq_true rfl, Nat.le_of_ble_eq_true rfl⟩ rfl (Nat.le_of_ble_eq_true rfl) dX5_takesBlank_19 ⟨Nat.zero_le _, Nat.zero_le _⟩ (fun σ3 H locs hq hP hS => ?_)
      refine lv_iconst (v := 1) hx hb dX5_takesBlank_22 (by decide) ?_
      exact kr_zret C0 hK hP hS rfl hq dX5_takesBlank_23
    · have hq := hq.2 hc
      refine lv_iconst (v := 0) hx hb dX5_takesBlank_16 (by decide) ?_
      exact kr_zret C0 hK hP hS rfl hq dX5_takesBlank_17
/-! GlossRows$Reader.takesColon()Z -/
def rm_X5_takesColon : Room := { frames := 2, cells := 0, slots := 0, locals := 41 }
def kw_X5_takesColon (σ : ka_S) (Q : Int32 → ka_S → Prop) : Prop := ((σ.1 (18, 0, 0) 3) = (0 : Int32) → kw_X5_hasPartLetters σ (fun r2 σ1 => 
    (r2 = (0 : Int32) → Q (0 : Int32) σ1) ∧
    (¬ r2 = (0 : Int32) → ∀ σ3 : ka_S, σ3 = ka_wI σ1 (18, 0, 0) 3 (1 : Int32) →
      ∀ σ4 : ka_S, σ4 = ka_wI σ3 (18, 0, 0) 4 (0 : Int32) →
      Q (1 : Int32) σ4))) ∧
  (¬ (σ.1 (18, 0, 0) 3) = (0 : Int32) → Q (0 : Int32) σ)
set_option maxHeartbeats 4000000 in
set_option maxRecDepth 100000 in
theorem km_X5_takesColon (l : Launch) {G : ka_G} (hI : ka_I G) {σ : ka_S} {Q : Int32 → ka_S → Prop} (hq : kw_X5_takesColon σ Q) : kc_i l yX5_takesColon (kw_ yX5_takesColon cX5_takesColon 1 (some .boolean)) rm_X5_takesColon G [.ref (ka_a G (18, 0, 0))] σ Q := by
  refine ka_of "GlossRows$Reader" rfl (by decide) (Nat.le_of_ble_eq_true rfl) ?_
  intro p e s m below meth c C0 hK H locs hP hS ls hl
  obtain ⟨hx, hb, -, hml, hown, hts, -⟩ := id C0
  have hl : lv_has ls 1 [(0, .ref (ka_a G (18, 0, 0)))] := hl
  unfold kw_X5_takesColon at hq
  refine lv_aload_n hx hb dX5_takesColon_0 rfl (lv_at hl 0 rfl) ?_
  refine kg_X5_inGlosses C0 hK hP (kv_s (by decide) (by decide)) kq_102 dX5_takesColon_1 ?_
  refine lv_if_ne (tgt := 14) hx hb dX5_takesColon_4 (by decide) (fun hc => ?_) (fun hc => ?_)
  · have hq := hq.2 hc
    refine lv_iconst (v := 0) hx hb dX5_takesColon_14 (by decide) ?_
    exact kr_zret C0 hK hP hS rfl hq dX5_takesColon_15
  · have hq := hq.1 hc
    refine lv_aload_n hx hb dX5_takesColon_7 rfl (lv_at hl 0 rfl) ?_
    refine kr_Vi (k := (18, 0, 0)) (As := []) (rest := []) C0 hK hP hS hl (km_X5_hasPartLetters l hI hq) kd_X5_hasPartLetters kq_298 (kv_s (by decide) (by decide)) rfl rfl rfl ⟨rfl, rfl, Nat.le_of_ble_eq_true rfl, Nat.le_of_ble_eq_true rfl⟩ rfl (Nat.le_of_ble_eq_true rfl) dX5_takesColon_8 ⟨Nat.zero_le _, Nat.zero_le _⟩ (fun r2 σ1 H locs hq hP hS => ?_)
    refine lv_if_ne (tgt := 16) hx hb dX5_takesColon_11 (by decide) (fun hc => ?_) (fun hc => ?_)
    · have hq := hq.2 hc
      refine lv_aload_n hx hb dX5_takesColon_16 rfl (lv_at hl 0 rfl) ?_
      refine lv_iconst (v := 1) hx hb dX5_takesColon_17 (by decide) ?_
      refine kp_X5_inGlosses C0 hK hI hP hS (kv_s (by decide) (by decide)) (by decide) kq_102 dX5_takesColon_18 (fun H locs hP hS => ?_)
      obtain ⟨σ3, eσ3⟩ : ∃ z : ka_S, z = ka_wI σ1 (18, 0, 0) 3 (1 : Int32) := ⟨_, rfl⟩
      rw [← eσ3] at hP
      have hq := hq σ3 eσ3
      refine lv_aload_n hx hb dX5_takesColon_21 rfl (lv_at hl 0 rfl) ?_
      refine lv_iconst (v := 0) hx hb dX5_takesColon_22 (by decide) ?_
      refine kp_X5_place C0 hK hI hP hS (kv_s (by decide) (by decide)) kq_103 dX5_takesColon_23 (fun H locs hP hS => ?_)
      obtain ⟨σ4, eσ4⟩ : ∃ z : ka_S, z = ka_wI σ3 (18, 0, 0) 4 (0 : Int32) := ⟨_, rfl⟩
      rw [← eσ4] at hP
      have hq := hq σ4 eσ4
      refine lv_iconst (v := 1) hx hb dX5_takesColon_26 (by decide) ?_
      exact kr_zret C0 hK hP hS rfl hq dX5_takesColon_27
    · have hq := hq.1 hc
      refine lv_iconst (v := 0) hx hb dX5_takesColon_14 (by decide) ?_
      exact kr_zret C0 hK hP hS rfl hq dX5_takesColon_15
/-! GlossRows$Reader.takesGlossLetter(I)Z -/
def rm_X5_takesGlossLetter : Room := { frames := 2, cells := 0, slots := 0, locals := 44 }
def kw_X5_takesGlossLetter (σ : ka_S) (v1 : Int32) (Q : Int32 → ka_S → Prop) : Prop := kw_X2_isGlossLetter σ v1 (fun r2 σ1 => 
  (r2 = (0 : Int32) → Q (0 : Int32) σ1) ∧
  (¬ r2 = (0 : Int32) → (σ1.1 (18, 0, 0) 2).toNatClampNeg < 12 ∧
    vp_in (σ1.1 (18, 0, 0) 4) 4 ∧
    kw_X2_length σ1 (σ1.2 (7, 18, (σ1.1 (18, 0, 0) 2).toNatClampNeg) (σ1.1 (18, 0, 0) 4).toNatClampNeg) (fun r5 σ4 => 
    (r5 < (8 : Int32) → (σ4.1 (18, 0, 0) 2).toNatClampNeg < 12 ∧
      (σ4.1 (18, 0, 0) 2).toNatClampNeg < 12 ∧
      vp_in (σ4.1 (18, 0, 0) 4) 4 ∧
      kw_X2_with σ4 (σ4.2 (7, 18, (σ4.1 (18, 0, 0) 2).toNatClampNeg) (σ4.1 (18, 0, 0) 4).toNatClampNeg) v1 (fun r8 σ7 => 
      vp_in (σ4.1 (18, 0, 0) 4) 4 ∧
      ∀ σ10 : ka_S, σ10 = ka_wL σ7 (7, 18, (σ4.1 (18, 0, 0) 2).toNatClampNeg) (σ4.1 (18, 0, 0) 4).toNatClampNeg r8 →
      Q (1 : Int32) σ10)) ∧
    (¬ r5 < (8 : Int32) → Q (0 : Int32) σ4))))
set_option maxHeartbeats 4000000 in
set_option maxRecDepth 100000 in
theorem km_X5_takesGlossLetter (l : Launch) {G : ka_G} (hI : ka_I G) {σ : ka_S} {v1 : Int32} {Q : Int32 → ka_S → Prop} (hq : kw_X5_takesGlossLetter σ v1 Q) : kc_i l yX5_takesGlossLetter (kw_ yX5_takesGlossLetter cX5_takesGlossLetter 2 (some .boolean)) rm_X5_takesGlossLetter G [.ref (ka_a G (18, 0, 0)), .int v1] σ Q := by
  refine ka_of "GlossRows$Reader" rfl (by decide) (Nat.le_of_ble_eq_true rfl) ?_
  intro p e s m below meth c C0 hK H locs hP hS ls hl
  obtain ⟨hx, hb, -, hml, hown, hts, -⟩ := id C0
  have hl : lv_has ls 2 [(0, .ref (ka_a G (18, 0, 0))), (1, .int v1)] := hl
  unfold kw_X5_takesGlossLetter at hq
  refine lv_iload_n hx hb dX5_takesGlossLetter_0 rfl (lv_at hl 1 rfl) ?_
  refine kr_Si (As := [.int v1]) (rest := []) C0 hK hP hS hl (km_X2_isGlossLetter l hI hq) kd_X2_isGlossLetter kq_325 ⟨rfl, rfl, Nat.le_of_ble_eq_true rfl, Nat.le_of_ble_eq_true rfl⟩ rfl (Nat.le_of_ble_eq_true rfl) dX5_takesGlossLetter_1 ⟨Nat.zero_le _, Nat.zero_le _⟩ (fun r2 σ1 H locs hq hP hS => ?_)
  refine lv_if_eq (tgt := 27) hx hb dX5_takesGlossLetter_4 (by decide) (fun hc => ?_) (fun hc => ?_)
  · have hq := hq.1 hc
    refine lv_iconst (v := 0) hx hb dX5_takesGlossLetter_27 (by decide) ?_
    exact kr_zret C0 hK hP hS rfl hq dX5_takesGlossLetter_28
  · have hq := hq.2 hc
    refine lv_aload_n hx hb dX5_takesGlossLetter_7 rfl (lv_at hl 0 rfl) ?_
    obtain ⟨hcur, hq⟩ := hq
    refine kg_X5_current C0 hK hP (kv_s (by decide) (by decide)) kq_101 dX5_takesGlossLetter_8 ?_
    refine kg_X7_glosses C0 hK hP (kv_w (by decide) (by decide) (by decide) hcur) kq_63 dX5_takesGlossLetter_11 ?_
    refine lv_aload_n hx hb dX5_takesGlossLetter_14 rfl (lv_at hl 0 rfl) ?_
    refine kg_X5_place C0 hK hP (kv_s (by decide) (by decide)) kq_103 dX5_takesGlossLetter_15 ?_
    obtain ⟨b3, hq⟩ := hq
    refine kr_lald C0 hK hP (kv_w (by decide) (by decide) (by decide) hcur) rfl b3 dX5_takesGlossLetter_18 ?_
    refine kr_Si (As := [.long (σ1.2 (7, 18, (σ1.1 (18, 0, 0) 2).toNatClampNeg) (σ1.1 (18, 0, 0) 4).toNatClampNeg)]) (rest := []) C0 hK hP hS hl (km_X2_length l hI hq) kd_X2_length kq_302 ⟨rfl, rfl, Nat.le_of_ble_eq_true rfl, Nat.le_of_ble_eq_true rfl⟩ rfl (Nat.le_of_ble_eq_true rfl) dX5_takesGlossLetter_19 ⟨Nat.zero_le _, Nat.zero_le _⟩ (fun r5 σ4 H locs hq hP hS => ?_)
    refine lv_bipush (v := 8) hx hb dX5_takesGlossLetter_22 (by decide) ?_
    refine lv_icmp_lt (tgt := 29) hx hb dX5_takesGlossLetter_24 (by decide) (fun hc => ?_) (fun hc => ?_)
    · have hq := hq.1 hc
      refine lv_aload_n hx hb dX5_takesGlossLetter_29 rfl (lv_at hl 0 rfl) ?_
      obtain ⟨hcur, hq⟩ := hq
      refine kg_X5_current C0 hK hP (kv_s (by decide) (by decide)) kq_101 dX5_takesGlossLetter_30 ?_
      refine kg_X7_glosses C0 hK hP (kv_w (by decide) (by decide) (by decide) hcur) kq_63 dX5_takesGlossLetter_33 ?_
      refine lv_aload_n hx hb dX5_takesGlossLetter_36 rfl (lv_at hl 0 rfl) ?_
      refine kg_X5_place C0 hK hP (kv_s (by decide) (by decide)) kq_103 dX5_takesGlossLetter_37 ?_
      refine lv_aload_n hx hb dX5_takesGlossLetter_40 rfl (lv_at hl 0 rfl) ?_
      obtain ⟨hcur, hq⟩ := hq
      refine kg_X5_current C0 hK hP (kv_s (by decide) (by decide)) kq_101 dX5_takesGlossLetter_41 ?_
      refine kg_X7_glosses C0 hK hP (kv_w (by decide) (by decide) (by decide) hcur) kq_63 dX5_takesGlossLetter_44 ?_
      refine lv_aload_n hx hb dX5_takesGlossLetter_47 rfl (lv_at hl 0 rfl) ?_
      refine kg_X5_place C0 hK hP (kv_s (by decide) (by decide)) kq_103 dX5_takesGlossLetter_48 ?_
      obtain ⟨b6, hq⟩ := hq
      refine kr_lald C0 hK hP (kv_w (by decide) (by decide) (by decide) hcur) rfl b6 dX5_takesGlossLetter_51 ?_
      refine lv_iload_n hx hb dX5_takesGlossLetter_52 rfl (lv_at hl 1 rfl) ?_
      refine kr_Sl (As := [.long (σ4.2 (7, 18, (σ4.1 (18, 0, 0) 2).toNatClampNeg) (σ4.1 (18, 0, 0) 4).toNatClampNeg), .int v1]) (rest := [.int (σ4.1 (18, 0, 0) 4), .ref (ka_a G (7, 18, (σ4.1 (18, 0, 0) 2).toNatClampNeg))]) C0 hK hP hS hl (km_X2_with l hI hq) kd_X2_with kq_331 ⟨rfl, rfl, Nat.le_of_ble_eq_true rfl, Nat.le_of_ble_eq_true rfl⟩ rfl (Nat.le_of_ble_eq_true rfl) dX5_takesGlossLetter_53 ⟨Nat.zero_le _, Nat.zero_le _⟩ (fun r8 σ7 H locs hq hP hS => ?_)
      obtain ⟨b9, hq⟩ := hq
      refine kr_last C0 hK hI hP hS (kv_w (by decide) (by decide) (by decide) hcur) (fun _ => rfl) b9 dX5_takesGlossLetter_56 (fun H locs hP hS => ?_)
      obtain ⟨σ10, eσ10⟩ : ∃ z : ka_S, z = ka_wL σ7 (7, 18, (σ4.1 (18, 0, 0) 2).toNatClampNeg) (σ4.1 (18, 0, 0) 4).toNatClampNeg r8 := ⟨_, rfl⟩
      rw [← eσ10] at hP
      have hq := hq σ10 eσ10
      refine lv_iconst (v := 1) hx hb dX5_takesGlossLetter_57 (by decide) ?_
      exact kr_zret C0 hK hP hS rfl hq dX5_takesGlossLetter_58
    · have hq := hq.2 hc
      refine lv_iconst (v := 0) hx hb dX5_takesGlossLetter_27 (by decide) ?_
      exact kr_zret C0 hK hP hS rfl hq dX5_takesGlossLetter_28
/-! GlossRows$Reader.takesLetter(I)Z -/
def rm_X5_takesLetter : Room := { frames := 2, cells := 0, slots := 0, locals := 44 }
def kw_X5_takesLetter (σ : ka_S) (v1 : Int32) (Q : Int32 → ka_S → Prop) : Prop := kw_X2_isLetter σ v1 (fun r2 σ1 => 
  (r2 = (0 : Int32) → Q (0 : Int32) σ1) ∧
  (¬ r2 = (0 : Int32) → (σ1.1 (18, 0, 0) 2).toNatClampNeg < 12 ∧
    vp_in (σ1.1 (18, 0, 0) 4) 4 ∧
    kw_X2_length σ1 (σ1.2 (6, 18, (σ1.1 (18, 0, 0) 2).toNatClampNeg) (σ1.1 (18, 0, 0) 4).toNatClampNeg) (fun r5 σ4 => 
    (r5 < (8 : Int32) → (σ4.1 (18, 0, 0) 2).toNatClampNeg < 12 ∧
      (σ4.1 (18, 0, 0) 2).toNatClampNeg < 12 ∧
      vp_in (σ4.1 (18, 0, 0) 4) 4 ∧
      kw_X2_with σ4 (σ4.2 (6, 18, (σ4.1 (18, 0, 0) 2).toNatClampNeg) (σ4.1 (18, 0, 0) 4).toNatClampNeg) v1 (fun r8 σ7 => 
      vp_in (σ4.1 (18, 0, 0) 4) 4 ∧
      ∀ σ10 : ka_S, σ10 = ka_wL σ7 (6, 18, (σ4.1 (18, 0, 0) 2).toNatClampNeg) (σ4.1 (18, 0, 0) 4).toNatClampNeg r8 →
      Q (1 : Int32) σ10)) ∧
    (¬ r5 < (8 : Int32) → Q (0 : Int32) σ4))))
set_option maxHeartbeats 4000000 in
set_option maxRecDepth 100000 in
theorem km_X5_takesLetter (l : Launch) {G : ka_G} (hI : ka_I G) {σ : ka_S} {v1 : Int32} {Q : Int32 → ka_S → Prop} (hq : kw_X5_takesLetter σ v1 Q) : kc_i l yX5_takesLetter (kw_ yX5_takesLetter cX5_takesLetter 2 (some .boolean)) rm_X5_takesLetter G [.ref (ka_a G (18, 0, 0)), .int v1] σ Q := by
  refine ka_of "GlossRows$Reader" rfl (by decide) (Nat.le_of_ble_eq_true rfl) ?_
  intro p e s m below meth c C0 hK H locs hP hS ls hl
  obtain ⟨hx, hb, -, hml, hown, hts, -⟩ := id C0
  have hl : lv_has ls 2 [(0, .ref (ka_a G (18, 0, 0))), (1, .int v1)] := hl
  unfold kw_X5_takesLetter at hq
  refine lv_iload_n hx hb dX5_takesLetter_0 rfl (lv_at hl 1 rfl) ?_
  refine kr_Si (As := [.int v1]) (rest := []) C0 hK hP hS hl (km_X2_isLetter l hI hq) kd_X2_isLetter kq_342 ⟨rfl, rfl, Nat.le_of_ble_eq_true rfl, Nat.le_of_ble_eq_true rfl⟩ rfl (Nat.le_of_ble_eq_true rfl) dX5_takesLetter_1 ⟨Nat.zero_le _, Nat.zero_le _⟩ (fun r2 σ1 H locs hq hP hS => ?_)
  refine lv_if_eq (tgt := 27) hx hb dX5_takesLetter_4 (by decide) (fun hc => ?_) (fun hc => ?_)
  · have hq := hq.1 hc
    refine lv_iconst (v := 0) hx hb dX5_takesLetter_27 (by decide) ?_
    exact kr_zret C0 hK hP hS rfl hq dX5_takesLetter_28
  · have hq := hq.2 hc
    refine lv_aload_n hx hb dX5_takesLetter_7 rfl (lv_at hl 0 rfl) ?_
    obtain ⟨hcur, hq⟩ := hq
    refine kg_X5_current C0 hK hP (kv_s (by decide) (by decide)) kq_101 dX5_takesLetter_8 ?_
    refine kg_X7_parts C0 hK hP (kv_w (by decide) (by decide) (by decide) hcur) kq_59 dX5_takesLetter_11 ?_
    refine lv_aload_n hx hb dX5_takesLetter_14 rfl (lv_at hl 0 rfl) ?_
    refine kg_X5_place C0 hK hP (kv_s (by decide) (by decide)) kq_103 dX5_takesLetter_15 ?_
    obtain ⟨b3, hq⟩ := hq
    refine kr_lald C0 hK hP (kv_w (by decide) (by decide) (by decide) hcur) rfl b3 dX5_takesLetter_18 ?_
    refine kr_Si (As := [.long (σ1.2 (6, 18, (σ1.1 (18, 0, 0) 2).toNatClampNeg) (σ1.1 (18, 0, 0) 4).toNatClampNeg)]) (rest := []) C0 hK hP hS hl (km_X2_length l hI hq) kd_X2_length kq_302 ⟨rfl, rfl, Nat.le_of_ble_eq_true rfl, Nat.le_of_ble_eq_true rfl⟩ rfl (Nat.le_of_ble_eq_true rfl) dX5_takesLetter_19 ⟨Nat.zero_le _, Nat.zero_le _⟩ (fun r5 σ4 H locs hq hP hS => ?_)
    refine lv_bipush (v := 8) hx hb dX5_takesLetter_22 (by decide) ?_
    refine lv_icmp_lt (tgt := 29) hx hb dX5_takesLetter_24 (by decide) (fun hc => ?_) (fun hc => ?_)
    · have hq := hq.1 hc
      refine lv_aload_n hx hb dX5_takesLetter_29 rfl (lv_at hl 0 rfl) ?_
      obtain ⟨hcur, hq⟩ := hq
      refine kg_X5_current C0 hK hP (kv_s (by decide) (by decide)) kq_101 dX5_takesLetter_30 ?_
      refine kg_X7_parts C0 hK hP (kv_w (by decide) (by decide) (by decide) hcur) kq_59 dX5_takesLetter_33 ?_
      refine lv_aload_n hx hb dX5_takesLetter_36 rfl (lv_at hl 0 rfl) ?_
      refine kg_X5_place C0 hK hP (kv_s (by decide) (by decide)) kq_103 dX5_takesLetter_37 ?_
      refine lv_aload_n hx hb dX5_takesLetter_40 rfl (lv_at hl 0 rfl) ?_
      obtain ⟨hcur, hq⟩ := hq
      refine kg_X5_current C0 hK hP (kv_s (by decide) (by decide)) kq_101 dX5_takesLetter_41 ?_
      refine kg_X7_parts C0 hK hP (kv_w (by decide) (by decide) (by decide) hcur) kq_59 dX5_takesLetter_44 ?_
      refine lv_aload_n hx hb dX5_takesLetter_47 rfl (lv_at hl 0 rfl) ?_
      refine kg_X5_place C0 hK hP (kv_s (by decide) (by decide)) kq_103 dX5_takesLetter_48 ?_
      obtain ⟨b6, hq⟩ := hq
      refine kr_lald C0 hK hP (kv_w (by decide) (by decide) (by decide) hcur) rfl b6 dX5_takesLetter_51 ?_
      refine lv_iload_n hx hb dX5_takesLetter_52 rfl (lv_at hl 1 rfl) ?_
      refine kr_Sl (As := [.long (σ4.2 (6, 18, (σ4.1 (18, 0, 0) 2).toNatClampNeg) (σ4.1 (18, 0, 0) 4).toNatClampNeg), .int v1]) (rest := [.int (σ4.1 (18, 0, 0) 4), .ref (ka_a G (6, 18, (σ4.1 (18, 0, 0) 2).toNatClampNeg))]) C0 hK hP hS hl (km_X2_with l hI hq) kd_X2_with kq_331 ⟨rfl, rfl, Nat.le_of_ble_eq_true rfl, Nat.le_of_ble_eq_true rfl⟩ rfl (Nat.le_of_ble_eq_true rfl) dX5_takesLetter_53 ⟨Nat.zero_le _, Nat.zero_le _⟩ (fun r8 σ7 H locs hq hP hS => ?_)
      obtain ⟨b9, hq⟩ := hq
      refine kr_last C0 hK hI hP hS (kv_w (by decide) (by decide) (by decide) hcur) (fun _ => rfl) b9 dX5_takesLetter_56 (fun H locs hP hS => ?_)
      obtain ⟨σ10, eσ10⟩ : ∃ z : ka_S, z = ka_wL σ7 (6, 18, (σ4.1 (18, 0, 0) 2).toNatClampNeg) (σ4.1 (18, 0, 0) 4).toNatClampNeg r8 := ⟨_, rfl⟩
      rw [← eσ10] at hP
      have hq := hq σ10 eσ10
      refine lv_iconst (v := 1) hx hb dX5_takesLetter_57 (by decide) ?_
      exact kr_zret C0 hK hP hS rfl hq dX5_takesLetter_58
    · have hq := hq.2 hc
      refine lv_iconst (v := 0) hx hb dX5_takesLetter_27 (by decide) ?_
      exact kr_zret C0 hK hP hS rfl hq dX5_takesLetter_28
/-! GlossRows$Reader.takesMarkOfGlosses(I)Z -/
def rm_X5_takesMarkOfGlosses : Room := { frames := 0, cells := 0, slots := 0, locals := 0 }
def kw_X5_takesMarkOfGlosses (σ : ka_S) (v1 : Int32) (Q : Int32 → ka_S → Prop) : Prop := (σ.1 (18, 0, 0) 2).toNatClampNeg < 12 ∧
  ((σ.1 (5, 18, (σ.1 (18, 0, 0) 2).toNatClampNeg) 4) ≤ ((σ.1 (18, 0, 0) 4) + (1 : Int32)) → Q (0 : Int32) σ) ∧
  (¬ (σ.1 (5, 18, (σ.1 (18, 0, 0) 2).toNatClampNeg) 4) ≤ ((σ.1 (18, 0, 0) 4) + (1 : Int32)) → (σ.1 (18, 0, 0) 2).toNatClampNeg < 12 ∧
    vp_in ((σ.1 (18, 0, 0) 4) + (1 : Int32)) 4 ∧
    ((σ.1 (8, 18, (σ.1 (18, 0, 0) 2).toNatClampNeg) ((σ.1 (18, 0, 0) 4) + (1 : Int32)).toNatClampNeg) = v1 → ∀ σ2 : ka_S, σ2 = ka_wI σ (18, 0, 0) 4 ((σ.1 (18, 0, 0) 4) + (1 : Int32)) →
      Q (1 : Int32) σ2) ∧
    (¬ (σ.1 (8, 18, (σ.1 (18, 0, 0) 2).toNatClampNeg) ((σ.1 (18, 0, 0) 4) + (1 : Int32)).toNatClampNeg) = v1 → Q (0 : Int32) σ))
set_option maxHeartbeats 4000000 in
set_option maxRecDepth 100000 in
theorem km_X5_takesMarkOfGlosses (l : Launch) {G : ka_G} (hI : ka_I G) {σ : ka_S} {v1 : Int32} {Q : Int32 → ka_S → Prop} (hq : kw_X5_takesMarkOfGlosses σ v1 Q) : kc_i l yX5_takesMarkOfGlosses (kw_ yX5_takesMarkOfGlosses cX5_takesMarkOfGlosses 2 (some .boolean)) rm_X5_takesMarkOfGlosses G [.ref (ka_a G (18, 0, 0)), .int v1] σ Q := by
  refine ka_of "GlossRows$Reader" rfl (by decide) (Nat.le_of_ble_eq_true rfl) ?_
  intro p e s m below meth c C0 hK H locs hP hS ls hl
  obtain ⟨hx, hb, -, hml, hown, hts, -⟩ := id C0
  have hl : lv_has ls 2 [(0, .ref (ka_a G (18, 0, 0))), (1, .int v1)] := hl
  unfold kw_X5_takesMarkOfGlosses at hq
  refine lv_aload_n hx hb dX5_takesMarkOfGlosses_0 rfl (lv_at hl 0 rfl) ?_
  refine kg_X5_place C0 hK hP (kv_s (by decide) (by decide)) kq_103 dX5_takesMarkOfGlosses_1 ?_
  refine lv_iconst (v := 1) hx hb dX5_takesMarkOfGlosses_4 (by decide) ?_
  refine lv_iadd hx hb dX5_takesMarkOfGlosses_5 ?_
  refine lv_aload_n hx hb dX5_takesMarkOfGlosses_6 rfl (lv_at hl 0 rfl) ?_
  obtain ⟨hcur, hq⟩ := hq
  refine kg_X5_current C0 hK hP (kv_s (by decide) (by decide)) kq_101 dX5_takesMarkOfGlosses_7 ?_
  refine kg_X7_size C0 hK hP (kv_w (by decide) (by decide) (by decide) hcur) kq_71 dX5_takesMarkOfGlosses_10 ?_
  refine lv_icmp_ge (tgt := 34) hx hb dX5_takesMarkOfGlosses_13 (by decide) (fun hc => ?_) (fun hc => ?_)
  · have hq := hq.1 hc
    refine lv_iconst (v := 0) hx hb dX5_takesMarkOfGlosses_34 (by decide) ?_
    exact kr_zret C0 hK hP hS rfl hq dX5_takesMarkOfGlosses_35
  · have hq := hq.2 hc
    refine lv_aload_n hx hb dX5_takesMarkOfGlosses_16 rfl (lv_at hl 0 rfl) ?_
    obtain ⟨hcur, hq⟩ := hq
    refine kg_X5_current C0 hK hP (kv_s (by decide) (by decide)) kq_101 dX5_takesMarkOfGlosses_17 ?_
    refine kg_X7_marks C0 hK hP (kv_w (by decide) (by decide) (by decide) hcur) kq_66 dX5_takesMarkOfGlosses_20 ?_
    refine lv_aload_n hx hb dX5_takesMarkOfGlosses_23 rfl (lv_at hl 0 rfl) ?_
    refine kg_X5_place C0 hK hP (kv_s (by decide) (by decide)) kq_103 dX5_takesMarkOfGlosses_24 ?_
    refine lv_iconst (v := 1) hx hb dX5_takesMarkOfGlosses_27 (by decide) ?_
    refine lv_iadd hx hb dX5_takesMarkOfGlosses_28 ?_
    obtain ⟨b1, hq⟩ := hq
    refine kr_iald C0 hK hP (kv_w (by decide) (by decide) (by decide) hcur) rfl b1 dX5_takesMarkOfGlosses_29 ?_
    refine lv_iload_n hx hb dX5_takesMarkOfGlosses_30 rfl (lv_at hl 1 rfl) ?_
    refine lv_icmp_eq (tgt := 36) hx hb dX5_takesMarkOfGlosses_31 (by decide) (fun hc => ?_) (fun hc => ?_)
    · have hq := hq.1 hc
      refine lv_aload_n hx hb dX5_takesMarkOfGlosses_36 rfl (lv_at hl 0 rfl) ?_
      refine lv_dup hx hb dX5_takesMarkOfGlosses_37 rfl ?_
      refine kg_X5_place C0 hK hP (kv_s (by decide) (by decide)) kq_103 dX5_takesMarkOfGlosses_38 ?_
      refine lv_iconst (v := 1) hx hb dX5_takesMarkOfGlosses_41 (by decide) ?_
      refine lv_iadd hx hb dX5_takesMarkOfGlosses_42 ?_
      refine kp_X5_place C0 hK hI hP hS (kv_s (by decide) (by decide)) kq_103 dX5_takesMarkOfGlosses_43 (fun H locs hP hS => ?_)
      obtain ⟨σ2, eσ2⟩ : ∃ z : ka_S, z = ka_wI σ (18, 0, 0) 4 ((σ.1 (18, 0, 0) 4) + (1 : Int32)) := ⟨_, rfl⟩
      rw [← eσ2] at hP
      have hq := hq σ2 eσ2
      refine lv_iconst (v := 1) hx hb dX5_takesMarkOfGlosses_46 (by decide) ?_
      exact kr_zret C0 hK hP hS rfl hq dX5_takesMarkOfGlosses_47
    · have hq := hq.2 hc
      refine lv_iconst (v := 0) hx hb dX5_takesMarkOfGlosses_34 (by decide) ?_
      exact kr_zret C0 hK hP hS rfl hq dX5_takesMarkOfGlosses_35
/-! GlossRows$Reader.takesMarkOfParts(I)Z -/
def rm_X5_takesMarkOfParts : Room := { frames := 2, cells := 0, slots := 0, locals := 41 }
def kw_X5_takesMarkOfParts (σ : ka_S) (v1 : Int32) (Q : Int32 → ka_S → Prop) : Prop := kw_X5_hasPartLetters σ (fun r2 σ1 => 
  (r2 = (0 : Int32) → Q (0 : Int32) σ1) ∧
  (¬ r2 = (0 : Int32) → (σ1.1 (18, 0, 0) 2).toNatClampNeg < 12 ∧
    ((σ1.1 (5, 18, (σ1.1 (18, 0, 0) 2).toNatClampNeg) 4) < (4 : Int32) → (σ1.1 (18, 0, 0) 2).toNatClampNeg < 12 ∧
      kw_X7_openPart σ1 18 ((σ1.1 (18, 0, 0) 2).toNatClampNeg) v1 (fun σ3 => 
      ∀ σ4 : ka_S, σ4 = ka_wI σ3 (18, 0, 0) 4 ((σ3.1 (18, 0, 0) 4) + (1 : Int32)) →
      Q (1 : Int32) σ4)) ∧
    (¬ (σ1.1 (5, 18, (σ1.1 (18, 0, 0) 2).toNatClampNeg) 4) < (4 : Int32) → Q (0 : Int32) σ1)))
set_option maxHeartbeats 4000000 in
set_option maxRecDepth 100000 in
theorem km_X5_takesMarkOfParts (l : Launch) {G : ka_G} (hI : ka_I G) {σ : ka_S} {v1 : Int32} {Q : Int32 → ka_S → Prop} (hq : kw_X5_takesMarkOfParts σ v1 Q) : kc_i l yX5_takesMarkOfParts (kw_ yX5_takesMarkOfParts cX5_takesMarkOfParts 2 (some .boolean)) rm_X5_takesMarkOfParts G [.ref (ka_a G (18, 0, 0)), .int v1] σ Q := by
  refine ka_of "GlossRows$Reader" rfl (by decide) (Nat.le_of_ble_eq_true rfl) ?_
  intro p e s m below meth c C0 hK H locs hP hS ls hl
  obtain ⟨hx, hb, -, hml, hown, hts, -⟩ := id C0
  have hl : lv_has ls 2 [(0, .ref (ka_a G (18, 0, 0))), (1, .int v1)] := hl
  unfold kw_X5_takesMarkOfParts at hq
  refine lv_aload_n hx hb dX5_takesMarkOfParts_0 rfl (lv_at hl 0 rfl) ?_
  refine kr_Vi (k := (18, 0, 0)) (As := []) (rest := []) C0 hK hP hS hl (km_X5_hasPartLetters l hI hq) kd_X5_hasPartLetters kq_298 (kv_s (by decide) (by decide)) rfl rfl rfl ⟨rfl, rfl, Nat.le_of_ble_eq_true rfl, Nat.le_of_ble_eq_true rfl⟩ rfl (Nat.le_of_ble_eq_true rfl) dX5_takesMarkOfParts_1 ⟨Nat.zero_le _, Nat.zero_le _⟩ (fun r2 σ1 H locs hq hP hS => ?_)
  refine lv_if_eq (tgt := 18) hx hb dX5_takesMarkOfParts_4 (by decide) (fun hc => ?_) (fun hc => ?_)
  · have hq := hq.1 hc
    refine lv_iconst (v := 0) hx hb dX5_takesMarkOfParts_18 (by decide) ?_
    exact kr_zret C0 hK hP hS rfl hq dX5_takesMarkOfParts_19
  · have hq := hq.2 hc
    refine lv_aload_n hx hb dX5_takesMarkOfParts_7 rfl (lv_at hl 0 rfl) ?_
    obtain ⟨hcur, hq⟩ := hq
    refine kg_X5_current C0 hK hP (kv_s (by decide) (by decide)) kq_101 dX5_takesMarkOfParts_8 ?_
    refine kg_X7_size C0 hK hP (kv_w (by decide) (by decide) (by decide) hcur) kq_71 dX5_takesMarkOfParts_11 ?_
    refine lv_iconst (v := 4) hx hb dX5_takesMarkOfParts_14 (by decide) ?_
    refine lv_icmp_lt (tgt := 20) hx hb dX5_takesMarkOfParts_15 (by decide) (fun hc => ?_) (fun hc => ?_)
    · have hq := hq.1 hc
      refine lv_aload_n hx hb dX5_takesMarkOfParts_20 rfl (lv_at hl 0 rfl) ?_
      obtain ⟨hcur, hq⟩ := hq
      refine kg_X5_current C0 hK hP (kv_s (by decide) (by decide)) kq_101 dX5_takesMarkOfParts_21 ?_
      refine lv_iload_n hx hb dX5_takesMarkOfParts_24 rfl (lv_at hl 1 rfl) ?_
      refine kr_Vv (k := (5, 18, (σ1.1 (18, 0, 0) 2).toNatClampNeg)) (As := [.int v1]) (rest := []) C0 hK hP hS hl (km_X7_openPart l hI (by decide) hcur hq) kd_X7_openPart kq_282 (kv_w (by decide) (by decide) (by decide) hcur) rfl rfl rfl ⟨rfl, rfl, Nat.le_of_ble_eq_true rfl, Nat.le_of_ble_eq_true rfl⟩ rfl (Nat.le_of_ble_eq_true rfl) dX5_takesMarkOfParts_25 ⟨Nat.zero_le _, Nat.zero_le _⟩ (fun σ3 H locs hq hP hS => ?_)
      refine lv_aload_n hx hb dX5_takesMarkOfParts_28 rfl (lv_at hl 0 rfl) ?_
      refine lv_dup hx hb dX5_takesMarkOfParts_29 rfl ?_
      refine kg_X5_place C0 hK hP (kv_s (by decide) (by decide)) kq_103 dX5_takesMarkOfParts_30 ?_
      refine lv_iconst (v := 1) hx hb dX5_takesMarkOfParts_33 (by decide) ?_
      refine lv_iadd hx hb dX5_takesMarkOfParts_34 ?_
      refine kp_X5_place C0 hK hI hP hS (kv_s (by decide) (by decide)) kq_103 dX5_takesMarkOfParts_35 (fun H locs hP hS => ?_)
      obtain ⟨σ4, eσ4⟩ : ∃ z : ka_S, z = ka_wI σ3 (18, 0, 0) 4 ((σ3.1 (18, 0, 0) 4) + (1 : Int32)) := ⟨_, rfl⟩
      rw [← eσ4] at hP
      have hq := hq σ4 eσ4
      refine lv_iconst (v := 1) hx hb dX5_takesMarkOfParts_38 (by decide) ?_
      exact kr_zret C0 hK hP hS rfl hq dX5_takesMarkOfParts_39
    · have hq := hq.2 hc
      refine lv_iconst (v := 0) hx hb dX5_takesMarkOfParts_18 (by decide) ?_
      exact kr_zret C0 hK hP hS rfl hq dX5_takesMarkOfParts_19
/-! GlossRows$Reader.takes(I)Z -/
def rm_X5_takes : Room := { frames := 4, cells := 0, slots := 0, locals := 81 }
def kw_X5_takes (σ : ka_S) (v1 : Int32) (Q : Int32 → ka_S → Prop) : Prop := (v1 = (32 : Int32) → kw_X5_takesBlank σ (fun r14 σ13 => 
    (r14 = 0 ∨ r14 = 1) ∧
    Q r14 σ13)) ∧
  (¬ v1 = (32 : Int32) → (v1 = (58 : Int32) → kw_X5_takesColon σ (fun r12 σ11 => 
      (r12 = 0 ∨ r12 = 1) ∧
      Q r12 σ11)) ∧
    (¬ v1 = (58 : Int32) → kw_X2_isMark σ v1 (fun r2 σ1 => 
      (r2 = (0 : Int32) → ((σ1.1 (18, 0, 0) 3) = (0 : Int32) → kw_X5_takesLetter σ1 v1 (fun r4 σ3 => 
          (r4 = 0 ∨ r4 = 1) ∧
          Q r4 σ3)) ∧
        (¬ (σ1.1 (18, 0, 0) 3) = (0 : Int32) → kw_X5_takesGlossLetter σ1 v1 (fun r6 σ5 => 
          (r6 = 0 ∨ r6 = 1) ∧
          Q r6 σ5))) ∧
      (¬ r2 = (0 : Int32) → ((σ1.1 (18, 0, 0) 3) = (0 : Int32) → kw_X5_takesMarkOfParts σ1 v1 (fun r8 σ7 => 
          (r8 = 0 ∨ r8 = 1) ∧
          Q r8 σ7)) ∧
        (¬ (σ1.1 (18, 0, 0) 3) = (0 : Int32) → kw_X5_takesMarkOfGlosses σ1 v1 (fun r10 σ9 => 
          (r10 = 0 ∨ r10 = 1) ∧
          Q r10 σ9))))))
set_option maxHeartbeats 4000000 in
set_option maxRecDepth 100000 in
theorem km_X5_takes (l : Launch) {G : ka_G} (hI : ka_I G) {σ : ka_S} {v1 : Int32} {Q : Int32 → ka_S → Prop} (hq : kw_X5_takes σ v1 Q) : kc_i l yX5_takes (kw_ yX5_takes cX5_takes 2 (some .boolean)) rm_X5_takes G [.ref (ka_a G (18, 0, 0)), .int v1] σ Q := by
  refine ka_of "GlossRows$Reader" rfl (by decide) (Nat.le_of_ble_eq_true rfl) ?_
  intro p e s m below meth c C0 hK H locs hP hS ls hl
  obtain ⟨hx, hb, -, hml, hown, hts, -⟩ := id C0
  have hl : lv_has ls 2 [(0, .ref (ka_a G (18, 0, 0))), (1, .int v1)] := hl
  unfold kw_X5_takes at hq
  refine lv_iload_n hx hb dX5_takes_0 rfl (lv_at hl 1 rfl) ?_
  refine lv_bipush (v := 32) hx hb dX5_takes_1 (by decide) ?_
  refine lv_icmp_ne (tgt := 11) hx hb dX5_takes_3 (by decide) (fun hc => ?_) (fun hc => ?_)
  · have hq := hq.2 hc
    refine lv_iload_n hx hb dX5_takes_11 rfl (lv_at hl 1 rfl) ?_
    refine lv_bipush (v := 58) hx hb dX5_takes_12 (by decide) ?_
    refine lv_icmp_ne (tgt := 22) hx hb dX5_takes_14 (by decide) (fun hc => ?_) (fun hc => ?_)
    · have hq := hq.2 hc
      refine lv_iload_n hx hb dX5_takes_22 rfl (lv_at hl 1 rfl) ?_
      refine kr_Si (As := [.int v1]) (rest := []) C0 hK hP hS hl (km_X2_isMark l hI hq) kd_X2_isMark kq_310 ⟨rfl, rfl, Nat.le_of_ble_eq_true rfl, Nat.le_of_ble_eq_true rfl⟩ rfl (Nat.le_of_ble_eq_true rfl) dX5_takes_23 ⟨Nat.zero_le _, Nat.zero_le _⟩ (fun r2 σ1 H locs hq hP hS => ?_)
      refine lv_if_eq (tgt := 50) hx hb dX5_takes_26 (by decide) (fun hc => ?_) (fun hc => ?_)
      · have hq := hq.1 hc
        refine lv_aload_n hx hb dX5_takes_50 rfl (lv_at hl 0 rfl) ?_
        refine kg_X5_inGlosses C0 hK hP (kv_s (by decide) (by decide)) kq_102 dX5_takes_51 ?_
        refine lv_if_eq (tgt := 65) hx hb dX5_takes_54 (by decide) (fun hc => ?_) (fun hc => ?_)
        · have hq := hq.1 hc
          refine lv_aload_n hx hb dX5_takes_65 rfl (lv_at hl 0 rfl) ?_
          refine lv_iload_n hx hb dX5_takes_66 rfl (lv_at hl 1 rfl) ?_
          refine kr_Vi (k := (18, 0, 0)) (As := [.int v1]) (rest := []) C0 hK hP hS hl (km_X5_takesLetter l hI hq) kd_X5_takesLetter kq_338 (kv_s (by decide) (by decide)) rfl rfl rfl ⟨rfl, rfl, Nat.le_of_ble_eq_true rfl, Nat.le_of_ble_eq_true rfl⟩ rfl (Nat.le_of_ble_eq_true rfl) dX5_takes_67 ⟨Nat.zero_le _, Nat.zero_le _⟩ (fun r4 σ3 H locs hq hP hS => ?_)
          obtain ⟨hz, hq⟩ := hq
          exact kr_zret C0 hK hP hS (kz_n hz) hq dX5_takes_70
        · have hq := hq.2 hc
          refine lv_aload_n hx hb dX5_takes_57 rfl (lv_at hl 0 rfl) ?_
          refine lv_iload_n hx hb dX5_takes_58 rfl (lv_at hl 1 rfl) ?_
          refine kr_Vi (k := (18, 0, 0)) (As := [.int v1]) (rest := []) C0 hK hP hS hl (km_X5_takesGlossLetter l hI hq) kd_X5_takesGlossLetter kq_321 (kv_s (by decide) (by decide)) rfl rfl rfl ⟨rfl, rfl, Nat.le_of_ble_eq_true rfl, Nat.le_of_ble_eq_true rfl⟩ rfl (Nat.le_of_ble_eq_true rfl) dX5_takes_59 ⟨Nat.zero_le _, Nat.zero_le _⟩ (fun r6 σ5 H locs hq hP hS => ?_)
          refine lv_goto (tgt := 70) hx hb dX5_takes_62 (by decide) ?_
          obtain ⟨hz, hq⟩ := hq
          exact kr_zret C0 hK hP hS (kz_n hz) hq dX5_takes_70
      · have hq := hq.2 hc
        refine lv_aload_n hx hb dX5_takes_29 rfl (lv_at hl 0 rfl) ?_
        refine kg_X5_inGlosses C0 hK hP (kv_s (by decide) (by decide)) kq_102 dX5_takes_30 ?_
        refine lv_if_eq (tgt := 44) hx hb dX5_takes_33 (by decide) (fun hc => ?_) (fun hc => ?_)
        · have hq := hq.1 hc
          refine lv_aload_n hx hb dX5_takes_44 rfl (lv_at hl 0 rfl) ?_
          refine lv_iload_n hx hb dX5_takes_45 rfl (lv_at hl 1 rfl) ?_
          refine kr_Vi (k := (18, 0, 0)) (As := [.int v1]) (rest := []) C0 hK hP hS hl (km_X5_takesMarkOfParts l hI hq) kd_X5_takesMarkOfParts kq_317 (kv_s (by decide) (by decide)) rfl rfl rfl ⟨rfl, rfl, Nat.le_of_ble_eq_true rfl, Nat.le_of_ble_eq_true rfl⟩ rfl (Nat.le_of_ble_eq_true rfl) dX5_takes_46 ⟨Nat.zero_le _, Nat.zero_le _⟩ (fun r8 σ7 H locs hq hP hS => ?_)
          obtain ⟨hz, hq⟩ := hq
          exact kr_zret C0 hK hP hS (kz_n hz) hq dX5_takes_49
        · have hq := hq.2 hc
          refine lv_aload_n hx hb dX5_takes_36 rfl (lv_at hl 0 rfl) ?_
          refine lv_iload_n hx hb dX5_takes_37 rfl (lv_at hl 1 rfl) ?_
          refine kr_Vi (k := (18, 0, 0)) (As := [.int v1]) (rest := []) C0 hK hP hS hl (km_X5_takesMarkOfGlosses l hI hq) kd_X5_takesMarkOfGlosses kq_313 (kv_s (by decide) (by decide)) rfl rfl rfl ⟨rfl, rfl, Nat.le_of_ble_eq_true rfl, Nat.le_of_ble_eq_true rfl⟩ rfl (Nat.le_of_ble_eq_true rfl) dX5_takes_38 ⟨Nat.zero_le _, Nat.zero_le _⟩ (fun r10 σ9 H locs hq hP hS => ?_)
          refine lv_goto (tgt := 49) hx hb dX5_takes_41 (by decide) ?_
          obtain ⟨hz, hq⟩ := hq
          exact kr_zret C0 hK hP hS (kz_n hz) hq dX5_takes_49
    · have hq := hq.1 hc
      refine lv_aload_n hx hb dX5_takes_17 rfl (lv_at hl 0 rfl) ?_
      refine kr_Vi (k := (18, 0, 0)) (As := []) (rest := []) C0 hK hP hS hl (km_X5_takesColon l hI hq) kd_X5_takesColon kq_306 (kv_s (by decide) (by decide)) rfl rfl rfl ⟨rfl, rfl, Nat.le_of_ble_eq_true rfl, Nat.le_of_ble_eq_true rfl⟩ rfl (Nat.le_of_ble_eq_true rfl) dX5_takes_18 ⟨Nat.zero_le _, Nat.zero_le _⟩ (fun r12 σ11 H locs hq hP hS => ?_)
      obtain ⟨hz, hq⟩ := hq
      exact kr_zret C0 hK hP hS (kz_n hz) hq dX5_takes_21
  · have hq := hq.1 hc
    refine lv_aload_n hx hb dX5_takes_6 rfl (lv_at hl 0 rfl) ?_
    refine kr_Vi (k := (18, 0, 0)) (As := []) (rest := []) C0 hK hP hS hl (km_X5_takesBlank l hI hq) kd_X5_takesBlank kq_290 (kv_s (by decide) (by decide)) rfl rfl rfl ⟨rfl, rfl, Nat.le_of_ble_eq_true rfl, Nat.le_of_ble_eq_true rfl⟩ rfl (Nat.le_of_ble_eq_true rfl) dX5_takes_7 ⟨Nat.zero_le _, Nat.zero_le _⟩ (fun r14 σ13 H locs hq hP hS => ?_)
    obtain ⟨hz, hq⟩ := hq
    exact kr_zret C0 hK hP hS (kz_n hz) hq dX5_takes_10
/-! GlossRows$Reader.read(LGlossRows$Text;)I -/
def rm_X5_read : Room := { frames := 5, cells := 0, slots := 0, locals := 102 }
def kw_X5_read_11 (Q : Int32 → ka_S → Prop) : Nat → ka_S → Int32 → Prop
  | 0, _, _ => False
  | n + 1, σ, v2 => ((σ.1 (10, 0, 0) 1) ≤ v2 → kw_X5_isWordWhole σ (fun r5 σ4 => 
      (r5 = (0 : Int32) → Q (σ4.1 (10, 0, 0) 1) σ4) ∧
      (¬ r5 = (0 : Int32) → Q (-9 : Int32) σ4))) ∧
    (¬ (σ.1 (10, 0, 0) 1) ≤ v2 → vp_in v2 60 ∧
      kw_X5_takes σ (σ.1 (11, 0, 0) v2.toNatClampNeg) (fun r8 σ7 => 
      (r8 = (0 : Int32) → Q v2 σ7) ∧
      (¬ r8 = (0 : Int32) → ∀ x9 : Int32, x9 = v2 + (1 : Int32) →
        (kw_X5_read_11 Q n) σ7 x9)))
def kw_X5_read (σ : ka_S) (Q : Int32 → ka_S → Prop) : Prop := ∀ σ1 : ka_S, σ1 = ka_wI σ (18, 0, 0) 1 (0 : Int32) →
  kw_X5_openWord σ1 (fun σ2 => 
  ∃ n3 : Nat, kw_X5_read_11 Q n3 σ2 (0 : Int32))
set_option maxHeartbeats 4000000 in
set_option maxRecDepth 100000 in
theorem kb_X5_read_11 {p : Program} {l : Launch} {e : Env} {s : State} {m : MethodId} {args : Array Value} {below : List Frame} {meth : Method} {c : Code} {G : ka_G} (hI : ka_I G) (C0 : ka_C p s m args meth c cX5_read 3 "GlossRows$Reader" (some .int)) (hK : ka_Kn G s) {Q : Int32 → ka_S → Prop} : ∀ (n : Nat) (σ : ka_S) (v2 : Int32), kw_X5_read_11 Q n σ v2 → ∀ (H : Heap) (locs : List Loc), ka_P G σ H → va_S (ka_A G) s.heap H locs → ∀ ls : Array Slot, lv_has ls 3 [(0, .ref (ka_a G (18, 0, 0))), (1, .ref (ka_a G (10, 0, 0))), (2, .int v2)] → W p l e rm_X5_read s m args below meth c H locs 0 0 (MQ below (va_Qi Q (ka_B G) (ka_A G)) args s 0 0 (ka_A G)) (F0 m 11 ls []) := by
  obtain ⟨hx, hb, -, hml, hown, hts, -⟩ := id C0
  intro n
  induction n with
  | zero =>
    intro σ v2 hq
    rw [kw_X5_read_11] at hq
    exact hq.elim
  | succ n ih =>
    intro σ v2 hq H locs hP hS ls hl
    rw [kw_X5_read_11] at hq
    refine lv_iload_n hx hb dX5_read_11 rfl (lv_at hl 2 rfl) ?_
    refine lv_aload_n hx hb dX5_read_12 rfl (lv_at hl 1 rfl) ?_
    refine kg_X6_length C0 hK hP (kv_s (by decide) (by decide)) kq_35 dX5_read_13 ?_
    refine lv_icmp_ge (tgt := 40) hx hb dX5_read_16 (by decide) (fun hc => ?_) (fun hc => ?_)
    · have hq := hq.1 hc
      refine lv_aload_n hx hb dX5_read_40 rfl (lv_at hl 0 rfl) ?_
      refine kr_Vi (k := (18, 0, 0)) (As := []) (rest := []) C0 hK hP hS hl (km_X5_isWordWhole l hI hq) kd_X5_isWordWhole kq_294 (kv_s (by decide) (by decide)) rfl rfl rfl ⟨rfl, rfl, Nat.le_of_ble_eq_true rfl, Nat.le_of_ble_eq_true rfl⟩ rfl (Nat.le_of_ble_eq_true rfl) dX5_read_41 ⟨Nat.zero_le _, Nat.zero_le _⟩ (fun r5 σ4 H locs hq hP hS => ?_)
      refine lv_if_eq (tgt := 52) hx hb dX5_read_44 (by decide) (fun hc => ?_) (fun hc => ?_)
      · have hq := hq.1 hc
        refine lv_aload_n hx hb dX5_read_52 rfl (lv_at hl 1 rfl) ?_
        refine kg_X6_length C0 hK hP (kv_s (by decide) (by decide)) kq_35 dX5_read_53 ?_
        exact kr_iret C0 hK hP hS hq dX5_read_56
      · have hq := hq.2 hc
        refine lv_bipush (v := -9) hx hb dX5_read_47 (by decide) ?_
        refine lv_goto (tgt := 56) hx hb dX5_read_49 (by decide) ?_
        exact kr_iret C0 hK hP hS hq dX5_read_56
    · have hq := hq.2 hc
      refine lv_aload_n hx hb dX5_read_19 rfl (lv_at hl 0 rfl) ?_
      refine lv_aload_n hx hb dX5_read_20 rfl (lv_at hl 1 rfl) ?_
      refine kg_X6_codes C0 hK hP (kv_s (by decide) (by decide)) kq_32 dX5_read_21 ?_
      refine lv_iload_n hx hb dX5_read_24 rfl (lv_at hl 2 rfl) ?_
      obtain ⟨b6, hq⟩ := hq
      refine kr_iald C0 hK hP (kv_s (by decide) (by decide)) rfl b6 dX5_read_25 ?_
      refine kr_Vi (k := (18, 0, 0)) (As := [.int (σ.1 (11, 0, 0) v2.toNatClampNeg)]) (rest := []) C0 hK hP hS hl (km_X5_takes l hI hq) kd_X5_takes kq_286 (kv_s (by decide) (by decide)) rfl rfl rfl ⟨rfl, rfl, Nat.le_of_ble_eq_true rfl, Nat.le_of_ble_eq_true rfl⟩ rfl (Nat.le_of_ble_eq_true rfl) dX5_read_26 ⟨Nat.zero_le _, Nat.zero_le _⟩ (fun r8 σ7 H locs hq hP hS => ?_)
      refine lv_if_ne (tgt := 34) hx hb dX5_read_29 (by decide) (fun hc => ?_) (fun hc => ?_)
      · have hq := hq.2 hc
        obtain ⟨x9, ex9⟩ : ∃ y : Int32, y = v2 + (1 : Int32) := ⟨_, rfl⟩
        have hq := hq x9 ex9
        refine lv_iinc (v := x9) (lv' := [(2, .int x9), (0, .ref (ka_a G (18, 0, 0))), (1, .ref (ka_a G (10, 0, 0)))]) hx hb dX5_read_34 hl (k := 2) rfl (by rw [ex9]; rfl) (by decide) rfl (fun ls hl => ?_)
        refine lv_goto (tgt := 11) hx hb dX5_read_37 (by decide) ?_
        exact ih σ7 x9 hq H locs hP hS ls (lv_sub hl [1, 2, 0] rfl)
      · have hq := hq.1 hc
        refine lv_iload_n hx hb dX5_read_32 rfl (lv_at hl 2 rfl) ?_
        exact kr_iret C0 hK hP hS hq dX5_read_33
set_option maxHeartbeats 4000000 in
set_option maxRecDepth 100000 in
theorem km_X5_read (l : Launch) {G : ka_G} (hI : ka_I G) {σ : ka_S} {Q : Int32 → ka_S → Prop} (hq : kw_X5_read σ Q) : kc_i l yX5_read (kw_ yX5_read cX5_read 3 (some .int)) rm_X5_read G [.ref (ka_a G (18, 0, 0)), .ref (ka_a G (10, 0, 0))] σ Q := by
  refine ka_of "GlossRows$Reader" rfl (by decide) (Nat.le_of_ble_eq_true rfl) ?_
  intro p e s m below meth c C0 hK H locs hP hS ls hl
  obtain ⟨hx, hb, -, hml, hown, hts, -⟩ := id C0
  have hl : lv_has ls 3 [(0, .ref (ka_a G (18, 0, 0))), (1, .ref (ka_a G (10, 0, 0)))] := hl
  unfold kw_X5_read at hq
  refine lv_aload_n hx hb dX5_read_0 rfl (lv_at hl 0 rfl) ?_
  refine lv_iconst (v := 0) hx hb dX5_read_1 (by decide) ?_
  refine kp_X5_count C0 hK hI hP hS (kv_s (by decide) (by decide)) kq_98 dX5_read_2 (fun H locs hP hS => ?_)
  obtain ⟨σ1, eσ1⟩ : ∃ z : ka_S, z = ka_wI σ (18, 0, 0) 1 (0 : Int32) := ⟨_, rfl⟩
  rw [← eσ1] at hP
  have hq := hq σ1 eσ1
  refine lv_aload_n hx hb dX5_read_5 rfl (lv_at hl 0 rfl) ?_
  refine kr_Vv (k := (18, 0, 0)) (As := []) (rest := []) C0 hK hP hS hl (km_X5_openWord l hI hq) kd_X5_openWord kq_274 (kv_s (by decide) (by decide)) rfl rfl rfl ⟨rfl, rfl, Nat.le_of_ble_eq_true rfl, Nat.le_of_ble_eq_true rfl⟩ rfl (Nat.le_of_ble_eq_true rfl) dX5_read_6 ⟨Nat.zero_le _, Nat.zero_le _⟩ (fun σ2 H locs hq hP hS => ?_)
  refine lv_iconst (v := 0) hx hb dX5_read_9 (by decide) ?_
  refine lv_istore_n (lv' := [(2, .int (0 : Int32)), (0, .ref (ka_a G (18, 0, 0))), (1, .ref (ka_a G (10, 0, 0)))]) hx hb dX5_read_10 rfl hl (by decide) rfl (fun ls hl => ?_)
  obtain ⟨n3, hq⟩ := hq
  exact kb_X5_read_11 hI C0 hK n3 σ2 (0 : Int32) hq H locs hP hS ls (lv_sub hl [1, 2, 0] rfl)
