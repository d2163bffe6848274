/-! GlossRowsModel.clean([J)V -/
def rm_X9_clean : Room := { frames := 0, cells := 0, slots := 0, locals := 0 }
def kw_X9_clean_2 (a : ka_K) (Q : ka_S → Prop) : Nat → ka_S → Int32 → Prop
  | 0, _, _ => False
  | n + 1, σ, v1 => ((253 : Int32) ≤ v1 → vp_in (2 : Int32) (ka_n a) ∧
      ∀ σ3 : ka_S, σ3 = ka_wL σ a (2 : Int32).toNatClampNeg (30 : Int64) →
      vp_in (3 : Int32) (ka_n a) ∧
      ∀ σ5 : ka_S, σ5 = ka_wL σ3 a (3 : Int32).toNatClampNeg (2 : Int64) →
      vp_in (4 : Int32) (ka_n a) ∧
      ∀ σ7 : ka_S, σ7 = ka_wL σ5 a (4 : Int32).toNatClampNeg (1 : Int64) →
      Q σ7) ∧
    (¬ (253 : Int32) ≤ v1 → vp_in v1 (ka_n a) ∧
      ∀ σ9 : ka_S, σ9 = ka_wL σ a v1.toNatClampNeg (0 : Int64) →
      ∀ x10 : Int32, x10 = v1 + (1 : Int32) →
      (kw_X9_clean_2 a Q n) σ9 x10)
def kw_X9_clean (σ : ka_S) (a : ka_K) (Q : ka_S → Prop) : Prop := ∃ n1 : Nat, kw_X9_clean_2 a Q n1 σ (0 : Int32)
set_option maxHeartbeats 4000000 in
set_option maxRecDepth 100000 in
theorem kb_X9_clean_2 {p : Program} {l : Launch} {e : Env} {s : State} {m : MethodId} {args : Array Value} {below : List Frame} {meth : Method} {c : Code} {G : ka_G} (hI : ka_I G) {a : ka_K} (ha : ka_L a) (C0 : ka_C p s m args meth c cX9_clean 2 "GlossRowsModel" none) (hK : ka_Kn G s) {Q : ka_S → Prop} : ∀ (n : Nat) (σ : ka_S) (v1 : Int32), kw_X9_clean_2 a Q n σ v1 → ∀ (H : Heap) (locs : List Loc), ka_P G σ H → va_S (ka_A G) s.heap H locs → ∀ ls : Array Slot, lv_has ls 2 [(0, .ref (ka_a G a)), (1, .int v1)] → W p l e rm_X9_clean s m args below meth c H locs 0 0 (MQ below (va_Qv Q (ka_B G) (ka_A G)) args s 0 0 (ka_A G)) (F0 m 2 ls []) := by
  obtain ⟨hx, hb, -, hml, hown, hts, -⟩ := id C0
  intro n
  induction n with
  | zero =>
    intro σ v1 hq
    rw [kw_X9_clean_2] at hq
    exact hq.elim
  | succ n ih =>
    intro σ v1 hq H locs hP hS ls hl
    rw [kw_X9_clean_2] at hq
    refine lv_iload_n hx hb dX9_clean_2 rfl (lv_at hl 1 rfl) ?_
    refine lv_sipush (v := 253) hx hb dX9_clean_3 (by decide) ?_
    refine lv_icmp_ge (tgt := 19) hx hb dX9_clean_6 (by decide) (fun hc => ?_) (fun hc => ?_)
    · have hq := hq.1 hc
      refine lv_aload_n hx hb dX9_clean_19 rfl (lv_at hl 0 rfl) ?_
      refine lv_iconst (v := 2) hx hb dX9_clean_20 (by decide) ?_
      refine lv_ldc2 hx hb hown (hts _ kq_953) dX9_clean_21 ?_
      obtain ⟨b2, hq⟩ := hq
      refine kr_last C0 hK hI hP hS ha.1 (ha.2 G) b2 dX9_clean_24 (fun H locs hP hS => ?_)
      obtain ⟨σ3, eσ3⟩ : ∃ z : ka_S, z = ka_wL σ a (2 : Int32).toNatClampNeg (30 : Int64) := ⟨_, rfl⟩
      rw [← eσ3] at hP
      have hq := hq σ3 eσ3
      refine lv_aload_n hx hb dX9_clean_25 rfl (lv_at hl 0 rfl) ?_
      refine lv_iconst (v := 3) hx hb dX9_clean_26 (by decide) ?_
      refine lv_ldc2 hx hb hown (hts _ kq_954) dX9_clean_27 ?_
      obtain ⟨b4, hq⟩ := hq
      refine kr_last C0 hK hI hP hS ha.1 (ha.2 G) b4 dX9_clean_30 (fun H locs hP hS => ?_)
      obtain ⟨σ5, eσ5⟩ : ∃ z : ka_S, z = ka_wL σ3 a (3 : Int32).toNatClampNeg (2 : Int64) := ⟨_, rfl⟩
      rw [← eσ5] at hP
      have hq := hq σ5 eσ5
      refine lv_aload_n hx hb dX9_clean_31 rfl (lv_at hl 0 rfl) ?_
      refine lv_iconst (v := 4) hx hb dX9_clean_32 (by decide) ?_
      refine lv_lconst (v := 1) hx hb dX9_clean_33 (by decide) ?_
      obtain ⟨b6, hq⟩ := hq
      refine kr_last C0 hK hI hP hS ha.1 (ha.2 G) b6 dX9_clean_34 (fun H locs hP hS => ?_)
      obtain ⟨σ7, eσ7⟩ : ∃ z : ka_S, z = ka_wL σ5 a (4 : Int32).toNatClampNeg (1 : Int64) := ⟨_, rfl⟩
      rw [← eσ7] at hP
      have hq := hq σ7 eσ7
      exact kr_vret C0 hK hP hS hq dX9_clean_35
    · have hq := hq.2 hc
      refine lv_aload_n hx hb dX9_clean_9 rfl (lv_at hl 0 rfl) ?_
      refine lv_iload_n hx hb dX9_clean_10 rfl (lv_at hl 1 rfl) ?_
      refine lv_lconst (v := 0) hx hb dX9_clean_11 (by decide) ?_
      obtain ⟨b8, hq⟩ := hq
      refine kr_last C0 hK hI hP hS ha.1 (ha.2 G) b8 dX9_clean_12 (fun H locs hP hS => ?_)
      obtain ⟨σ9, eσ9⟩ : ∃ z : ka_S, z = ka_wL σ a v1.toNatClampNeg (0 : Int64) := ⟨_, rfl⟩
      rw [← eσ9] at hP
      have hq := hq σ9 eσ9
      obtain ⟨x10, ex10⟩ : ∃ y : Int32, y = v1 + (1 : Int32) := ⟨_, rfl⟩
      have hq := hq x10 ex10
      refine lv_iinc (v := x10) (lv' := [(1, .int x10), (0, .ref (ka_a G a))]) hx hb dX9_clean_13 hl (k := 1) rfl (by rw [ex10]; rfl) (by decide) rfl (fun ls hl => ?_)
      refine lv_goto (tgt := 2) hx hb dX9_clean_16 (by decide) ?_
      exact ih σ9 x10 hq H locs hP hS ls (lv_sub hl [1, 0] rfl)
set_option maxHeartbeats 4000000 in
set_option maxRecDepth 100000 in
theorem km_X9_clean (l : Launch) {G : ka_G} (hI : ka_I G) {a : ka_K} (ha : ka_L a) {σ : ka_S} {Q : ka_S → Prop} (hq : kw_X9_clean σ a Q) : kc_v l yX9_clean (kw_ yX9_clean cX9_clean 2 none) rm_X9_clean G [.ref (ka_a G a)] σ Q := by
  refine ka_of "GlossRowsModel" rfl (by decide) (Nat.le_of_ble_eq_true rfl) ?_
  intro p e s m below meth c C0 hK H locs hP hS ls hl
  obtain ⟨hx, hb, -, hml, hown, hts, -⟩ := id C0
  have hl : lv_has ls 2 [(0, .ref (ka_a G a))] := hl
  unfold kw_X9_clean at hq
  refine lv_iconst (v := 0) hx hb dX9_clean_0 (by decide) ?_
  refine lv_istore_n (lv' := [(1, .int (0 : Int32)), (0, .ref (ka_a G a))]) hx hb dX9_clean_1 rfl hl (by decide) rfl (fun ls hl => ?_)
  obtain ⟨n1, hq⟩ := hq
  exact kb_X9_clean_2 hI ha C0 hK n1 σ (0 : Int32) hq H locs hP hS ls (lv_sub hl [1, 0] rfl)
/-! GlossRowsModel.thrown()I -/
def rm_X9_thrown : Room := { frames := 0, cells := 0, slots := 0, locals := 0 }
def kw_X9_thrown (σ : ka_S) (Q : Int32 → ka_S → Prop) : Prop := Q (σ.1 (25, 0, 0) 0) σ
set_option maxHeartbeats 4000000 in
set_option maxRecDepth 100000 in
theorem km_X9_thrown (l : Launch) {G : ka_G} (hI : ka_I G) {σ : ka_S} {Q : Int32 → ka_S → Prop} (hq : kw_X9_thrown σ Q) : kc_i l yX9_thrown (kw_ yX9_thrown cX9_thrown 1 (some .int)) rm_X9_thrown G [.ref (ka_a G (25, 0, 0))] σ Q := by
  refine ka_of "GlossRowsModel" rfl (by decide) (Nat.le_of_ble_eq_true rfl) ?_
  intro p e s m below meth c C0 hK H locs hP hS ls hl
  obtain ⟨hx, hb, -, hml, hown, hts, -⟩ := id C0
  have hl : lv_has ls 1 [(0, .ref (ka_a G (25, 0, 0)))] := hl
  unfold kw_X9_thrown at hq
  refine lv_aload_n hx hb dX9_thrown_0 rfl (lv_at hl 0 rfl) ?_
  refine kg_X9_refusal C0 hK hP (kv_s (by decide) (by decide)) kq_955 dX9_thrown_1 ?_
  exact kr_iret C0 hK hP hS hq dX9_thrown_4
/-! GlossRowsModel.refused(I)Z -/
def rm_X9_refused : Room := { frames := 0, cells := 0, slots := 0, locals := 0 }
def kw_X9_refused (σ : ka_S) (v1 : Int32) (Q : Int32 → ka_S → Prop) : Prop := ∀ σ1 : ka_S, σ1 = ka_wI σ (25, 0, 0) 0 v1 →
  (v1 ≤ (0 : Int32) → Q (0 : Int32) σ1) ∧
  (¬ v1 ≤ (0 : Int32) → Q (1 : Int32) σ1)
set_option maxHeartbeats 4000000 in
set_option maxRecDepth 100000 in
theorem km_X9_refused (l : Launch) {G : ka_G} (hI : ka_I G) {σ : ka_S} {v1 : Int32} {Q : Int32 → ka_S → Prop} (hq : kw_X9_refused σ v1 Q) : kc_i l yX9_refused (kw_ yX9_refused cX9_refused 2 (some .boolean)) rm_X9_refused G [.ref (ka_a G (25, 0, 0)), .int v1] σ Q := by
  refine ka_of "GlossRowsModel" rfl (by decide) (Nat.le_of_ble_eq_true rfl) ?_
  intro p e s m below meth c C0 hK H locs hP hS ls hl
  obtain ⟨hx, hb, -, hml, hown, hts, -⟩ := id C0
  have hl : lv_has ls 2 [(0, .ref (ka_a G (25, 0, 0))), (1, .int v1)] := hl
  unfold kw_X9_refused at hq
  refine lv_aload_n hx hb dX9_refused_0 rfl (lv_at hl 0 rfl) ?_
  refine lv_iload_n hx hb dX9_refused_1 rfl (lv_at hl 1 rfl) ?_
  refine kp_X9_refusal C0 hK hI hP hS (kv_s (by decide) (by decide)) kq_955 dX9_refused_2 (fun H locs hP hS => ?_)
  obtain ⟨σ1, eσ1⟩ : ∃ z : ka_S, z = ka_wI σ (25, 0, 0) 0 v1 := ⟨_, rfl⟩
  rw [← eσ1] at hP
  have hq := hq σ1 eσ1
  refine lv_iload_n hx hb dX9_refused_5 rfl (lv_at hl 1 rfl) ?_
  refine lv_if_le (tgt := 13) hx hb dX9_refused_6 (by decide) (fun hc => ?_) (fun hc => ?_)
  · have hq := hq.1 hc
    refine lv_iconst (v := 0) hx hb dX9_refused_13 (by decide) ?_
    exact kr_zret C0 hK hP hS rfl hq dX9_refused_14
  · have hq := hq.2 hc
    refine lv_iconst (v := 1) hx hb dX9_refused_9 (by decide) ?_
    refine lv_goto (tgt := 14) hx hb dX9_refused_10 (by decide) ?_
    exact kr_zret C0 hK hP hS rfl hq dX9_refused_14
/-! GlossRowsModel.in(JJJ)Z -/
def rm_X9_in : Room := { frames := 0, cells := 0, slots := 0, locals := 0 }
def kw_X9_in (σ : ka_S) (v0 : Int64) (v2 : Int64) (v4 : Int64) (Q : Int32 → ka_S → Prop) : Prop := (v0 < v2 → Q (0 : Int32) σ) ∧
  (¬ v0 < v2 → (v4 < v0 → Q (0 : Int32) σ) ∧
    (¬ v4 < v0 → Q (1 : Int32) σ))
set_option maxHeartbeats 4000000 in
set_option maxRecDepth 100000 in
theorem km_X9_in (l : Launch) {G : ka_G} (hI : ka_I G) {σ : ka_S} {v0 : Int64} {v2 : Int64} {v4 : Int64} {Q : Int32 → ka_S → Prop} (hq : kw_X9_in σ v0 v2 v4 Q) : kc_i l yX9_in (kw_ yX9_in cX9_in 6 (some .boolean)) rm_X9_in G [.long v0, .long v2, .long v4] σ Q := by
  refine ka_of "GlossRowsModel" rfl (by decide) (Nat.le_of_ble_eq_true rfl) ?_
  intro p e s m below meth c C0 hK H locs hP hS ls hl
  obtain ⟨hx, hb, -, hml, hown, hts, -⟩ := id C0
  have hl : lv_has ls 6 [(0, .long v0), (2, .long v2), (4, .long v4)] := hl
  unfold kw_X9_in at hq
  refine lv_lload_n hx hb dX9_in_0 rfl (lv_at hl 0 rfl) ?_
  refine lv_lload_n hx hb dX9_in_1 rfl (lv_at hl 1 rfl) ?_
  refine kr_clt (tgt := 17) C0 dX9_in_2 dX9_in_3 (by decide) (fun hc => ?_) (fun hc => ?_)
  · have hq := hq.1 hc
    refine lv_iconst (v := 0) hx hb dX9_in_17 (by decide) ?_
    exact kr_zret C0 hK hP hS rfl hq dX9_in_18
  · have hq := hq.2 hc
    refine lv_lload_n hx hb dX9_in_6 rfl (lv_at hl 0 rfl) ?_
    refine lv_lload hx hb dX9_in_7 (lv_at hl 2 rfl) ?_
    refine kr_cgt (tgt := 17) C0 dX9_in_9 dX9_in_10 (by decide) (fun hc => ?_) (fun hc => ?_)
    · have hq := hq.1 hc
      refine lv_iconst (v := 0) hx hb dX9_in_17 (by decide) ?_
      exact kr_zret C0 hK hP hS rfl hq dX9_in_18
    · have hq := hq.2 hc
      refine lv_iconst (v := 1) hx hb dX9_in_13 (by decide) ?_
      refine lv_goto (tgt := 18) hx hb dX9_in_14 (by decide) ?_
      exact kr_zret C0 hK hP hS rfl hq dX9_in_18
/-! GlossRowsModel.copy([JI[JII)V -/
def rm_X9_copy : Room := { frames := 0, cells := 0, slots := 0, locals := 0 }
def kw_X9_copy_3 (a : ka_K) (a2 : ka_K) (Q : ka_S → Prop) : Nat → ka_S → Int32 → Int32 → Int32 → Int32 → Prop
  | 0, _, _, _, _, _ => False
  | n + 1, σ, v1, v3, v4, v5 => (v4 ≤ v5 → Q σ) ∧
    (¬ v4 ≤ v5 → vp_in (v1 + v5) (ka_n a) ∧
      vp_in (v3 + v5) (ka_n a2) ∧
      ∀ σ4 : ka_S, σ4 = ka_wL σ a2 (v3 + v5).toNatClampNeg (σ.2 a (v1 + v5).toNatClampNeg) →
      ∀ x5 : Int32, x5 = v5 + (1 : Int32) →
      (kw_X9_copy_3 a a2 Q n) σ4 v1 v3 v4 x5)
def kw_X9_copy (σ : ka_S) (a : ka_K) (a2 : ka_K) (v1 : Int32) (v3 : Int32) (v4 : Int32) (Q : ka_S → Prop) : Prop := ∃ n1 : Nat, kw_X9_copy_3 a a2 Q n1 σ v1 v3 v4 (0 : Int32)
set_option maxHeartbeats 4000000 in
set_option maxRecDepth 100000 in
theorem kb_X9_copy_3 {p : Program} {l : Launch} {e : Env} {s : State} {m : MethodId} {args : Array Value} {below : List Frame} {meth : Method} {c : Code} {G : ka_G} (hI : ka_I G) {a : ka_K} {a2 : ka_K} (ha : ka_L a) (ha2 : ka_L a2) (C0 : ka_C p s m args meth c cX9_copy 6 "GlossRowsModel" none) (hK : ka_Kn G s) {Q : ka_S → Prop} : ∀ (n : Nat) (σ : ka_S) (v1 : Int32) (v3 : Int32) (v4 : Int32) (v5 : Int32), kw_X9_copy_3 a a2 Q n σ v1 v3 v4 v5 → ∀ (H : Heap) (locs : List Loc), ka_P G σ H → va_S (ka_A G) s.heap H locs → ∀ ls : Array Slot, lv_has ls 6 [(0, .ref (ka_a G a)), (1, .int v1), (2, .ref (ka_a G a2)), (3, .int v3), (4, .int v4), (5, .int v5)] → W p l e rm_X9_copy s m args below meth c H locs 0 0 (MQ below (va_Qv Q (ka_B G) (ka_A G)) args s 0 0 (ka_A G)) (F0 m 3 ls []) := by
  obtain ⟨hx, hb, -, hml, hown, hts, -⟩ := id C0
  intro n
  induction n with
  | zero =>
    intro σ v1 v3 v4 v5 hq
    rw [kw_X9_copy_3] at hq
    exact hq.elim
  | succ n ih =>
    intro σ v1 v3 v4 v5 hq H locs hP hS ls hl
    rw [kw_X9_copy_3] at hq
    refine lv_iload hx hb dX9_copy_3 (lv_at hl 5 rfl) ?_
    refine lv_iload hx hb dX9_copy_5 (lv_at hl 4 rfl) ?_
    refine lv_icmp_ge (tgt := 28) hx hb dX9_copy_7 (by decide) (fun hc => ?_) (fun hc => ?_)
    · have hq := hq.1 hc
      exact kr_vret C0 hK hP hS hq dX9_copy_28
    · have hq := hq.2 hc
      refine lv_aload_n hx hb dX9_copy_10 rfl (lv_at hl 2 rfl) ?_
      refine lv_iload_n hx hb dX9_copy_11 rfl (lv_at hl 3 rfl) ?_
      refine lv_iload hx hb dX9_copy_12 (lv_at hl 5 rfl) ?_
      refine lv_iadd hx hb dX9_copy_14 ?_
      refine lv_aload_n hx hb dX9_copy_15 rfl (lv_at hl 0 rfl) ?_
      refine lv_iload_n hx hb dX9_copy_16 rfl (lv_at hl 1 rfl) ?_
      refine lv_iload hx hb dX9_copy_17 (lv_at hl 5 rfl) ?_
      refine lv_iadd hx hb dX9_copy_19 ?_
      obtain ⟨b2, hq⟩ := hq
      refine kr_lald C0 hK hP ha.1 (ha.2 G _) b2 dX9_copy_20 ?_
      obtain ⟨b3, hq⟩ := hq
      refine kr_last C0 hK hI hP hS ha2.1 (ha2.2 G) b3 dX9_copy_21 (fun H locs hP hS => ?_)
      obtain ⟨σ4, eσ4⟩ : ∃ z : ka_S, z = ka_wL σ a2 (v3 + v5).toNatClampNeg (σ.2 a (v1 + v5).toNatClampNeg) := ⟨_, rfl⟩
      rw [← eσ4] at hP
      have hq := hq σ4 eσ4
      obtain ⟨x5, ex5⟩ : ∃ y : Int32, y = v5 + (1 : Int32) := ⟨_, rfl⟩
      have hq := hq x5 ex5
      refine lv_iinc (v := x5) (lv' := [(5, .int x5), (0, .ref (ka_a G a)), (1, .int v1), (2, .ref (ka_a G a2)), (3, .int v3), (4, .int v4)]) hx hb dX9_copy_22 hl (k := 5) rfl (by rw [ex5]; rfl) (by decide) rfl (fun ls hl => ?_)
      refine lv_goto (tgt := 3) hx hb dX9_copy_25 (by decide) ?_
      exact ih σ4 v1 v3 v4 x5 hq H locs hP hS ls (lv_sub hl [1, 2, 3, 4, 5, 0] rfl)
set_option maxHeartbeats 4000000 in
set_option maxRecDepth 100000 in
theorem km_X9_copy (l : Launch) {G : ka_G} (hI : ka_I G) {a : ka_K} {a2 : ka_K} (ha : ka_L a) (ha2 : ka_L a2) {σ : ka_S} {v1 : Int32} {v3 : Int32} {v4 : Int32} {Q : ka_S → Prop} (hq : kw_X9_copy σ a a2 v1 v3 v4 Q) : kc_v l yX9_copy (kw_ yX9_copy cX9_copy 6 none) rm_X9_copy G [.ref (ka_a G a), .int v1, .ref (ka_a G a2), .int v3, .int v4] σ Q := by
  refine ka_of "GlossRowsModel" rfl (by decide) (Nat.le_of_ble_eq_true rfl) ?_
  intro p e s m below meth c C0 hK H locs hP hS ls hl
  obtain ⟨hx, hb, -, hml, hown, hts, -⟩ := id C0
  have hl : lv_has ls 6 [(0, .ref (ka_a G a)), (1, .int v1), (2, .ref (ka_a G a2)), (3, .int v3), (4, .int v4)] := hl
  unfold kw_X9_copy at hq
  refine lv_iconst (v := 0) hx hb dX9_copy_0 (by decide) ?_
  refine lv_istore (lv' := [(5, .int (0 : Int32)), (0, .ref (ka_a G a)), (1, .int v1), (2, .ref (ka_a G a2)), (3, .int v3), (4, .int v4)]) hx hb dX9_copy_1 hl (by decide) rfl (fun ls hl => ?_)
  obtain ⟨n1, hq⟩ := hq
  exact kb_X9_copy_3 hI ha ha2 C0 hK n1 σ v1 v3 v4 (0 : Int32) hq H locs hP hS ls (lv_sub hl [1, 2, 3, 4, 5, 0] rfl)
/-! GlossRowsModel.tenTo(I)J -/
def rm_X9_tenTo : Room := { frames := 0, cells := 0, slots := 0, locals := 0 }
def kw_X9_tenTo_4 (Q : Int64 → ka_S → Prop) : Nat → ka_S → Int32 → Int64 → Int32 → Prop
  | 0, _, _, _, _ => False
  | n + 1, σ, v0, v1, v3 => (v0 ≤ v3 → Q v1 σ) ∧
    (¬ v0 ≤ v3 → ∀ x2 : Int64, x2 = (v1 * (10 : Int64)) → 
      ∀ x3 : Int32, x3 = v3 + (1 : Int32) →
      (kw_X9_tenTo_4 Q n) σ v0 x2 x3)
def kw_X9_tenTo (σ : ka_S) (v0 : Int32) (Q : Int64 → ka_S → Prop) : Prop := ∃ n1 : Nat, kw_X9_tenTo_4 Q n1 σ v0 (1 : Int64) (0 : Int32)
set_option maxHeartbeats 4000000 in
set_option maxRecDepth 100000 in
theorem kb_X9_tenTo_4 {p : Program} {l : Launch} {e : Env} {s : State} {m : MethodId} {args : Array Value} {below : List Frame} {meth : Method} {c : Code} {G : ka_G} (hI : ka_I G) (C0 : ka_C p s m args meth c cX9_tenTo 4 "GlossRowsModel" (some .long)) (hK : ka_Kn G s) {Q : Int64 → ka_S → Prop} : ∀ (n : Nat) (σ : ka_S) (v0 : Int32) (v1 : Int64) (v3 : Int32), kw_X9_tenTo_4 Q n σ v0 v1 v3 → ∀ (H : Heap) (locs : List Loc), ka_P G σ H → va_S (ka_A G) s.heap H locs → ∀ ls : Array Slot, lv_has ls 4 [(0, .int v0), (1, .long v1), (3, .int v3)] → W p l e rm_X9_tenTo s m args below meth c H locs 0 0 (MQ below (va_Ql Q (ka_B G) (ka_A G)) args s 0 0 (ka_A G)) (F0 m 4 ls []) := by
  obtain ⟨hx, hb, -, hml, hown, hts, -⟩ := id C0
  intro n
  induction n with
  | zero =>
    intro σ v0 v1 v3 hq
    rw [kw_X9_tenTo_4] at hq
    exact hq.elim
  | succ n ih =>
    intro σ v0 v1 v3 hq H locs hP hS ls hl
    rw [kw_X9_tenTo_4] at hq
    refine lv_iload_n hx hb dX9_tenTo_4 rfl (lv_at hl 2 rfl) ?_
    refine lv_iload_n hx hb dX9_tenTo_5 rfl (lv_at hl 0 rfl) ?_
    refine lv_icmp_ge (tgt := 21) hx hb dX9_tenTo_6 (by decide) (fun hc => ?_) (fun hc => ?_)
    · have hq := hq.1 hc
      refine lv_lload_n hx hb dX9_tenTo_21 rfl (lv_at hl 1 rfl) ?_
      exact kr_lret C0 hK hP hS hq dX9_tenTo_22
    · have hq := hq.2 hc
      refine lv_lload_n hx hb dX9_tenTo_9 rfl (lv_at hl 1 rfl) ?_
      refine lv_ldc2 hx hb hown (hts _ kq_1259) dX9_tenTo_10 ?_
      refine lv_lmul hx hb dX9_tenTo_13 ?_
      refine lv_topl (fun x2 ex2 => ?_)
      have hq := hq x2 ex2
      refine lv_lstore_n (lv' := [(1, .long x2), (0, .int v0), (3, .int v3)]) hx hb dX9_tenTo_14 rfl hl (by decide) rfl (fun ls hl => ?_)
      obtain ⟨x3, ex3⟩ : ∃ y : Int32, y = v3 + (1 : Int32) := ⟨_, rfl⟩
      have hq := hq x3 ex3
      refine lv_iinc (v := x3) (lv' := [(3, .int x3), (1, .long x2), (0, .int v0)]) hx hb dX9_tenTo_15 hl (k := 2) rfl (by rw [ex3]; rfl) (by decide) rfl (fun ls hl => ?_)
      refine lv_goto (tgt := 4) hx hb dX9_tenTo_18 (by decide) ?_
      exact ih σ v0 x2 x3 hq H locs hP hS ls (lv_sub hl [2, 1, 0] rfl)
set_option maxHeartbeats 4000000 in
set_option maxRecDepth 100000 in
theorem km_X9_tenTo (l : Launch) {G : ka_G} (hI : ka_I G) {σ : ka_S} {v0 : Int32} {Q : Int64 → ka_S → Prop} (hq : kw_X9_tenTo σ v0 Q) : kc_l l yX9_tenTo (kw_ yX9_tenTo cX9_tenTo 4 (some .long)) rm_X9_tenTo G [.int v0] σ Q := by
  refine ka_of "GlossRowsModel" rfl (by decide) (Nat.le_of_ble_eq_true rfl) ?_
  intro p e s m below meth c C0 hK H locs hP hS ls hl
  obtain ⟨hx, hb, -, hml, hown, hts, -⟩ := id C0
  have hl : lv_has ls 4 [(0, .int v0)] := hl
  unfold kw_X9_tenTo at hq
  refine lv_lconst (v := 1) hx hb dX9_tenTo_0 (by decide) ?_
  refine lv_lstore_n (lv' := [(1, .long (1 : Int64)), (0, .int v0)]) hx hb dX9_tenTo_1 rfl hl (by decide) rfl (fun ls hl => ?_)
  refine lv_iconst (v := 0) hx hb dX9_tenTo_2 (by decide) ?_
  refine lv_istore_n (lv' := [(3, .int (0 : Int32)), (1, .long (1 : Int64)), (0, .int v0)]) hx hb dX9_tenTo_3 rfl hl (by decide) rfl (fun ls hl => ?_)
  obtain ⟨n1, hq⟩ := hq
  exact kb_X9_tenTo_4 hI C0 hK n1 σ v0 (1 : Int64) (0 : Int32) hq H locs hP hS ls (lv_sub hl [2, 1, 0] rfl)
/-! GlossRowsModel.note()V -/
def rm_X9_note : Room := { frames := 1, cells := 0, slots := 0, locals := 25 }
def kw_X9_note_37 (Q : ka_S → Prop) (σ : ka_S) : Prop := kw_X9_copy σ (37, 0, 0) (39, 0, 0) (0 : Int32) ((253 : Int32) * (σ.1 (25, 0, 0) 8)) (253 : Int32) (fun σ3 => 
  ∀ σ4 : ka_S, σ4 = ka_wI σ3 (25, 0, 0) 8 ((σ3.1 (25, 0, 0) 8) + (1 : Int32)) →
  Q σ4)
def kw_X9_note (σ : ka_S) (Q : ka_S → Prop) : Prop := ((σ.1 (25, 0, 0) 8) = (14 : Int32) → kw_X9_copy σ (39, 0, 0) (39, 0, 0) (253 : Int32) (0 : Int32) (3289 : Int32) (fun σ1 => 
    ∀ σ2 : ka_S, σ2 = ka_wI σ1 (25, 0, 0) 8 ((σ1.1 (25, 0, 0) 8) - (1 : Int32)) →
    kw_X9_note_37 Q σ2)) ∧
  (¬ (σ.1 (25, 0, 0) 8) = (14 : Int32) → kw_X9_note_37 Q σ)
set_option maxHeartbeats 4000000 in
set_option maxRecDepth 100000 in
theorem kb_X9_note_37 {p : Program} {l : Launch} {e : Env} {s : State} {m : MethodId} {args : Array Value} {below : List Frame} {meth : Method} {c : Code} {G : ka_G} (hI : ka_I G) (C0 : ka_C p s m args meth c cX9_note 1 "GlossRowsModel" none) (hK : ka_Kn G s) {Q : ka_S → Prop} : ∀ (σ : ka_S), kw_X9_note_37 Q σ → ∀ (H : Heap) (locs : List Loc), ka_P G σ H → va_S (ka_A G) s.heap H locs → ∀ ls : Array Slot, lv_has ls 1 [(0, .ref (ka_a G (25, 0, 0)))] → W p l e rm_X9_note s m args below meth c H locs 0 0 (MQ below (va_Qv Q (ka_B G) (ka_A G)) args s 0 0 (ka_A G)) (F0 m 37 ls []) := by
  obtain ⟨hx, hb, -, hml, hown, hts, -⟩ := id C0
  intro σ hq H locs hP hS ls hl
  unfold kw_X9_note_37 at hq
  refine lv_aload_n hx hb dX9_note_37 rfl (lv_at hl 0 rfl) ?_
  refine kg_X9_now C0 hK hP (kv_s (by decide) (by decide)) kq_960 dX9_note_38 ?_
  refine lv_iconst (v := 0) hx hb dX9_note_41 (by decide) ?_
  refine lv_aload_n hx hb dX9_note_42 rfl (lv_at hl 0 rfl) ?_
  refine kg_X9_diary C0 hK hP (kv_s (by decide) (by decide)) kq_962 dX9_note_43 ?_
  refine lv_sipush (v := 253) hx hb dX9_note_46 (by decide) ?_
  refine lv_aload_n hx hb dX9_note_49 rfl (lv_at hl 0 rfl) ?_
  refine kg_X9_acts C0 hK hP (kv_s (by decide) (by decide)) kq_963 dX9_note_50 ?_
  refine lv_imul hx hb dX9_note_53 ?_
  refine lv_sipush (v := 253) hx hb dX9_note_54 (by decide) ?_
  refine kr_Sv (As := [.ref (ka_a G (37, 0, 0)), .int (0 : Int32), .ref (ka_a G (39, 0, 0)), .int ((253 : Int32) * (σ.1 (25, 0, 0) 8)), .int (253 : Int32)]) (rest := []) C0 hK hP hS hl (km_X9_copy l hI kl_37 kl_39 hq) kd_X9_copy kq_1080 ⟨rfl, rfl, Nat.le_of_ble_eq_true rfl, Nat.le_of_ble_eq_true rfl⟩ rfl (Nat.le_of_ble_eq_true rfl) dX9_note_57 ⟨Nat.zero_le _, Nat.zero_le _⟩ (fun σ3 H locs hq hP hS => ?_)
  refine lv_aload_n hx hb dX9_note_60 rfl (lv_at hl 0 rfl) ?_
  refine lv_dup hx hb dX9_note_61 rfl ?_
  refine kg_X9_acts C0 hK hP (kv_s (by decide) (by decide)) kq_963 dX9_note_62 ?_
  refine lv_iconst (v := 1) hx hb dX9_note_65 (by decide) ?_
  refine lv_iadd hx hb dX9_note_66 ?_
  refine kp_X9_acts C0 hK hI hP hS (kv_s (by decide) (by decide)) kq_963 dX9_note_67 (fun H locs hP hS => ?_)
  obtain ⟨σ4, eσ4⟩ : ∃ z : ka_S, z = ka_wI σ3 (25, 0, 0) 8 ((σ3.1 (25, 0, 0) 8) + (1 : Int32)) := ⟨_, rfl⟩
  rw [← eσ4] at hP
  have hq := hq σ4 eσ4
  exact kr_vret C0 hK hP hS hq dX9_note_70
set_option maxHeartbeats 4000000 in
set_option maxRecDepth 100000 in
theorem km_X9_note (l : Launch) {G : ka_G} (hI : ka_I G) {σ : ka_S} {Q : ka_S → Prop} (hq : kw_X9_note σ Q) : kc_v l yX9_note (kw_ yX9_note cX9_note 1 none) rm_X9_note G [.ref (ka_a G (25, 0, 0))] σ Q := by
  refine ka_of "GlossRowsModel" rfl (by decide) (Nat.le_of_ble_eq_true rfl) ?_
  intro p e s m below meth c C0 hK H locs hP hS ls hl
  obtain ⟨hx, hb, -, hml, hown, hts, -⟩ := id C0
  have hl : lv_has ls 1 [(0, .ref (ka_a G (25, 0, 0)))] := hl
  unfold kw_X9_note at hq
  refine lv_aload_n hx hb dX9_note_0 rfl (lv_at hl 0 rfl) ?_
  refine kg_X9_acts C0 hK hP (kv_s (by decide) (by decide)) kq_963 dX9_note_1 ?_
  refine lv_bipush (v := 14) hx hb dX9_note_4 (by decide) ?_
  refine lv_icmp_ne (tgt := 37) hx hb dX9_note_6 (by decide) (fun hc => ?_) (fun hc => ?_)
  · have hq := hq.2 hc
    exact kb_X9_note_37 hI C0 hK σ hq H locs hP hS ls (lv_sub hl [0] rfl)
  · have hq := hq.1 hc
    refine lv_aload_n hx hb dX9_note_9 rfl (lv_at hl 0 rfl) ?_
    refine kg_X9_diary C0 hK hP (kv_s (by decide) (by decide)) kq_962 dX9_note_10 ?_
    refine lv_sipush (v := 253) hx hb dX9_note_13 (by decide) ?_
    refine lv_aload_n hx hb dX9_note_16 rfl (lv_at hl 0 rfl) ?_
    refine kg_X9_diary C0 hK hP (kv_s (by decide) (by decide)) kq_962 dX9_note_17 ?_
    refine lv_iconst (v := 0) hx hb dX9_note_20 (by decide) ?_
    refine lv_sipush (v := 3289) hx hb dX9_note_21 (by decide) ?_
    refine kr_Sv (As := [.ref (ka_a G (39, 0, 0)), .int (253 : Int32), .ref (ka_a G (39, 0, 0)), .int (0 : Int32), .int (3289 : Int32)]) (rest := []) C0 hK hP hS hl (km_X9_copy l hI kl_39 kl_39 hq) kd_X9_copy kq_1080 ⟨rfl, rfl, Nat.le_of_ble_eq_true rfl, Nat.le_of_ble_eq_true rfl⟩ rfl (Nat.le_of_ble_eq_true rfl) dX9_note_24 ⟨Nat.zero_le _, Nat.zero_le _⟩ (fun σ1 H locs hq hP hS => ?_)
    refine lv_aload_n hx hb dX9_note_27 rfl (lv_at hl 0 rfl) ?_
    refine lv_dup hx hb dX9_note_28 rfl ?_
    refine kg_X9_acts C0 hK hP (kv_s (by decide) (by decide)) kq_963 dX9_note_29 ?_
    refine lv_iconst (v := 1) hx hb dX9_note_32 (by decide) ?_
    refine lv_isub hx hb dX9_note_33 ?_
    refine kp_X9_acts C0 hK hI hP hS (kv_s (by decide) (by decide)) kq_963 dX9_note_34 (fun H locs hP hS => ?_)
    obtain ⟨σ2, eσ2⟩ : ∃ z : ka_S, z = ka_wI σ1 (25, 0, 0) 8 ((σ1.1 (25, 0, 0) 8) - (1 : Int32)) := ⟨_, rfl⟩
    rw [← eσ2] at hP
    have hq := hq σ2 eσ2
    exact kb_X9_note_37 hI C0 hK σ2 hq H locs hP hS ls (lv_sub hl [0] rfl)
/-! GlossRowsModel.lettersOf(J)I -/
def rm_X9_lettersOf : Room := { frames := 0, cells := 0, slots := 0, locals := 0 }
def kw_X9_lettersOf_2 (Q : Int32 → ka_S → Prop) : Nat → ka_S → Int64 → Int32 → Prop
  | 0, _, _, _ => False
  | n + 1, σ, v0, v2 => ((8 : Int32) ≤ v2 → Q v2 σ) ∧
    (¬ (8 : Int32) ≤ v2 → (((v0 >>> (((35 : Int32) - ((5 : Int32) * v2)).toInt64 &&& 63)) &&& (31 : Int64)) = (0 : Int64) → Q v2 σ) ∧
      (¬ ((v0 >>> (((35 : Int32) - ((5 : Int32) * v2)).toInt64 &&& 63)) &&& (31 : Int64)) = (0 : Int64) → ∀ x2 : Int32, x2 = v2 + (1 : Int32) →
        (kw_X9_lettersOf_2 Q n) σ v0 x2))
def kw_X9_lettersOf (σ : ka_S) (v0 : Int64) (Q : Int32 → ka_S → Prop) : Prop := ∃ n1 : Nat, kw_X9_lettersOf_2 Q n1 σ v0 (0 : Int32)
set_option maxHeartbeats 4000000 in
set_option maxRecDepth 100000 in
theorem kb_X9_lettersOf_2 {p : Program} {l : Launch} {e : Env} {s : State} {m : MethodId} {args : Array Value} {below : List Frame} {meth : Method} {c : Code} {G : ka_G} (hI : ka_I G) (C0 : ka_C p s m args meth c cX9_lettersOf 3 "GlossRowsModel" (some .int)) (hK : ka_Kn G s) {Q : Int32 → ka_S → Prop} : ∀ (n : Nat) (σ : ka_S) (v0 : Int64) (v2 : Int32), kw_X9_lettersOf_2 Q n σ v0 v2 → ∀ (H : Heap) (locs : List Loc), ka_P G σ H → va_S (ka_A G) s.heap H locs → ∀ ls : Array Slot, lv_has ls 3 [(0, .long v0), (2, .int v2)] → W p l e rm_X9_lettersOf s m args below meth c H locs 0 0 (MQ below (va_Qi Q (ka_B G) (ka_A G)) args s 0 0 (ka_A G)) (F0 m 2 ls []) := by
  obtain ⟨hx, hb, -, hml, hown, hts, -⟩ := id C0
  intro n
  induction n with
  | zero =>
    intro σ v0 v2 hq
    rw [kw_X9_lettersOf_2] at hq
    exact hq.elim
  | succ n ih =>
    intro σ v0 v2 hq H locs hP hS ls hl
    rw [kw_X9_lettersOf_2] at hq
    refine lv_iload_n hx hb dX9_lettersOf_2 rfl (lv_at hl 1 rfl) ?_
    refine lv_bipush (v := 8) hx hb dX9_lettersOf_3 (by decide) ?_
    refine lv_icmp_ge (tgt := 31) hx hb dX9_lettersOf_5 (by decide) (fun hc => ?_) (fun hc => ?_)
    · have hq := hq.1 hc
      refine lv_iload_n hx hb dX9_lettersOf_31 rfl (lv_at hl 1 rfl) ?_
      exact kr_iret C0 hK hP hS hq dX9_lettersOf_32
    · have hq := hq.2 hc
      refine lv_lload_n hx hb dX9_lettersOf_8 rfl (lv_at hl 0 rfl) ?_
      refine lv_bipush (v := 35) hx hb dX9_lettersOf_9 (by decide) ?_
      refine lv_iconst (v := 5) hx hb dX9_lettersOf_11 (by decide) ?_
      refine lv_iload_n hx hb dX9_lettersOf_12 rfl (lv_at hl 1 rfl) ?_
      refine lv_imul hx hb dX9_lettersOf_13 ?_
      refine lv_isub hx hb dX9_lettersOf_14 ?_
      refine lv_lshr hx hb dX9_lettersOf_15 rfl ?_
      refine lv_ldc2 hx hb hown (hts _ kq_1111) dX9_lettersOf_16 ?_
      refine lv_land hx hb dX9_lettersOf_19 ?_
      refine lv_lconst (v := 0) hx hb dX9_lettersOf_20 (by decide) ?_
      refine kr_ceq (tgt := 31) C0 dX9_lettersOf_21 dX9_lettersOf_22 (by decide) (fun hc => ?_) (fun hc => ?_)
      · have hq := hq.1 hc
        refine lv_iload_n hx hb dX9_lettersOf_31 rfl (lv_at hl 1 rfl) ?_
        exact kr_iret C0 hK hP hS hq dX9_lettersOf_32
      · have hq := hq.2 hc
        obtain ⟨x2, ex2⟩ : ∃ y : Int32, y = v2 + (1 : Int32) := ⟨_, rfl⟩
        have hq := hq x2 ex2
        refine lv_iinc (v := x2) (lv' := [(2, .int x2), (0, .long v0)]) hx hb dX9_lettersOf_25 hl (k := 1) rfl (by rw [ex2]; rfl) (by decide) rfl (fun ls hl => ?_)
        refine lv_goto (tgt := 2) hx hb dX9_lettersOf_28 (by decide) ?_
        exact ih σ v0 x2 hq H locs hP hS ls (lv_sub hl [1, 0] rfl)
set_option maxHeartbeats 4000000 in
set_option maxRecDepth 100000 in
theorem km_X9_lettersOf (l : Launch) {G : ka_G} (hI : ka_I G) {σ : ka_S} {v0 : Int64} {Q : Int32 → ka_S → Prop} (hq : kw_X9_lettersOf σ v0 Q) : kc_i l yX9_lettersOf (kw_ yX9_lettersOf cX9_lettersOf 3 (some .int)) rm_X9_lettersOf G [.long v0] σ Q := by
  refine ka_of "GlossRowsModel" rfl (by decide) (Nat.le_of_ble_eq_true rfl) ?_
  intro p e s m below meth c C0 hK H locs hP hS ls hl
  obtain ⟨hx, hb, -, hml, hown, hts, -⟩ := id C0
  have hl : lv_has ls 3 [(0, .long v0)] := hl
  unfold kw_X9_lettersOf at hq
  refine lv_iconst (v := 0) hx hb dX9_lettersOf_0 (by decide) ?_
  refine lv_istore_n (lv' := [(2, .int (0 : Int32)), (0, .long v0)]) hx hb dX9_lettersOf_1 rfl hl (by decide) rfl (fun ls hl => ?_)
  obtain ⟨n1, hq⟩ := hq
  exact kb_X9_lettersOf_2 hI C0 hK n1 σ v0 (0 : Int32) hq H locs hP hS ls (lv_sub hl [1, 0] rfl)
/-! GlossRowsModel.letterOf(JI)I -/
def rm_X9_letterOf : Room := { frames := 0, cells := 0, slots := 0, locals := 0 }
def kw_X9_letterOf (σ : ka_S) (v0 : Int64) (v2 : Int32) (Q : Int32 → ka_S → Prop) : Prop := (v2 < (8 : Int32) → ∀ x1 : Int32, x1 = (((v0 >>> (((35 : Int32) - ((5 : Int32) * v2)).toInt64 &&& 63)) &&& (31 : Int64)).toInt32) → 
    (x1 = (0 : Int32) → Q (-9 : Int32) σ) ∧
    (¬ x1 = (0 : Int32) → (x1 = (27 : Int32) → Q (46 : Int32) σ) ∧
      (¬ x1 = (27 : Int32) → Q (((97 : Int32) + x1) - (1 : Int32)) σ))) ∧
  (¬ v2 < (8 : Int32) → Q (-9 : Int32) σ)
set_option maxHeartbeats 4000000 in
set_option maxRecDepth 100000 in
theorem km_X9_letterOf (l : Launch) {G : ka_G} (hI : ka_I G) {σ : ka_S} {v0 : Int64} {v2 : Int32} {Q : Int32 → ka_S → Prop} (hq : kw_X9_letterOf σ v0 v2 Q) : kc_i l yX9_letterOf (kw_ yX9_letterOf cX9_letterOf 4 (some .int)) rm_X9_letterOf G [.long v0, .int v2] σ Q := by
  refine ka_of "GlossRowsModel" rfl (by decide) (Nat.le_of_ble_eq_true rfl) ?_
  intro p e s m below meth c C0 hK H locs hP hS ls hl
  obtain ⟨hx, hb, -, hml, hown, hts, -⟩ := id C0
  have hl : lv_has ls 4 [(0, .long v0), (2, .int v2)] := hl
  unfold kw_X9_letterOf at hq
  refine lv_iload_n hx hb dX9_letterOf_0 rfl (lv_at hl 1 rfl) ?_
  refine lv_bipush (v := 8) hx hb dX9_letterOf_1 (by decide) ?_
  refine lv_icmp_lt (tgt := 9) hx hb dX9_letterOf_3 (by decide) (fun hc => ?_) (fun hc => ?_)
  · have hq := hq.1 hc
    refine lv_lload_n hx hb dX9_letterOf_9 rfl (lv_at hl 0 rfl) ?_
    refine lv_bipush (v := 35) hx hb dX9_letterOf_10 (by decide) ?_
    refine lv_iconst (v := 5) hx hb dX9_letterOf_12 (by decide) ?_
    refine lv_iload_n hx hb dX9_letterOf_13 rfl (lv_at hl 1 rfl) ?_
    refine lv_imul hx hb dX9_letterOf_14 ?_
    refine lv_isub hx hb dX9_letterOf_15 ?_
    refine lv_lshr hx hb dX9_letterOf_16 rfl ?_
    refine lv_ldc2 hx hb hown (hts _ kq_1111) dX9_letterOf_17 ?_
    refine lv_land hx hb dX9_letterOf_20 ?_
    refine lv_l2i hx hb dX9_letterOf_21 rfl ?_
    refine lv_topi (fun x1 ex1 => ?_)
    have hq := hq x1 ex1
    refine lv_istore_n (lv' := [(3, .int x1), (0, .long v0), (2, .int v2)]) hx hb dX9_letterOf_22 rfl hl (by decide) rfl (fun ls hl => ?_)
    refine lv_iload_n hx hb dX9_letterOf_23 rfl (lv_at hl 0 rfl) ?_
    refine lv_if_ne (tgt := 32) hx hb dX9_letterOf_24 (by decide) (fun hc => ?_) (fun hc => ?_)
    · have hq := hq.2 hc
      refine lv_iload_n hx hb dX9_letterOf_32 rfl (lv_at hl 0 rfl) ?_
      refine lv_bipush (v := 27) hx hb dX9_letterOf_33 (by decide) ?_
      refine lv_icmp_ne (tgt := 43) hx hb dX9_letterOf_35 (by decide) (fun hc => ?_) (fun hc => ?_)
      · have hq := hq.2 hc
        refine lv_bipush (v := 97) hx hb dX9_letterOf_43 (by decide) ?_
        refine lv_iload_n hx hb dX9_letterOf_45 rfl (lv_at hl 0 rfl) ?_
        refine lv_iadd hx hb dX9_letterOf_46 ?_
        refine lv_iconst (v := 1) hx hb dX9_letterOf_47 (by decide) ?_
        refine lv_isub hx hb dX9_letterOf_48 ?_
        exact kr_iret C0 hK hP hS hq dX9_letterOf_49
      · have hq := hq.1 hc
        refine lv_bipush (v := 46) hx hb dX9_letterOf_38 (by decide) ?_
        refine lv_goto (tgt := 49) hx hb dX9_letterOf_40 (by decide) ?_
        exact kr_iret C0 hK hP hS hq dX9_letterOf_49
    · have hq := hq.1 hc
      refine lv_bipush (v := -9) hx hb dX9_letterOf_27 (by decide) ?_
      refine lv_goto (tgt := 49) hx hb dX9_letterOf_29 (by decide) ?_
      exact kr_iret C0 hK hP hS hq dX9_letterOf_49
  · have hq := hq.2 hc
    refine lv_bipush (v := -9) hx hb dX9_letterOf_6 (by decide) ?_
    exact kr_iret C0 hK hP hS hq dX9_letterOf_8
/-! GlossRowsModel.withLetter(JII)J -/
def rm_X9_withLetter : Room := { frames := 0, cells := 0, slots := 0, locals := 0 }
def kw_X9_withLetter_19 (Q : Int64 → ka_S → Prop) (σ : ka_S) (v0 : Int64) (v2 : Int32) (t0 : Int64) : Prop := Q (v0 ||| (t0 <<< (((35 : Int32) - ((5 : Int32) * v2)).toInt64 &&& 63))) σ
def kw_X9_withLetter (σ : ka_S) (v0 : Int64) (v2 : Int32) (v3 : Int32) (Q : Int64 → ka_S → Prop) : Prop := (v3 = (46 : Int32) → kw_X9_withLetter_19 Q σ v0 v2 (27 : Int64)) ∧
  (¬ v3 = (46 : Int32) → kw_X9_withLetter_19 Q σ v0 v2 (((v3 - (97 : Int32)).toInt64) + (1 : Int64)))
set_option maxHeartbeats 4000000 in
set_option maxRecDepth 100000 in
theorem kb_X9_withLetter_19 {p : Program} {l : Launch} {e : Env} {s : State} {m : MethodId} {args : Array Value} {below : List Frame} {meth : Method} {c : Code} {G : ka_G} (hI : ka_I G) (C0 : ka_C p s m args meth c cX9_withLetter 6 "GlossRowsModel" (some .long)) (hK : ka_Kn G s) {Q : Int64 → ka_S → Prop} : ∀ (σ : ka_S) (v0 : Int64) (v2 : Int32) (t0 : Int64), kw_X9_withLetter_19 Q σ v0 v2 t0 → ∀ (H : Heap) (locs : List Loc), ka_P G σ H → va_S (ka_A G) s.heap H locs → ∀ ls : Array Slot, lv_has ls 6 [(0, .long v0), (2, .int v2)] → W p l e rm_X9_withLetter s m args below meth c H locs 0 0 (MQ below (va_Ql Q (ka_B G) (ka_A G)) args s 0 0 (ka_A G)) (F0 m 19 ls [.long t0]) := by
  obtain ⟨hx, hb, -, hml, hown, hts, -⟩ := id C0
  intro σ v0 v2 t0 hq H locs hP hS ls hl
  unfold kw_X9_withLetter_19 at hq
  refine lv_lstore (lv' := [(4, .long t0), (0, .long v0), (2, .int v2)]) hx hb dX9_withLetter_19 hl (by decide) rfl (fun ls hl => ?_)
  refine lv_lload_n hx hb dX9_withLetter_21 rfl (lv_at hl 1 rfl) ?_
  refine lv_lload hx hb dX9_withLetter_22 (lv_at hl 0 rfl) ?_
  refine lv_bipush (v := 35) hx hb dX9_withLetter_24 (by decide) ?_
  refine lv_iconst (v := 5) hx hb dX9_withLetter_26 (by decide) ?_
  refine lv_iload_n hx hb dX9_withLetter_27 rfl (lv_at hl 2 rfl) ?_
  refine lv_imul hx hb dX9_withLetter_28 ?_
  refine lv_isub hx hb dX9_withLetter_29 ?_
  refine lv_lshl hx hb dX9_withLetter_30 rfl ?_
  refine lv_lor hx hb dX9_withLetter_31 ?_
  exact kr_lret C0 hK hP hS hq dX9_withLetter_32
set_option maxHeartbeats 4000000 in
set_option maxRecDepth 100000 in
theorem km_X9_withLetter (l : Launch) {G : ka_G} (hI : ka_I G) {σ : ka_S} {v0 : Int64} {v2 : Int32} {v3 : Int32} {Q : Int64 → ka_S → Prop} (hq : kw_X9_withLetter σ v0 v2 v3 Q) : kc_l l yX9_withLetter (kw_ yX9_withLetter cX9_withLetter 6 (some .long)) rm_X9_withLetter G [.long v0, .int v2, .int v3] σ Q := by
  refine ka_of "GlossRowsModel" rfl (by decide) (Nat.le_of_ble_eq_true rfl) ?_
  intro p e s m below meth c C0 hK H locs hP hS ls hl
  obtain ⟨hx, hb, -, hml, hown, hts, -⟩ := id C0
  have hl : lv_has ls 6 [(0, .long v0), (2, .int v2), (3, .int v3)] := hl
  unfold kw_X9_withLetter at hq
  refine lv_iload_n hx hb dX9_withLetter_0 rfl (lv_at hl 2 rfl) ?_
  refine lv_bipush (v := 46) hx hb dX9_withLetter_1 (by decide) ?_
  refine lv_icmp_ne (tgt := 12) hx hb dX9_withLetter_3 (by decide) (fun hc => ?_) (fun hc => ?_)
  · have hq := hq.2 hc
    refine lv_iload_n hx hb dX9_withLetter_12 rfl (lv_at hl 2 rfl) ?_
    refine lv_bipush (v := 97) hx hb dX9_withLetter_13 (by decide) ?_
    refine lv_isub hx hb dX9_withLetter_15 ?_
    refine lv_i2l hx hb dX9_withLetter_16 rfl ?_
    refine lv_lconst (v := 1) hx hb dX9_withLetter_17 (by decide) ?_
    refine lv_ladd hx hb dX9_withLetter_18 ?_
    exact kb_X9_withLetter_19 hI C0 hK σ v0 v2 (((v3 - (97 : Int32)).toInt64) + (1 : Int64)) hq H locs hP hS ls (lv_sub hl [0, 1] rfl)
  · have hq := hq.1 hc
    refine lv_ldc2 hx hb hown (hts _ kq_1065) dX9_withLetter_6 ?_
    refine lv_goto (tgt := 19) hx hb dX9_withLetter_9 (by decide) ?_
    exact kb_X9_withLetter_19 hI C0 hK σ v0 v2 (27 : Int64) hq H locs hP hS ls (lv_sub hl [0, 1] rfl)
/-! GlossRowsModel.cell(II)I -/
def rm_X9_cell : Room := { frames := 0, cells := 0, slots := 0, locals := 0 }
def kw_X9_cell (σ : ka_S) (v0 : Int32) (v1 : Int32) (Q : Int32 → ka_S → Prop) : Prop := Q (((5 : Int32) + ((18 : Int32) * v0)) + v1) σ
set_option maxHeartbeats 4000000 in
set_option maxRecDepth 100000 in
theorem km_X9_cell (l : Launch) {G : ka_G} (hI : ka_I G) {σ : ka_S} {v0 : Int32} {v1 : Int32} {Q : Int32 → ka_S → Prop} (hq : kw_X9_cell σ v0 v1 Q) : kc_i l yX9_cell (kw_ yX9_cell cX9_cell 2 (some .int)) rm_X9_cell G [.int v0, .int v1] σ Q := by
  refine ka_of "GlossRowsModel" rfl (by decide) (Nat.le_of_ble_eq_true rfl) ?_
  intro p e s m below meth c C0 hK H locs hP hS ls hl
  obtain ⟨hx, hb, -, hml, hown, hts, -⟩ := id C0
  have hl : lv_has ls 2 [(0, .int v0), (1, .int v1)] := hl
  unfold kw_X9_cell at hq
  refine lv_iconst (v := 5) hx hb dX9_cell_0 (by decide) ?_
  refine lv_bipush (v := 18) hx hb dX9_cell_1 (by decide) ?_
  refine lv_iload_n hx hb dX9_cell_3 rfl (lv_at hl 0 rfl) ?_
  refine lv_imul hx hb dX9_cell_4 ?_
  refine lv_iadd hx hb dX9_cell_5 ?_
  refine lv_iload_n hx hb dX9_cell_6 rfl (lv_at hl 1 rfl) ?_
  refine lv_iadd hx hb dX9_cell_7 ?_
  exact kr_iret C0 hK hP hS hq dX9_cell_8
/-! GlossRowsModel.mark(II)I -/
def rm_X9_mark : Room := { frames := 1, cells := 0, slots := 0, locals := 21 }
def kw_X9_mark (σ : ka_S) (v0 : Int32) (v1 : Int32) (Q : Int32 → ka_S → Prop) : Prop := kw_X9_cell σ v0 ((6 : Int32) + ((3 : Int32) * v1)) (fun r2 σ1 => 
  Q r2 σ1)
set_option maxHeartbeats 4000000 in
set_option maxRecDepth 100000 in
theorem km_X9_mark (l : Launch) {G : ka_G} (hI : ka_I G) {σ : ka_S} {v0 : Int32} {v1 : Int32} {Q : Int32 → ka_S → Prop} (hq : kw_X9_mark σ v0 v1 Q) : kc_i l yX9_mark (kw_ yX9_mark cX9_mark 2 (some .int)) rm_X9_mark G [.int v0, .int v1] σ Q := by
  refine ka_of "GlossRowsModel" rfl (by decide) (Nat.le_of_ble_eq_true rfl) ?_
  intro p e s m below meth c C0 hK H locs hP hS ls hl
  obtain ⟨hx, hb, -, hml, hown, hts, -⟩ := id C0
  have hl : lv_has ls 2 [(0, .int v0), (1, .int v1)] := hl
  unfold kw_X9_mark at hq
  refine lv_iload_n hx hb dX9_mark_0 rfl (lv_at hl 0 rfl) ?_
  refine lv_bipush (v := 6) hx hb dX9_mark_1 (by decide) ?_
  refine lv_iconst (v := 3) hx hb dX9_mark_3 (by decide) ?_
  refine lv_iload_n hx hb dX9_mark_4 rfl (lv_at hl 1 rfl) ?_
  refine lv_imul hx hb dX9_mark_5 ?_
  refine lv_iadd hx hb dX9_mark_6 ?_
  refine kr_Si (As := [.int v0, .int ((6 : Int32) + ((3 : Int32) * v1))]) (rest := []) C0 hK hP hS hl (km_X9_cell l hI hq) kd_X9_cell kq_1102 ⟨rfl, rfl, Nat.le_of_ble_eq_true rfl, Nat.le_of_ble_eq_true rfl⟩ rfl (Nat.le_of_ble_eq_true rfl) dX9_mark_7 ⟨Nat.zero_le _, Nat.zero_le _⟩ (fun r2 σ1 H locs hq hP hS => ?_)
  exact kr_iret C0 hK hP hS hq dX9_mark_10
/-! GlossRowsModel.partAt(II)I -/
def rm_X9_partAt : Room := { frames := 1, cells := 0, slots := 0, locals := 21 }
def kw_X9_partAt (σ : ka_S) (v0 : Int32) (v1 : Int32) (Q : Int32 → ka_S → Prop) : Prop := kw_X9_cell σ v0 (((6 : Int32) + ((3 : Int32) * v1)) + (1 : Int32)) (fun r2 σ1 => 
  Q r2 σ1)
set_option maxHeartbeats 4000000 in
set_option maxRecDepth 100000 in
theorem km_X9_partAt (l : Launch) {G : ka_G} (hI : ka_I G) {σ : ka_S} {v0 : Int32} {v1 : Int32} {Q : Int32 → ka_S → Prop} (hq : kw_X9_partAt σ v0 v1 Q) : kc_i l yX9_partAt (kw_ yX9_partAt cX9_partAt 2 (some .int)) rm_X9_partAt G [.int v0, .int v1] σ Q := by
  refine ka_of "GlossRowsModel" rfl (by decide) (Nat.le_of_ble_eq_true rfl) ?_
  intro p e s m below meth c C0 hK H locs hP hS ls hl
  obtain ⟨hx, hb, -, hml, hown, hts, -⟩ := id C0
  have hl : lv_has ls 2 [(0, .int v0), (1, .int v1)] := hl
  unfold kw_X9_partAt at hq
  refine lv_iload_n hx hb dX9_partAt_0 rfl (lv_at hl 0 rfl) ?_
  refine lv_bipush (v := 6) hx hb dX9_partAt_1 (by decide) ?_
  refine lv_iconst (v := 3) hx hb dX9_partAt_3 (by decide) ?_
  refine lv_iload_n hx hb dX9_partAt_4 rfl (lv_at hl 1 rfl) ?_
  refine lv_imul hx hb dX9_partAt_5 ?_
  refine lv_iadd hx hb dX9_partAt_6 ?_
  refine lv_iconst (v := 1) hx hb dX9_partAt_7 (by decide) ?_
  refine lv_iadd hx hb dX9_partAt_8 ?_
  refine kr_Si (As := [.int v0, .int (((6 : Int32) + ((3 : Int32) * v1)) + (1 : Int32))]) (rest := []) C0 hK hP hS hl (km_X9_cell l hI hq) kd_X9_cell kq_1102 ⟨rfl, rfl, Nat.le_of_ble_eq_true rfl, Nat.le_of_ble_eq_true rfl⟩ rfl (Nat.le_of_ble_eq_true rfl) dX9_partAt_9 ⟨Nat.zero_le _, Nat.zero_le _⟩ (fun r2 σ1 H locs hq hP hS => ?_)
  exact kr_iret C0 hK hP hS hq dX9_partAt_12
/-! GlossRowsModel.glossAt(II)I -/
def rm_X9_glossAt : Room := { frames := 1, cells := 0, slots := 0, locals := 21 }
def kw_X9_glossAt (σ : ka_S) (v0 : Int32) (v1 : Int32) (Q : Int32 → ka_S → Prop) : Prop := kw_X9_cell σ v0 (((6 : Int32) + ((3 : Int32) * v1)) + (2 : Int32)) (fun r2 σ1 => 
  Q r2 σ1)
set_option maxHeartbeats 4000000 in
set_option maxRecDepth 100000 in
theorem km_X9_glossAt (l : Launch) {G : ka_G} (hI : ka_I G) {σ : ka_S} {v0 : Int32} {v1 : Int32} {Q : Int32 → ka_S → Prop} (hq : kw_X9_glossAt σ v0 v1 Q) : kc_i l yX9_glossAt (kw_ yX9_glossAt cX9_glossAt 2 (some .int)) rm_X9_glossAt G [.int v0, .int v1] σ Q := by
  refine ka_of "GlossRowsModel" rfl (by decide) (Nat.le_of_ble_eq_true rfl) ?_
  intro p e s m below meth c C0 hK H locs hP hS ls hl
  obtain ⟨hx, hb, -, hml, hown, hts, -⟩ := id C0
  have hl : lv_has ls 2 [(0, .int v0), (1, .int v1)] := hl
  unfold kw_X9_glossAt at hq
  refine lv_iload_n hx hb dX9_glossAt_0 rfl (lv_at hl 0 rfl) ?_
  refine lv_bipush (v := 6) hx hb dX9_glossAt_1 (by decide) ?_
  refine lv_iconst (v := 3) hx hb dX9_glossAt_3 (by decide) ?_
  refine lv_iload_n hx hb dX9_glossAt_4 rfl (lv_at hl 1 rfl) ?_
  refine lv_imul hx hb dX9_glossAt_5 ?_
  refine lv_iadd hx hb dX9_glossAt_6 ?_
  refine lv_iconst (v := 2) hx hb dX9_glossAt_7 (by decide) ?_
  refine lv_iadd hx hb dX9_glossAt_8 ?_
  refine kr_Si (As := [.int v0, .int (((6 : Int32) + ((3 : Int32) * v1)) + (2 : Int32))]) (rest := []) C0 hK hP hS hl (km_X9_cell l hI hq) kd_X9_cell kq_1102 ⟨rfl, rfl, Nat.le_of_ble_eq_true rfl, Nat.le_of_ble_eq_true rfl⟩ rfl (Nat.le_of_ble_eq_true rfl) dX9_glossAt_9 ⟨Nat.zero_le _, Nat.zero_le _⟩ (fun r2 σ1 H locs hq hP hS => ?_)
  exact kr_iret C0 hK hP hS hq dX9_glossAt_12
/-! GlossRowsModel.parts([JI)I -/
def rm_X9_parts : Room := { frames := 1, cells := 0, slots := 0, locals := 21 }
def kw_X9_parts (σ : ka_S) (a : ka_K) (v1 : Int32) (Q : Int32 → ka_S → Prop) : Prop := kw_X9_cell σ v1 (0 : Int32) (fun r2 σ1 => 
  vp_in r2 (ka_n a) ∧
  Q ((σ1.2 a r2.toNatClampNeg).toInt32) σ1)
set_option maxHeartbeats 4000000 in
set_option maxRecDepth 100000 in
theorem km_X9_parts (l : Launch) {G : ka_G} (hI : ka_I G) {a : ka_K} (ha : ka_L a) {σ : ka_S} {v1 : Int32} {Q : Int32 → ka_S → Prop} (hq : kw_X9_parts σ a v1 Q) : kc_i l yX9_parts (kw_ yX9_parts cX9_parts 2 (some .int)) rm_X9_parts G [.ref (ka_a G a), .int v1] σ Q := by
  refine ka_of "GlossRowsModel" rfl (by decide) (Nat.le_of_ble_eq_true rfl) ?_
  intro p e s m below meth c C0 hK H locs hP hS ls hl
  obtain ⟨hx, hb, -, hml, hown, hts, -⟩ := id C0
  have hl : lv_has ls 2 [(0, .ref (ka_a G a)), (1, .int v1)] := hl
  unfold kw_X9_parts at hq
  refine lv_aload_n hx hb dX9_parts_0 rfl (lv_at hl 0 rfl) ?_
  refine lv_iload_n hx hb dX9_parts_1 rfl (lv_at hl 1 rfl) ?_
  refine lv_iconst (v := 0) hx hb dX9_parts_2 (by decide) ?_
  refine kr_Si (As := [.int v1, .int (0 : Int32)]) (rest := [.ref (ka_a G a)]) C0 hK hP hS hl (km_X9_cell l hI hq) kd_X9_cell kq_1102 ⟨rfl, rfl, Nat.le_of_ble_eq_true rfl, Nat.le_of_ble_eq_true rfl⟩ rfl (Nat.le_of_ble_eq_true rfl) dX9_parts_3 ⟨Nat.zero_le _, Nat.zero_le _⟩ (fun r2 σ1 H locs hq hP hS => ?_)
  obtain ⟨b3, hq⟩ := hq
  refine kr_lald C0 hK hP ha.1 (ha.2 G _) b3 dX9_parts_6 ?_
  refine lv_l2i hx hb dX9_parts_7 rfl ?_
  exact kr_iret C0 hK hP hS hq dX9_parts_8
/-! GlossRowsModel.many([J)I -/
def rm_X9_many : Room := { frames := 0, cells := 0, slots := 0, locals := 0 }
def kw_X9_many (σ : ka_S) (a : ka_K) (Q : Int32 → ka_S → Prop) : Prop := vp_in (0 : Int32) (ka_n a) ∧
  Q ((σ.2 a (0 : Int32).toNatClampNeg).toInt32) σ
set_option maxHeartbeats 4000000 in
set_option maxRecDepth 100000 in
theorem km_X9_many (l : Launch) {G : ka_G} (hI : ka_I G) {a : ka_K} (ha : ka_L a) {σ : ka_S} {Q : Int32 → ka_S → Prop} (hq : kw_X9_many σ a Q) : kc_i l yX9_many (kw_ yX9_many cX9_many 1 (some .int)) rm_X9_many G [.ref (ka_a G a)] σ Q := by
  refine ka_of "GlossRowsModel" rfl (by decide) (Nat.le_of_ble_eq_true rfl) ?_
  intro p e s m below meth c C0 hK H locs hP hS ls hl
  obtain ⟨hx, hb, -, hml, hown, hts, -⟩ := id C0
  have hl : lv_has ls 1 [(0, .ref (ka_a G a))] := hl
  unfold kw_X9_many at hq
  refine lv_aload_n hx hb dX9_many_0 rfl (lv_at hl 0 rfl) ?_
  refine lv_iconst (v := 0) hx hb dX9_many_1 (by decide) ?_
  obtain ⟨b1, hq⟩ := hq
  refine kr_lald C0 hK hP ha.1 (ha.2 G _) b1 dX9_many_2 ?_
  refine lv_l2i hx hb dX9_many_3 rfl ?_
  exact kr_iret C0 hK hP hS hq dX9_many_4
/-! GlossRowsModel.isWordOf([JI)Z -/
def rm_X9_isWordOf : Room := { frames := 1, cells := 0, slots := 0, locals := 25 }
def kw_X9_isWordOf (σ : ka_S) (a : ka_K) (v1 : Int32) (Q : Int32 → ka_S → Prop) : Prop := kw_X9_many σ a (fun r2 σ1 => 
  kw_X9_in σ1 v1.toInt64 (0 : Int64) ((r2 - (1 : Int32)).toInt64) (fun r4 σ3 => 
  (r4 = 0 ∨ r4 = 1) ∧
  Q r4 σ3))
set_option maxHeartbeats 4000000 in
set_option maxRecDepth 100000 in
theorem km_X9_isWordOf (l : Launch) {G : ka_G} (hI : ka_I G) {a : ka_K} (ha : ka_L a) {σ : ka_S} {v1 : Int32} {Q : Int32 → ka_S → Prop} (hq : kw_X9_isWordOf σ a v1 Q) : kc_i l yX9_isWordOf (kw_ yX9_isWordOf cX9_isWordOf 2 (some .boolean)) rm_X9_isWordOf G [.ref (ka_a G a), .int v1] σ Q := by
  refine ka_of "GlossRowsModel" rfl (by decide) (Nat.le_of_ble_eq_true rfl) ?_
  intro p e s m below meth c C0 hK H locs hP hS ls hl
  obtain ⟨hx, hb, -, hml, hown, hts, -⟩ := id C0
  have hl : lv_has ls 2 [(0, .ref (ka_a G a)), (1, .int v1)] := hl
  unfold kw_X9_isWordOf at hq
  refine lv_iload_n hx hb dX9_isWordOf_0 rfl (lv_at hl 1 rfl) ?_
  refine lv_i2l hx hb dX9_isWordOf_1 rfl ?_
  refine lv_lconst (v := 0) hx hb dX9_isWordOf_2 (by decide) ?_
  refine lv_aload_n hx hb dX9_isWordOf_3 rfl (lv_at hl 0 rfl) ?_
  refine kr_Si (As := [.ref (ka_a G a)]) (rest := [.long (0 : Int64), .long v1.toInt64]) C0 hK hP hS hl (km_X9_many l hI ha hq) kd_X9_many kq_1077 ⟨rfl, rfl, Nat.le_of_ble_eq_true rfl, Nat.le_of_ble_eq_true rfl⟩ rfl (Nat.le_of_ble_eq_true rfl) dX9_isWordOf_4 ⟨Nat.zero_le _, Nat.zero_le _⟩ (fun r2 σ1 H locs hq hP hS => ?_)
  refine lv_iconst (v := 1) hx hb dX9_isWordOf_7 (by decide) ?_
  refine lv_isub hx hb dX9_isWordOf_8 ?_
  refine lv_i2l hx hb dX9_isWordOf_9 rfl ?_
  refine kr_Si (As := [.long v1.toInt64, .long (0 : Int64), .long ((r2 - (1 : Int32)).toInt64)]) (rest := []) C0 hK hP hS hl (km_X9_in l hI hq) kd_X9_in kq_1031 ⟨rfl, rfl, Nat.le_of_ble_eq_true rfl, Nat.le_of_ble_eq_true rfl⟩ rfl (Nat.le_of_ble_eq_true rfl) dX9_isWordOf_10 ⟨Nat.zero_le _, Nat.zero_le _⟩ (fun r4 σ3 H locs hq hP hS => ?_)
  obtain ⟨hz, hq⟩ := hq
  exact kr_zret C0 hK hP hS (kz_n hz) hq dX9_isWordOf_13
/-! GlossRowsModel.isWord(I)Z -/
def rm_X9_isWord : Room := { frames := 2, cells := 0, slots := 0, locals := 46 }
def kw_X9_isWord (σ : ka_S) (v1 : Int32) (Q : Int32 → ka_S → Prop) : Prop := kw_X9_isWordOf σ (37, 0, 0) v1 (fun r2 σ1 => 
  (r2 = 0 ∨ r2 = 1) ∧
  Q r2 σ1)
set_option maxHeartbeats 4000000 in
set_option maxRecDepth 100000 in
theorem km_X9_isWord (l : Launch) {G : ka_G} (hI : ka_I G) {σ : ka_S} {v1 : Int32} {Q : Int32 → ka_S → Prop} (hq : kw_X9_isWord σ v1 Q) : kc_i l yX9_isWord (kw_ yX9_isWord cX9_isWord 2 (some .boolean)) rm_X9_isWord G [.ref (ka_a G (25, 0, 0)), .int v1] σ Q := by
  refine ka_of "GlossRowsModel" rfl (by decide) (Nat.le_of_ble_eq_true rfl) ?_
  intro p e s m below meth c C0 hK H locs hP hS ls hl
  obtain ⟨hx, hb, -, hml, hown, hts, -⟩ := id C0
  have hl : lv_has ls 2 [(0, .ref (ka_a G (25, 0, 0))), (1, .int v1)] := hl
  unfold kw_X9_isWord at hq
  refine lv_aload_n hx hb dX9_isWord_0 rfl (lv_at hl 0 rfl) ?_
  refine kg_X9_now C0 hK hP (kv_s (by decide) (by decide)) kq_960 dX9_isWord_1 ?_
  refine lv_iload_n hx hb dX9_isWord_4 rfl (lv_at hl 1 rfl) ?_
  refine kr_Si (As := [.ref (ka_a G (37, 0, 0)), .int v1]) (rest := []) C0 hK hP hS hl (km_X9_isWordOf l hI kl_37 hq) kd_X9_isWordOf kq_1142 ⟨rfl, rfl, Nat.le_of_ble_eq_true rfl, Nat.le_of_ble_eq_true rfl⟩ rfl (Nat.le_of_ble_eq_true rfl) dX9_isWord_5 ⟨Nat.zero_le _, Nat.zero_le _⟩ (fun r2 σ1 H locs hq hP hS => ?_)
  obtain ⟨hz, hq⟩ := hq
  exact kr_zret C0 hK hP hS (kz_n hz) hq dX9_isWord_8
/-! GlossRowsModel.isPartOf([JII)Z -/
def rm_X9_isPartOf : Room := { frames := 2, cells := 0, slots := 0, locals := 46 }
def kw_X9_isPartOf (σ : ka_S) (a : ka_K) (v1 : Int32) (v2 : Int32) (Q : Int32 → ka_S → Prop) : Prop := kw_X9_isWordOf σ a v1 (fun r2 σ1 => 
  (r2 = (0 : Int32) → Q (0 : Int32) σ1) ∧
  (¬ r2 = (0 : Int32) → kw_X9_parts σ1 a v1 (fun r4 σ3 => 
    kw_X9_in σ3 v2.toInt64 (0 : Int64) ((r4 - (1 : Int32)).toInt64) (fun r6 σ5 => 
    (r6 = (0 : Int32) → Q (0 : Int32) σ5) ∧
    (¬ r6 = (0 : Int32) → Q (1 : Int32) σ5)))))
set_option maxHeartbeats 4000000 in
set_option maxRecDepth 100000 in
theorem km_X9_isPartOf (l : Launch) {G : ka_G} (hI : ka_I G) {a : ka_K} (ha : ka_L a) {σ : ka_S} {v1 : Int32} {v2 : Int32} {Q : Int32 → ka_S → Prop} (hq : kw_X9_isPartOf σ a v1 v2 Q) : kc_i l yX9_isPartOf (kw_ yX9_isPartOf cX9_isPartOf 3 (some .boolean)) rm_X9_isPartOf G [.ref (ka_a G a), .int v1, .int v2] σ Q := by
  refine ka_of "GlossRowsModel" rfl (by decide) (Nat.le_of_ble_eq_true rfl) ?_
  intro p e s m below meth c C0 hK H locs hP hS ls hl
  obtain ⟨hx, hb, -, hml, hown, hts, -⟩ := id C0
  have hl : lv_has ls 3 [(0, .ref (ka_a G a)), (1, .int v1), (2, .int v2)] := hl
  unfold kw_X9_isPartOf at hq
  refine lv_aload_n hx hb dX9_isPartOf_0 rfl (lv_at hl 0 rfl) ?_
  refine lv_iload_n hx hb dX9_isPartOf_1 rfl (lv_at hl 1 rfl) ?_
  refine kr_Si (As := [.ref (ka_a G a), .int v1]) (rest := []) C0 hK hP hS hl (km_X9_isWordOf l hI ha hq) kd_X9_isWordOf kq_1142 ⟨rfl, rfl, Nat.le_of_ble_eq_true rfl, Nat.le_of_ble_eq_true rfl⟩ rfl (Nat.le_of_ble_eq_true rfl) dX9_isPartOf_2 ⟨Nat.zero_le _, Nat.zero_le _⟩ (fun r2 σ1 H locs hq hP hS => ?_)
  refine lv_if_eq (tgt := 29) hx hb dX9_isPartOf_5 (by decide) (fun hc => ?_) (fun hc => ?_)
  · have hq := hq.1 hc
    refine lv_iconst (v := 0) hx hb dX9_isPartOf_29 (by decide) ?_
    exact kr_zret C0 hK hP hS rfl hq dX9_isPartOf_30
  · have hq := hq.2 hc
    refine lv_iload_n hx hb dX9_isPartOf_8 rfl (lv_at hl 2 rfl) ?_
    refine lv_i2l hx hb dX9_isPartOf_9 rfl ?_
    refine lv_lconst (v := 0) hx hb dX9_isPartOf_10 (by decide) ?_
    refine lv_aload_n hx hb dX9_isPartOf_11 rfl (lv_at hl 0 rfl) ?_
    refine lv_iload_n hx hb dX9_isPartOf_12 rfl (lv_at hl 1 rfl) ?_
    refine kr_Si (As := [.ref (ka_a G a), .int v1]) (rest := [.long (0 : Int64), .long v2.toInt64]) C0 hK hP hS hl (km_X9_parts l hI ha hq) kd_X9_parts kq_1099 ⟨rfl, rfl, Nat.le_of_ble_eq_true rfl, Nat.le_of_ble_eq_true rfl⟩ rfl (Nat.le_of_ble_eq_true rfl) dX9_isPartOf_13 ⟨Nat.zero_le _, Nat.zero_le _⟩ (fun r4 σ3 H locs hq hP hS => ?_)
    refine lv_iconst (v := 1) hx hb dX9_isPartOf_16 (by decide) ?_
    refine lv_isub hx hb dX9_isPartOf_17 ?_
    refine lv_i2l hx hb dX9_isPartOf_18 rfl ?_
    refine kr_Si (As := [.long v2.toInt64, .long (0 : Int64), .long ((r4 - (1 : Int32)).toInt64)]) (rest := []) C0 hK hP hS hl (km_X9_in l hI hq) kd_X9_in kq_1031 ⟨rfl, rfl, Nat.le_of_ble_eq_true rfl, Nat.le_of_ble_eq_true rfl⟩ rfl (Nat.le_of_ble_eq_true rfl) dX9_isPartOf_19 ⟨Nat.zero_le _, Nat.zero_le _⟩ (fun r6 σ5 H locs hq hP hS => ?_)
    refine lv_if_eq (tgt := 29) hx hb dX9_isPartOf_22 (by decide) (fun hc => ?_) (fun hc => ?_)
    · have hq := hq.1 hc
      refine lv_iconst (v := 0) hx hb dX9_isPartOf_29 (by decide) ?_
      exact kr_zret C0 hK hP hS rfl hq dX9_isPartOf_30
    · have hq := hq.2 hc
      refine lv_iconst (v := 1) hx hb dX9_isPartOf_25 (by decide) ?_
      refine lv_goto (tgt := 30) hx hb dX9_isPartOf_26 (by decide) ?_
      exact kr_zret C0 hK hP hS rfl hq dX9_isPartOf_30
/-! GlossRowsModel.shownLength([JII)I -/
def rm_X9_shownLength : Room := { frames := 2, cells := 0, slots := 0, locals := 42 }
def kw_X9_shownLength (σ : ka_S) (a : ka_K) (v1 : Int32) (v2 : Int32) (Q : Int32 → ka_S → Prop) : Prop := kw_X9_glossAt σ v1 v2 (fun r2 σ1 => 
  vp_in r2 (ka_n a) ∧
  ∀ x4 : Int64, x4 = (σ1.2 a r2.toNatClampNeg) → 
  (x4 = (0 : Int64) → Q (1 : Int32) σ1) ∧
  (¬ x4 = (0 : Int64) → kw_X9_lettersOf σ1 x4 (fun r6 σ5 => 
    Q r6 σ5)))
set_option maxHeartbeats 4000000 in
set_option maxRecDepth 100000 in
theorem km_X9_shownLength (l : Launch) {G : ka_G} (hI : ka_I G) {a : ka_K} (ha : ka_L a) {σ : ka_S} {v1 : Int32} {v2 : Int32} {Q : Int32 → ka_S → Prop} (hq : kw_X9_shownLength σ a v1 v2 Q) : kc_i l yX9_shownLength (kw_ yX9_shownLength cX9_shownLength 5 (some .int)) rm_X9_shownLength G [.ref (ka_a G a), .int v1, .int v2] σ Q := by
  refine ka_of "GlossRowsModel" rfl (by decide) (Nat.le_of_ble_eq_true rfl) ?_
  intro p e s m below meth c C0 hK H locs hP hS ls hl
  obtain ⟨hx, hb, -, hml, hown, hts, -⟩ := id C0
  have hl : lv_has ls 5 [(0, .ref (ka_a G a)), (1, .int v1), (2, .int v2)] := hl
  unfold kw_X9_shownLength at hq
  refine lv_aload_n hx hb dX9_shownLength_0 rfl (lv_at hl 0 rfl) ?_
  refine lv_iload_n hx hb dX9_shownLength_1 rfl (lv_at hl 1 rfl) ?_
  refine lv_iload_n hx hb dX9_shownLength_2 rfl (lv_at hl 2 rfl) ?_
  refine kr_Si (As := [.int v1, .int v2]) (rest := [.ref (ka_a G a)]) C0 hK hP hS hl (km_X9_glossAt l hI hq) kd_X9_glossAt kq_1115 ⟨rfl, rfl, Nat.le_of_ble_eq_true rfl, Nat.le_of_ble_eq_true rfl⟩ rfl (Nat.le_of_ble_eq_true rfl) dX9_shownLength_3 ⟨Nat.zero_le _, Nat.zero_le _⟩ (fun r2 σ1 H locs hq hP hS => ?_)
  obtain ⟨b3, hq⟩ := hq
  refine kr_lald C0 hK hP ha.1 (ha.2 G _) b3 dX9_shownLength_6 ?_
  refine lv_topl (fun x4 ex4 => ?_)
  have hq := hq x4 ex4
  refine lv_lstore_n (lv' := [(3, .long x4), (0, .ref (ka_a G a)), (1, .int v1), (2, .int v2)]) hx hb dX9_shownLength_7 rfl hl (by decide) rfl (fun ls hl => ?_)
  refine lv_lload_n hx hb dX9_shownLength_8 rfl (lv_at hl 0 rfl) ?_
  refine lv_lconst (v := 0) hx hb dX9_shownLength_9 (by decide) ?_
  refine kr_cne (tgt := 18) C0 dX9_shownLength_10 dX9_shownLength_11 (by decide) (fun hc => ?_) (fun hc => ?_)
  · have hq := hq.2 hc
    refine lv_lload_n hx hb dX9_shownLength_18 rfl (lv_at hl 0 rfl) ?_
    refine kr_Si (As := [.long x4]) (rest := []) C0 hK hP hS hl (km_X9_lettersOf l hI hq) kd_X9_lettersOf kq_1108 ⟨rfl, rfl, Nat.le_of_ble_eq_true rfl, Nat.le_of_ble_eq_true rfl⟩ rfl (Nat.le_of_ble_eq_true rfl) dX9_shownLength_19 ⟨Nat.zero_le _, Nat.zero_le _⟩ (fun r6 σ5 H locs hq hP hS => ?_)
    exact kr_iret C0 hK hP hS hq dX9_shownLength_22
  · have hq := hq.1 hc
    refine lv_iconst (v := 1) hx hb dX9_shownLength_14 (by decide) ?_
    refine lv_goto (tgt := 22) hx hb dX9_shownLength_15 (by decide) ?_
    exact kr_iret C0 hK hP hS hq dX9_shownLength_22
/-! GlossRowsModel.wide([JII)I -/
def rm_X9_wide : Room := { frames := 3, cells := 0, slots := 0, locals := 66 }
def kw_X9_wide_18 (a : ka_K) (Q : Int32 → ka_S → Prop) : Nat → ka_S → Int32 → Int32 → Int32 → Int32 → Int32 → Int32 → Int32 → Prop
  | 0, _, _, _, _, _, _, _, _ => False
  | n + 1, σ, v1, v2, v3, v4, v5, v6, v7 => (v6 ≤ v7 → (v2 = (1 : Int32) → Q ((v6 - (1 : Int32)) + v5) σ) ∧
      (¬ v2 = (1 : Int32) → (v3 ≤ v4 → Q ((v6 - (1 : Int32)) + v4) σ) ∧
        (¬ v3 ≤ v4 → Q ((v6 - (1 : Int32)) + v3) σ))) ∧
    (¬ v6 ≤ v7 → kw_X9_partAt σ v1 v7 (fun r5 σ4 => 
      vp_in r5 (ka_n a) ∧
      kw_X9_lettersOf σ4 (σ4.2 a r5.toNatClampNeg) (fun r8 σ7 => 
      kw_X9_shownLength σ7 a v1 v7 (fun r10 σ9 => 
      ∀ x11 : Int32, x11 = (v3 + r8) → 
      ∀ x12 : Int32, x12 = (v4 + r10) → 
      (r8 ≤ r10 → ∀ x13 : Int32, x13 = (v5 + r10) → 
        ∀ x14 : Int32, x14 = v7 + (1 : Int32) →
        (kw_X9_wide_18 a Q n) σ9 v1 v2 x11 x12 x13 v6 x14) ∧
      (¬ r8 ≤ r10 → ∀ x15 : Int32, x15 = (v5 + r8) → 
        ∀ x16 : Int32, x16 = v7 + (1 : Int32) →
        (kw_X9_wide_18 a Q n) σ9 v1 v2 x11 x12 x15 v6 x16)))))
def kw_X9_wide (σ : ka_S) (a : ka_K) (v1 : Int32) (v2 : Int32) (Q : Int32 → ka_S → Prop) : Prop := kw_X9_parts σ a v1 (fun r2 σ1 => 
  ∃ n3 : Nat, kw_X9_wide_18 a Q n3 σ1 v1 v2 (0 : Int32) (0 : Int32) (0 : Int32) r2 (0 : Int32))
set_option maxHeartbeats 4000000 in
set_option maxRecDepth 100000 in
theorem kb_X9_wide_18 {p : Program} {l : Launch} {e : Env} {s : State} {m : MethodId} {args : Array Value} {below : List Frame} {meth : Method} {c : Code} {G : ka_G} (hI : ka_I G) {a : ka_K} (ha : ka_L a) (C0 : ka_C p s m args meth c cX9_wide 10 "GlossRowsModel" (some .int)) (hK : ka_Kn G s) {Q : Int32 → ka_S → Prop} : ∀ (n : Nat) (σ : ka_S) (v1 : Int32) (v2 : Int32) (v3 : Int32) (v4 : Int32) (v5 : Int32) (v6 : Int32) (v7 : Int32), kw_X9_wide_18 a Q n σ v1 v2 v3 v4 v5 v6 v7 → ∀ (H : Heap) (locs : List Loc), ka_P G σ H → va_S (ka_A G) s.heap H locs → ∀ ls : Array Slot, lv_has ls 10 [(0, .ref (ka_a G a)), (1, .int v1), (2, .int v2), (3, .int v3), (4, .int v4), (5, .int v5), (6, .int v6), (7, .int v7)] → W p l e rm_X9_wide s m args below meth c H locs 0 0 (MQ below (va_Qi Q (ka_B G) (ka_A G)) args s 0 0 (ka_A G)) (F0 m 18 ls []) := by
  obtain ⟨hx, hb, -, hml, hown, hts, -⟩ := id C0
  intro n
  induction n with
  | zero =>
    intro σ v1 v2 v3 v4 v5 v6 v7 hq
    rw [kw_X9_wide_18] at hq
    exact hq.elim
  | succ n ih =>
    intro σ v1 v2 v3 v4 v5 v6 v7 hq H locs hP hS ls hl
    rw [kw_X9_wide_18] at hq
    refine lv_iload hx hb dX9_wide_18 (lv_at hl 7 rfl) ?_
    refine lv_iload hx hb dX9_wide_20 (lv_at hl 6 rfl) ?_
    refine lv_icmp_ge (tgt := 84) hx hb dX9_wide_22 (by decide) (fun hc => ?_) (fun hc => ?_)
    · have hq := hq.1 hc
      refine lv_iload hx hb dX9_wide_84 (lv_at hl 6 rfl) ?_
      refine lv_iconst (v := 1) hx hb dX9_wide_86 (by decide) ?_
      refine lv_isub hx hb dX9_wide_87 ?_
      refine lv_iload_n hx hb dX9_wide_88 rfl (lv_at hl 2 rfl) ?_
      refine lv_iconst (v := 1) hx hb dX9_wide_89 (by decide) ?_
      refine lv_icmp_ne (tgt := 98) hx hb dX9_wide_90 (by decide) (fun hc => ?_) (fun hc => ?_)
      · have hq := hq.2 hc
        refine lv_iload_n hx hb dX9_wide_98 rfl (lv_at hl 3 rfl) ?_
        refine lv_iload hx hb dX9_wide_99 (lv_at hl 4 rfl) ?_
        refine lv_icmp_le (tgt := 108) hx hb dX9_wide_101 (by decide) (fun hc => ?_) (fun hc => ?_)
        · have hq := hq.1 hc
          refine lv_iload hx hb dX9_wide_108 (lv_at hl 4 rfl) ?_
          refine lv_iadd hx hb dX9_wide_110 ?_
          exact kr_iret C0 hK hP hS hq dX9_wide_111
        · have hq := hq.2 hc
          refine lv_iload_n hx hb dX9_wide_104 rfl (lv_at hl 3 rfl) ?_
          refine lv_goto (tgt := 110) hx hb dX9_wide_105 (by decide) ?_
          refine lv_iadd hx hb dX9_wide_110 ?_
          exact kr_iret C0 hK hP hS hq dX9_wide_111
      · have hq := hq.1 hc
        refine lv_iload hx hb dX9_wide_93 (lv_at hl 5 rfl) ?_
        refine lv_goto (tgt := 110) hx hb dX9_wide_95 (by decide) ?_
        refine lv_iadd hx hb dX9_wide_110 ?_
        exact kr_iret C0 hK hP hS hq dX9_wide_111
    · have hq := hq.2 hc
      refine lv_aload_n hx hb dX9_wide_25 rfl (lv_at hl 0 rfl) ?_
      refine lv_iload_n hx hb dX9_wide_26 rfl (lv_at hl 1 rfl) ?_
      refine lv_iload hx hb dX9_wide_27 (lv_at hl 7 rfl) ?_
      refine kr_Si (As := [.int v1, .int v7]) (rest := [.ref (ka_a G a)]) C0 hK hP hS hl (km_X9_partAt l hI hq) kd_X9_partAt kq_1105 ⟨rfl, rfl, Nat.le_of_ble_eq_true rfl, Nat.le_of_ble_eq_true rfl⟩ rfl (Nat.le_of_ble_eq_true rfl) dX9_wide_29 ⟨Nat.zero_le _, Nat.zero_le _⟩ (fun r5 σ4 H locs hq hP hS => ?_)
      obtain ⟨b6, hq⟩ := hq
      refine kr_lald C0 hK hP ha.1 (ha.2 G _) b6 dX9_wide_32 ?_
      refine kr_Si (As := [.long (σ4.2 a r5.toNatClampNeg)]) (rest := []) C0 hK hP hS hl (km_X9_lettersOf l hI hq) kd_X9_lettersOf kq_1108 ⟨rfl, rfl, Nat.le_of_ble_eq_true rfl, Nat.le_of_ble_eq_true rfl⟩ rfl (Nat.le_of_ble_eq_true rfl) dX9_wide_33 ⟨Nat.zero_le _, Nat.zero_le _⟩ (fun r8 σ7 H locs hq hP hS => ?_)
      refine lv_istore (lv' := [(8, .int r8), (0, .ref (ka_a G a)), (1, .int v1), (2, .int v2), (3, .int v3), (4, .int v4), (5, .int v5), (6, .int v6), (7, .int v7)]) hx hb dX9_wide_36 hl (by decide) rfl (fun ls hl => ?_)
      refine lv_aload_n hx hb dX9_wide_38 rfl (lv_at hl 1 rfl) ?_
      refine lv_iload_n hx hb dX9_wide_39 rfl (lv_at hl 2 rfl) ?_
      refine lv_iload hx hb dX9_wide_40 (lv_at hl 8 rfl) ?_
      refine kr_Si (As := [.ref (ka_a G a), .int v1, .int v7]) (rest := []) C0 hK hP hS hl (km_X9_shownLength l hI ha hq) kd_X9_shownLength kq_1112 ⟨rfl, rfl, Nat.le_of_ble_eq_true rfl, Nat.le_of_ble_eq_true rfl⟩ rfl (Nat.le_of_ble_eq_true rfl) dX9_wide_42 ⟨Nat.zero_le _, Nat.zero_le _⟩ (fun r10 σ9 H locs hq hP hS => ?_)
      refine lv_istore (lv' := [(9, .int r10), (8, .int r8), (0, .ref (ka_a G a)), (1, .int v1), (2, .int v2), (3, .int v3), (4, .int v4), (5, .int v5), (6, .int v6), (7, .int v7)]) hx hb dX9_wide_45 hl (by decide) rfl (fun ls hl => ?_)
      refine lv_iload_n hx hb dX9_wide_47 rfl (lv_at hl 5 rfl) ?_
      refine lv_iload hx hb dX9_wide_48 (lv_at hl 1 rfl) ?_
      refine lv_iadd hx hb dX9_wide_50 ?_
      refine lv_topi (fun x11 ex11 => ?_)
      have hq := hq x11 ex11
      refine lv_istore_n (lv' := [(3, .int x11), (9, .int r10), (8, .int r8), (0, .ref (ka_a G a)), (1, .int v1), (2, .int v2), (4, .int v4), (5, .int v5), (6, .int v6), (7, .int v7)]) hx hb dX9_wide_51 rfl hl (by decide) rfl (fun ls hl => ?_)
      refine lv_iload hx hb dX9_wide_52 (lv_at hl 6 rfl) ?_
      refine lv_iload hx hb dX9_wide_54 (lv_at hl 1 rfl) ?_
      refine lv_iadd hx hb dX9_wide_56 ?_
      refine lv_topi (fun x12 ex12 => ?_)
      have hq := hq x12 ex12
      refine lv_istore (lv' := [(4, .int x12), (3, .int x11), (9, .int r10), (8, .int r8), (0, .ref (ka_a G a)), (1, .int v1), (2, .int v2), (5, .int v5), (6, .int v6), (7, .int v7)]) hx hb dX9_wide_57 hl (by decide) rfl (fun ls hl => ?_)
      refine lv_iload hx hb dX9_wide_59 (lv_at hl 7 rfl) ?_
      refine lv_iload hx hb dX9_wide_61 (lv_at hl 3 rfl) ?_
      refine lv_iload hx hb dX9_wide_63 (lv_at hl 2 rfl) ?_
      refine lv_icmp_le (tgt := 73) hx hb dX9_wide_65 (by decide) (fun hc => ?_) (fun hc => ?_)
      · have hq := hq.1 hc
        refine lv_iload hx hb dX9_wide_73 (lv_at hl 2 rfl) ?_
        refine lv_iadd hx hb dX9_wide_75 ?_
        refine lv_topi (fun x13 ex13 => ?_)
        have hq := hq x13 ex13
        refine lv_istore (lv' := [(5, .int x13), (4, .int x12), (3, .int x11), (9, .int r10), (8, .int r8), (0, .ref (ka_a G a)), (1, .int v1), (2, .int v2), (6, .int v6), (7, .int v7)]) hx hb dX9_wide_76 hl (by decide) rfl (fun ls hl => ?_)
        obtain ⟨x14, ex14⟩ : ∃ y : Int32, y = v7 + (1 : Int32) := ⟨_, rfl⟩
        have hq := hq x14 ex14
        refine lv_iinc (v := x14) (lv' := [(7, .int x14), (5, .int x13), (4, .int x12), (3, .int x11), (9, .int r10), (8, .int r8), (0, .ref (ka_a G a)), (1, .int v1), (2, .int v2), (6, .int v6)]) hx hb dX9_wide_78 hl (k := 9) rfl (by rw [ex14]; rfl) (by decide) rfl (fun ls hl => ?_)
        refine lv_goto (tgt := 18) hx hb dX9_wide_81 (by decide) ?_
        exact ih σ9 v1 v2 x11 x12 x13 v6 x14 hq H locs hP hS ls (lv_sub hl [6, 7, 8, 3, 2, 1, 9, 0] rfl)
      · have hq := hq.2 hc
        refine lv_iload hx hb dX9_wide_68 (lv_at hl 3 rfl) ?_
        refine lv_goto (tgt := 75) hx hb dX9_wide_70 (by decide) ?_
        refine lv_iadd hx hb dX9_wide_75 ?_
        refine lv_topi (fun x15 ex15 => ?_)
        have hq := hq x15 ex15
        refine lv_istore (lv' := [(5, .int x15), (4, .int x12), (3, .int x11), (9, .int r10), (8, .int r8), (0, .ref (ka_a G a)), (1, .int v1), (2, .int v2), (6, .int v6), (7, .int v7)]) hx hb dX9_wide_76 hl (by decide) rfl (fun ls hl => ?_)
        obtain ⟨x16, ex16⟩ : ∃ y : Int32, y = v7 + (1 : Int32) := ⟨_, rfl⟩
        have hq := hq x16 ex16
        refine lv_iinc (v := x16) (lv' := [(7, .int x16), (5, .int x15), (4, .int x12), (3, .int x11), (9, .int r10), (8, .int r8), (0, .ref (ka_a G a)), (1, .int v1), (2, .int v2), (6, .int v6)]) hx hb dX9_wide_78 hl (k := 9) rfl (by rw [ex16]; rfl) (by decide) rfl (fun ls hl => ?_)
        refine lv_goto (tgt := 18) hx hb dX9_wide_81 (by decide) ?_
        exact ih σ9 v1 v2 x11 x12 x15 v6 x16 hq H locs hP hS ls (lv_sub hl [6, 7, 8, 3, 2, 1, 9, 0] rfl)
set_option maxHeartbeats 4000000 in
set_option maxRecDepth 100000 in
theorem km_X9_wide (l : Launch) {G : ka_G} (hI : ka_I G) {a : ka_K} (ha : ka_L a) {σ : ka_S} {v1 : Int32} {v2 : Int32} {Q : Int32 → ka_S → Prop} (hq : kw_X9_wide σ a v1 v2 Q) : kc_i l yX9_wide (kw_ yX9_wide cX9_wide 10 (some .int)) rm_X9_wide G [.ref (ka_a G a), .int v1, .int v2] σ Q := by
  refine ka_of "GlossRowsModel" rfl (by decide) (Nat.le_of_ble_eq_true rfl) ?_
  intro p e s m below meth c C0 hK H locs hP hS ls hl
  obtain ⟨hx, hb, -, hml, hown, hts, -⟩ := id C0
  have hl : lv_has ls 10 [(0, .ref (ka_a G a)), (1, .int v1), (2, .int v2)] := hl
  unfold kw_X9_wide at hq
  refine lv_iconst (v := 0) hx hb dX9_wide_0 (by decide) ?_
  refine lv_istore_n (lv' := [(3, .int (0 : Int32)), (0, .ref (ka_a G a)), (1, .int v1), (2, .int v2)]) hx hb dX9_wide_1 rfl hl (by decide) rfl (fun ls hl => ?_)
  refine lv_iconst (v := 0) hx hb dX9_wide_2 (by decide) ?_
  refine lv_istore (lv' := [(4, .int (0 : Int32)), (3, .int (0 : Int32)), (0, .ref (ka_a G a)), (1, .int v1), (2, .int v2)]) hx hb dX9_wide_3 hl (by decide) rfl (fun ls hl => ?_)
  refine lv_iconst (v := 0) hx hb dX9_wide_5 (by decide) ?_
  refine lv_istore (lv' := [(5, .int (0 : Int32)), (4, .int (0 : Int32)), (3, .int (0 : Int32)), (0, .ref (ka_a G a)), (1, .int v1), (2, .int v2)]) hx hb dX9_wide_6 hl (by decide) rfl (fun ls hl => ?_)
  refine lv_aload_n hx hb dX9_wide_8 rfl (lv_at hl 3 rfl) ?_
  refine lv_iload_n hx hb dX9_wide_9 rfl (lv_at hl 4 rfl) ?_
  refine kr_Si (As := [.ref (ka_a G a), .int v1]) (rest := []) C0 hK hP hS hl (km_X9_parts l hI ha hq) kd_X9_parts kq_1099 ⟨rfl, rfl, Nat.le_of_ble_eq_true rfl, Nat.le_of_ble_eq_true rfl⟩ rfl (Nat.le_of_ble_eq_true rfl) dX9_wide_10 ⟨Nat.zero_le _, Nat.zero_le _⟩ (fun r2 σ1 H locs hq hP hS => ?_)
  refine lv_istore (lv' := [(6, .int r2), (5, .int (0 : Int32)), (4, .int (0 : Int32)), (3, .int (0 : Int32)), (0, .ref (ka_a G a)), (1, .int v1), (2, .int v2)]) hx hb dX9_wide_13 hl (by decide) rfl (fun ls hl => ?_)
  refine lv_iconst (v := 0) hx hb dX9_wide_15 (by decide) ?_
  refine lv_istore (lv' := [(7, .int (0 : Int32)), (6, .int r2), (5, .int (0 : Int32)), (4, .int (0 : Int32)), (3, .int (0 : Int32)), (0, .ref (ka_a G a)), (1, .int v1), (2, .int v2)]) hx hb dX9_wide_16 hl (by decide) rfl (fun ls hl => ?_)
  obtain ⟨n3, hq⟩ := hq
  exact kb_X9_wide_18 hI ha C0 hK n3 σ1 v1 v2 (0 : Int32) (0 : Int32) (0 : Int32) r2 (0 : Int32) hq H locs hP hS ls (lv_sub hl [5, 6, 7, 4, 3, 2, 1, 0] rfl)
/-! GlossRowsModel.addRow(III)V -/
def rm_X9_addRow : Room := { frames := 0, cells := 0, slots := 0, locals := 0 }
def kw_X9_addRow (σ : ka_S) (v1 : Int32) (v2 : Int32) (v3 : Int32) (Q : ka_S → Prop) : Prop := vp_in (σ.1 (25, 0, 0) 12) 72 ∧
  ∀ σ2 : ka_S, σ2 = ka_wI σ (32, 0, 0) (σ.1 (25, 0, 0) 12).toNatClampNeg v1 →
  vp_in (σ2.1 (25, 0, 0) 12) 72 ∧
  ∀ σ4 : ka_S, σ4 = ka_wI σ2 (33, 0, 0) (σ2.1 (25, 0, 0) 12).toNatClampNeg v2 →
  vp_in (σ4.1 (25, 0, 0) 12) 72 ∧
  ∀ σ6 : ka_S, σ6 = ka_wI σ4 (34, 0, 0) (σ4.1 (25, 0, 0) 12).toNatClampNeg v3 →
  ∀ σ7 : ka_S, σ7 = ka_wI σ6 (25, 0, 0) 12 ((σ6.1 (25, 0, 0) 12) + (1 : Int32)) →
  Q σ7
set_option maxHeartbeats 4000000 in
set_option maxRecDepth 100000 in
theorem km_X9_addRow (l : Launch) {G : ka_G} (hI : ka_I G) {σ : ka_S} {v1 : Int32} {v2 : Int32} {v3 : Int32} {Q : ka_S → Prop} (hq : kw_X9_addRow σ v1 v2 v3 Q) : kc_v l yX9_addRow (kw_ yX9_addRow cX9_addRow 4 none) rm_X9_addRow G [.ref (ka_a G (25, 0, 0)), .int v1, .int v2, .int v3] σ Q := by
  refine ka_of "GlossRowsModel" rfl (by decide) (Nat.le_of_ble_eq_true rfl) ?_
  intro p e s m below meth c C0 hK H locs hP hS ls hl
  obtain ⟨hx, hb, -, hml, hown, hts, -⟩ := id C0
  have hl : lv_has ls 4 [(0, .ref (ka_a G (25, 0, 0))), (1, .int v1), (2, .int v2), (3, .int v3)] := hl
  unfold kw_X9_addRow at hq
  refine lv_aload_n hx hb dX9_addRow_0 rfl (lv_at hl 0 rfl) ?_
  refine kg_X9_rowKind C0 hK hP (kv_s (by decide) (by decide)) kq_974 dX9_addRow_1 ?_
  refine lv_aload_n hx hb dX9_addRow_4 rfl (lv_at hl 0 rfl) ?_
  refine kg_X9_rows C0 hK hP (kv_s (by decide) (by decide)) kq_967 dX9_addRow_5 ?_
  refine lv_iload_n hx hb dX9_addRow_8 rfl (lv_at hl 1 rfl) ?_
  obtain ⟨b1, hq⟩ := hq
  refine kr_iast C0 hK hI hP hS (kv_s (by decide) (by decide)) (fun _ => rfl) b1 dX9_addRow_9 (fun H locs hP hS => ?_)
  obtain ⟨σ2, eσ2⟩ : ∃ z : ka_S, z = ka_wI σ (32, 0, 0) (σ.1 (25, 0, 0) 12).toNatClampNeg v1 := ⟨_, rfl⟩
  rw [← eσ2] at hP
  have hq := hq σ2 eσ2
  refine lv_aload_n hx hb dX9_addRow_10 rfl (lv_at hl 0 rfl) ?_
  refine kg_X9_rowOf C0 hK hP (kv_s (by decide) (by decide)) kq_975 dX9_addRow_11 ?_
  refine lv_aload_n hx hb dX9_addRow_14 rfl (lv_at hl 0 rfl) ?_
  refine kg_X9_rows C0 hK hP (kv_s (by decide) (by decide)) kq_967 dX9_addRow_15 ?_
  refine lv_iload_n hx hb dX9_addRow_18 rfl (lv_at hl 2 rfl) ?_
  obtain ⟨b3, hq⟩ := hq
  refine kr_iast C0 hK hI hP hS (kv_s (by decide) (by decide)) (fun _ => rfl) b3 dX9_addRow_19 (fun H locs hP hS => ?_)
  obtain ⟨σ4, eσ4⟩ : ∃ z : ka_S, z = ka_wI σ2 (33, 0, 0) (σ2.1 (25, 0, 0) 12).toNatClampNeg v2 := ⟨_, rfl⟩
  rw [← eσ4] at hP
  have hq := hq σ4 eσ4
  refine lv_aload_n hx hb dX9_addRow_20 rfl (lv_at hl 0 rfl) ?_
  refine kg_X9_rowFrom C0 hK hP (kv_s (by decide) (by decide)) kq_976 dX9_addRow_21 ?_
  refine lv_aload_n hx hb dX9_addRow_24 rfl (lv_at hl 0 rfl) ?_
  refine kg_X9_rows C0 hK hP (kv_s (by decide) (by decide)) kq_967 dX9_addRow_25 ?_
  refine lv_iload_n hx hb dX9_addRow_28 rfl (lv_at hl 3 rfl) ?_
  obtain ⟨b5, hq⟩ := hq
  refine kr_iast C0 hK hI hP hS (kv_s (by decide) (by decide)) (fun _ => rfl) b5 dX9_addRow_29 (fun H locs hP hS => ?_)
  obtain ⟨σ6, eσ6⟩ : ∃ z : ka_S, z = ka_wI σ4 (34, 0, 0) (σ4.1 (25, 0, 0) 12).toNatClampNeg v3 := ⟨_, rfl⟩
  rw [← eσ6] at hP
  have hq := hq σ6 eσ6
  refine lv_aload_n hx hb dX9_addRow_30 rfl (lv_at hl 0 rfl) ?_
  refine lv_dup hx hb dX9_addRow_31 rfl ?_
  refine kg_X9_rows C0 hK hP (kv_s (by decide) (by decide)) kq_967 dX9_addRow_32 ?_
  refine lv_iconst (v := 1) hx hb dX9_addRow_35 (by decide) ?_
  refine lv_iadd hx hb dX9_addRow_36 ?_
  refine kp_X9_rows C0 hK hI hP hS (kv_s (by decide) (by decide)) kq_967 dX9_addRow_37 (fun H locs hP hS => ?_)
  obtain ⟨σ7, eσ7⟩ : ∃ z : ka_S, z = ka_wI σ6 (25, 0, 0) 12 ((σ6.1 (25, 0, 0) 12) + (1 : Int32)) := ⟨_, rfl⟩
  rw [← eσ7] at hP
  have hq := hq σ7 eσ7
  exact kr_vret C0 hK hP hS hq dX9_addRow_40
/-! GlossRowsModel.layOut([JII)V -/
def rm_X9_layOut : Room := { frames := 4, cells := 0, slots := 0, locals := 95 }
def kw_X9_layOut_267 (a : ka_K) (K27 : ka_S → Int32 → Int32 → Int32 → Int32 → Int32 → Int32 → Prop) (Q : ka_S → Prop) : Nat → ka_S → Int32 → Int32 → Int32 → Int32 → Int32 → Int32 → Int32 → Int32 → Prop
  | 0, _, _, _, _, _, _, _, _, _ => False
  | n + 1, σ, v2, v3, v4, v5, v6, v7, v11, v12 => (v11 ≤ v12 → ∀ σ39 : ka_S, σ39 = ka_wI σ (25, 0, 0) 13 ((σ.1 (25, 0, 0) 13) + (1 : Int32)) →
      ∀ x40 : Int32, x40 = v7 + (1 : Int32) →
      K27 σ39 v2 v3 v4 v5 v6 x40) ∧
    (¬ v11 ≤ v12 → kw_X9_addRow σ (2 : Int32) v7 v12 (fun σ41 => 
      ∀ x42 : Int32, x42 = (v12 + v2) → 
      (kw_X9_layOut_267 a K27 Q n) σ41 v2 v3 v4 v5 v6 v7 v11 x42))
def kw_X9_layOut_222 (a : ka_K) (K27 : ka_S → Int32 → Int32 → Int32 → Int32 → Int32 → Int32 → Prop) (Q : ka_S → Prop) : Nat → ka_S → Int32 → Int32 → Int32 → Int32 → Int32 → Int32 → Int32 → Prop
  | 0, _, _, _, _, _, _, _, _ => False
  | n + 1, σ, v2, v3, v4, v5, v6, v7, v11 => ((σ.1 (25, 0, 0) 11) ≤ v11 → kw_X9_cell σ v7 (2 : Int32) (fun r32 σ31 => 
      vp_in r32 (ka_n a) ∧
      ∀ x34 : Int32, x34 = ((σ31.2 a r32.toNatClampNeg).toInt32) → 
      ∃ n35 : Nat, kw_X9_layOut_267 a K27 Q n35 σ31 v2 v3 v4 v5 v6 v7 x34 (0 : Int32))) ∧
    (¬ (σ.1 (25, 0, 0) 11) ≤ v11 → kw_X9_addRow σ (0 : Int32) v11 (0 : Int32) (fun σ36 => 
      kw_X9_addRow σ36 (1 : Int32) v11 (0 : Int32) (fun σ37 => 
      ∀ x38 : Int32, x38 = v11 + (1 : Int32) →
      (kw_X9_layOut_222 a K27 Q n) σ37 v2 v3 v4 v5 v6 v7 x38)))
def kw_X9_layOut_211 (a : ka_K) (K27 : ka_S → Int32 → Int32 → Int32 → Int32 → Int32 → Int32 → Prop) (Q : ka_S → Prop) (σ : ka_S) (v2 : Int32) (v3 : Int32) (v5 : Int32) (v6 : Int32) (v7 : Int32) (t0 : Int32) : Prop := (t0 = (0 : Int32) → ∀ x29 : Int32, x29 = v7 + (1 : Int32) →
    K27 σ v2 v3 t0 v5 v6 x29) ∧
  (¬ t0 = (0 : Int32) → ∃ n30 : Nat, kw_X9_layOut_222 a K27 Q n30 σ v2 v3 t0 v5 v6 v7 v6)
def kw_X9_layOut_206 (a : ka_K) (K27 : ka_S → Int32 → Int32 → Int32 → Int32 → Int32 → Int32 → Prop) (Q : ka_S → Prop) (σ : ka_S) (v2 : Int32) (v3 : Int32) (v5 : Int32) (v6 : Int32) (v7 : Int32) : Prop := kw_X9_layOut_211 a K27 Q σ v2 v3 v5 v6 v7 (1 : Int32)
def kw_X9_layOut_123 (a : ka_K) (K27 : ka_S → Int32 → Int32 → Int32 → Int32 → Int32 → Int32 → Prop) (Q : ka_S → Prop) (σ : ka_S) (v2 : Int32) (v3 : Int32) (v6 : Int32) (v7 : Int32) (v8 : Int32) (t1 : Int32) (t2 : Int32) : Prop := vp_in t1 12 ∧
  ∀ σ13 : ka_S, σ13 = ka_wI σ (28, 0, 0) t1.toNatClampNeg t2 →
  vp_in v7 12 ∧
  ∀ σ15 : ka_S, σ15 = ka_wI σ13 (29, 0, 0) v7.toNatClampNeg v8 →
  vp_in v7 12 ∧
  ∀ σ17 : ka_S, σ17 = ka_wI σ15 (27, 0, 0) v7.toNatClampNeg ((σ15.1 (25, 0, 0) 11) - (1 : Int32)) →
  vp_in v7 12 ∧
  ∀ σ19 : ka_S, σ19 = ka_wI σ17 (30, 0, 0) v7.toNatClampNeg (σ17.1 (25, 0, 0) 13) →
  vp_in v7 12 ∧
  ∀ x21 : Int32, x21 = ((σ19.1 (28, 0, 0) v7.toNatClampNeg) + v8) → 
  vp_in ((σ19.1 (25, 0, 0) 11) - (1 : Int32)) 12 ∧
  ∀ σ23 : ka_S, σ23 = ka_wI σ19 (31, 0, 0) ((σ19.1 (25, 0, 0) 11) - (1 : Int32)).toNatClampNeg x21 →
  kw_X9_cell σ23 v7 (1 : Int32) (fun r25 σ24 => 
  vp_in r25 (ka_n a) ∧
  ((σ24.2 a r25.toNatClampNeg) = (1 : Int64) → kw_X9_layOut_206 a K27 Q σ24 v2 v3 x21 v6 v7) ∧
  (¬ (σ24.2 a r25.toNatClampNeg) = (1 : Int64) → kw_X9_many σ24 a (fun r28 σ27 => 
    (v7 = (r28 - (1 : Int32)) → kw_X9_layOut_206 a K27 Q σ27 v2 v3 x21 v6 v7) ∧
    (¬ v7 = (r28 - (1 : Int32)) → kw_X9_layOut_211 a K27 Q σ27 v2 v3 x21 v6 v7 (0 : Int32)))))
def kw_X9_layOut_106 (a : ka_K) (K27 : ka_S → Int32 → Int32 → Int32 → Int32 → Int32 → Int32 → Prop) (Q : ka_S → Prop) (σ : ka_S) (v2 : Int32) (v3 : Int32) (v6 : Int32) (v7 : Int32) (v8 : Int32) (v9 : Int32) (v10 : Int32) : Prop := (v10 = (0 : Int32) → kw_X9_layOut_123 a K27 Q σ v2 v3 v6 v7 v8 v7 (0 : Int32)) ∧
  (¬ v10 = (0 : Int32) → kw_X9_layOut_123 a K27 Q σ v2 v3 v6 v7 v8 v7 v9)
def kw_X9_layOut_94 (a : ka_K) (K27 : ka_S → Int32 → Int32 → Int32 → Int32 → Int32 → Int32 → Prop) (Q : ka_S → Prop) (σ : ka_S) (v2 : Int32) (v3 : Int32) (v7 : Int32) (v8 : Int32) (v9 : Int32) (v10 : Int32) (t0 : Int32) : Prop := ∀ σ11 : ka_S, σ11 = ka_wI σ (25, 0, 0) 11 ((σ.1 (25, 0, 0) 11) + (1 : Int32)) →
  kw_X9_layOut_106 a K27 Q σ11 v2 v3 t0 v7 v8 v9 v10
def kw_X9_layOut_73 (a : ka_K) (K27 : ka_S → Int32 → Int32 → Int32 → Int32 → Int32 → Int32 → Prop) (Q : ka_S → Prop) (σ : ka_S) (v2 : Int32) (v3 : Int32) (v4 : Int32) (v6 : Int32) (v7 : Int32) (v8 : Int32) (v9 : Int32) (t0 : Int32) : Prop := (t0 = (0 : Int32) → (v4 = (0 : Int32) → kw_X9_layOut_94 a K27 Q σ v2 v3 v7 v8 v9 t0 v6) ∧
    (¬ v4 = (0 : Int32) → kw_X9_layOut_94 a K27 Q σ v2 v3 v7 v8 v9 t0 (σ.1 (25, 0, 0) 11))) ∧
  (¬ t0 = (0 : Int32) → kw_X9_layOut_106 a K27 Q σ v2 v3 v6 v7 v8 v9 t0)
def kw_X9_layOut_72 (a : ka_K) (K27 : ka_S → Int32 → Int32 → Int32 → Int32 → Int32 → Int32 → Prop) (Q : ka_S → Prop) (σ : ka_S) (v2 : Int32) (v3 : Int32) (v4 : Int32) (v6 : Int32) (v7 : Int32) (v8 : Int32) (v9 : Int32) : Prop := kw_X9_layOut_73 a K27 Q σ v2 v3 v4 v6 v7 v8 v9 (0 : Int32)
def kw_X9_layOut_27 (a : ka_K) (Q : ka_S → Prop) : Nat → ka_S → Int32 → Int32 → Int32 → Int32 → Int32 → Int32 → Prop
  | 0, _, _, _, _, _, _, _ => False
  | n + 1, σ, v2, v3, v4, v5, v6, v7 => kw_X9_many σ a (fun r6 σ5 => 
    (r6 ≤ v7 → Q σ5) ∧
    (¬ r6 ≤ v7 → kw_X9_wide σ5 a v7 v3 (fun r8 σ7 => 
      vp_in (3 : Int32) (ka_n a) ∧
      ∀ x10 : Int32, x10 = (v5 + ((σ7.2 a (3 : Int32).toNatClampNeg).toInt32)) → 
      (v4 = (0 : Int32) → (v2 < (x10 + r8) → kw_X9_layOut_72 a (kw_X9_layOut_27 a Q n) Q σ7 v2 v3 v4 v6 v7 r8 x10) ∧
        (¬ v2 < (x10 + r8) → kw_X9_layOut_73 a (kw_X9_layOut_27 a Q n) Q σ7 v2 v3 v4 v6 v7 r8 x10 (1 : Int32))) ∧
      (¬ v4 = (0 : Int32) → kw_X9_layOut_72 a (kw_X9_layOut_27 a Q n) Q σ7 v2 v3 v4 v6 v7 r8 x10))))
def kw_X9_layOut (σ : ka_S) (a : ka_K) (v2 : Int32) (v3 : Int32) (Q : ka_S → Prop) : Prop := ∀ σ1 : ka_S, σ1 = ka_wI σ (25, 0, 0) 11 (0 : Int32) →
  ∀ σ2 : ka_S, σ2 = ka_wI σ1 (25, 0, 0) 12 (0 : Int32) →
  ∀ σ3 : ka_S, σ3 = ka_wI σ2 (25, 0, 0) 13 (0 : Int32) →
  ∃ n4 : Nat, kw_X9_layOut_27 a Q n4 σ3 v2 v3 (1 : Int32) (0 : Int32) (0 : Int32) (0 : Int32)
set_option maxHeartbeats 4000000 in
set_option maxRecDepth 100000 in
theorem kb_X9_layOut_267 {p : Program} {l : Launch} {e : Env} {s : State} {m : MethodId} {args : Array Value} {below : List Frame} {meth : Method} {c : Code} {G : ka_G} (hI : ka_I G) {a : ka_K} (ha : ka_L a) (C0 : ka_C p s m args meth c cX9_layOut 13 "GlossRowsModel" none) (hK : ka_Kn G s) {Q : ka_S → Prop} {K27 : ka_S → Int32 → Int32 → Int32 → Int32 → Int32 → Int32 → Prop} (hk27 : ∀ (σ : ka_S) (v2 : Int32) (v3 : Int32) (v4 : Int32) (v5 : Int32) (v6 : Int32) (v7 : Int32), K27 σ v2 v3 v4 v5 v6 v7 → ∀ (H : Heap) (locs : List Loc), ka_P G σ H → va_S (ka_A G) s.heap H locs → ∀ ls : Array Slot, lv_has ls 13 [(0, .ref (ka_a G (25, 0, 0))), (1, .ref (ka_a G a)), (2, .int v2), (3, .int v3), (4, .int v4), (5, .int v5), (6, .int v6), (7, .int v7)] → W p l e rm_X9_layOut s m args below meth c H locs 0 0 (MQ below (va_Qv Q (ka_B G) (ka_A G)) args s 0 0 (ka_A G)) (F0 m 27 ls [])) : ∀ (n : Nat) (σ : ka_S) (v2 : Int32) (v3 : Int32) (v4 : Int32) (v5 : Int32) (v6 : Int32) (v7 : Int32) (v11 : Int32) (v12 : Int32), kw_X9_layOut_267 a K27 Q n σ v2 v3 v4 v5 v6 v7 v11 v12 → ∀ (H : Heap) (locs : List Loc), ka_P G σ H → va_S (ka_A G) s.heap H locs → ∀ ls : Array Slot, lv_has ls 13 [(0, .ref (ka_a G (25, 0, 0))), (1, .ref (ka_a G a)), (2, .int v2), (3, .int v3), (4, .int v4), (5, .int v5), (6, .int v6), (7, .int v7), (11, .int v11), (12, .int v12)] → W p l e rm_X9_layOut s m args below meth c H locs 0 0 (MQ below (va_Qv Q (ka_B G) (ka_A G)) args s 0 0 (ka_A G)) (F0 m 267 ls []) := by
  obtain ⟨hx, hb, -, hml, hown, hts, -⟩ := id C0
  intro n
  induction n with
  | zero =>
    intro σ v2 v3 v4 v5 v6 v7 v11 v12 hq
    rw [kw_X9_layOut_267] at hq
    exact hq.elim
  | succ n ih =>
    intro σ v2 v3 v4 v5 v6 v7 v11 v12 hq H locs hP hS ls hl
    rw [kw_X9_layOut_267] at hq
    refine lv_iload hx hb dX9_layOut_267 (lv_at hl 9 rfl) ?_
    refine lv_iload hx hb dX9_layOut_269 (lv_at hl 8 rfl) ?_
    refine lv_icmp_ge (tgt := 292) hx hb dX9_layOut_271 (by decide) (fun hc => ?_) (fun hc => ?_)
    · have hq := hq.1 hc
      refine lv_aload_n hx hb dX9_layOut_292 rfl (lv_at hl 0 rfl) ?_
      refine lv_dup hx hb dX9_layOut_293 rfl ?_
      refine kg_X9_sentences C0 hK hP (kv_s (by decide) (by decide)) kq_968 dX9_layOut_294 ?_
      refine lv_iconst (v := 1) hx hb dX9_layOut_297 (by decide) ?_
      refine lv_iadd hx hb dX9_layOut_298 ?_
      refine kp_X9_sentences C0 hK hI hP hS (kv_s (by decide) (by decide)) kq_968 dX9_layOut_299 (fun H locs hP hS => ?_)
      obtain ⟨σ39, eσ39⟩ : ∃ z : ka_S, z = ka_wI σ (25, 0, 0) 13 ((σ.1 (25, 0, 0) 13) + (1 : Int32)) := ⟨_, rfl⟩
      rw [← eσ39] at hP
      have hq := hq σ39 eσ39
      obtain ⟨x40, ex40⟩ : ∃ y : Int32, y = v7 + (1 : Int32) := ⟨_, rfl⟩
      have hq := hq x40 ex40
      refine lv_iinc (v := x40) (lv' := [(7, .int x40), (0, .ref (ka_a G (25, 0, 0))), (1, .ref (ka_a G a)), (2, .int v2), (3, .int v3), (4, .int v4), (5, .int v5), (6, .int v6), (11, .int v11), (12, .int v12)]) hx hb dX9_layOut_302 hl (k := 7) rfl (by rw [ex40]; rfl) (by decide) rfl (fun ls hl => ?_)
      refine lv_goto (tgt := 27) hx hb dX9_layOut_305 (by decide) ?_
      exact hk27 σ39 v2 v3 v4 v5 v6 x40 hq H locs hP hS ls (lv_sub hl [1, 2, 3, 4, 5, 6, 7, 0] rfl)
    · have hq := hq.2 hc
      refine lv_aload_n hx hb dX9_layOut_274 rfl (lv_at hl 0 rfl) ?_
      refine lv_iconst (v := 2) hx hb dX9_layOut_275 (by decide) ?_
      refine lv_iload hx hb dX9_layOut_276 (lv_at hl 7 rfl) ?_
      refine lv_iload hx hb dX9_layOut_278 (lv_at hl 9 rfl) ?_
      refine kr_Vv (k := (25, 0, 0)) (As := [.int (2 : Int32), .int v7, .int v12]) (rest := []) C0 hK hP hS hl (km_X9_addRow l hI hq) kd_X9_addRow kq_1118 (kv_s (by decide) (by decide)) rfl rfl rfl ⟨rfl, rfl, Nat.le_of_ble_eq_true rfl, Nat.le_of_ble_eq_true rfl⟩ rfl (Nat.le_of_ble_eq_true rfl) dX9_layOut_280 ⟨Nat.zero_le _, Nat.zero_le _⟩ (fun σ41 H locs hq hP hS => ?_)
      refine lv_iload hx hb dX9_layOut_283 (lv_at hl 9 rfl) ?_
      refine lv_iload_n hx hb dX9_layOut_285 rfl (lv_at hl 2 rfl) ?_
      refine lv_iadd hx hb dX9_layOut_286 ?_
      refine lv_topi (fun x42 ex42 => ?_)
      have hq := hq x42 ex42
      refine lv_istore (lv' := [(12, .int x42), (0, .ref (ka_a G (25, 0, 0))), (1, .ref (ka_a G a)), (2, .int v2), (3, .int v3), (4, .int v4), (5, .int v5), (6, .int v6), (7, .int v7), (11, .int v11)]) hx hb dX9_layOut_287 hl (by decide) rfl (fun ls hl => ?_)
      refine lv_goto (tgt := 267) hx hb dX9_layOut_289 (by decide) ?_
      exact ih σ41 v2 v3 v4 v5 v6 v7 v11 x42 hq H locs hP hS ls (lv_sub hl [1, 2, 3, 4, 5, 6, 7, 8, 9, 0] rfl)
set_option maxHeartbeats 4000000 in
set_option maxRecDepth 100000 in
theorem kb_X9_layOut_222 {p : Program} {l : Launch} {e : Env} {s : State} {m : MethodId} {args : Array Value} {below : List Frame} {meth : Method} {c : Code} {G : ka_G} (hI : ka_I G) {a : ka_K} (ha : ka_L a) (C0 : ka_C p s m args meth c cX9_layOut 13 "GlossRowsModel" none) (hK : ka_Kn G s) {Q : ka_S → Prop} {K27 : ka_S → Int32 → Int32 → Int32 → Int32 → Int32 → Int32 → Prop} (hk27 : ∀ (σ : ka_S) (v2 : Int32) (v3 : Int32) (v4 : Int32) (v5 : Int32) (v6 : Int32) (v7 : Int32), K27 σ v2 v3 v4 v5 v6 v7 → ∀ (H : Heap) (locs : List Loc), ka_P G σ H → va_S (ka_A G) s.heap H locs → ∀ ls : Array Slot, lv_has ls 13 [(0, .ref (ka_a G (25, 0, 0))), (1, .ref (ka_a G a)), (2, .int v2), (3, .int v3), (4, .int v4), (5, .int v5), (6, .int v6), (7, .int v7)] → W p l e rm_X9_layOut s m args below meth c H locs 0 0 (MQ below (va_Qv Q (ka_B G) (ka_A G)) args s 0 0 (ka_A G)) (F0 m 27 ls [])) : ∀ (n : Nat) (σ : ka_S) (v2 : Int32) (v3 : Int32) (v4 : Int32) (v5 : Int32) (v6 : Int32) (v7 : Int32) (v11 : Int32), kw_X9_layOut_222 a K27 Q n σ v2 v3 v4 v5 v6 v7 v11 → ∀ (H : Heap) (locs : List Loc), ka_P G σ H → va_S (ka_A G) s.heap H locs → ∀ ls : Array Slot, lv_has ls 13 [(0, .ref (ka_a G (25, 0, 0))), (1, .ref (ka_a G a)), (2, .int v2), (3, .int v3), (4, .int v4), (5, .int v5), (6, .int v6), (7, .int v7), (11, .int v11)] → W p l e rm_X9_layOut s m args below meth c H locs 0 0 (MQ below (va_Qv Q (ka_B G) (ka_A G)) args s 0 0 (ka_A G)) (F0 m 222 ls []) := by
  obtain ⟨hx, hb, -, hml, hown, hts, -⟩ := id C0
  intro n
  induction n with
  | zero =>
    intro σ v2 v3 v4 v5 v6 v7 v11 hq
    rw [kw_X9_layOut_222] at hq
    exact hq.elim
  | succ n ih =>
    intro σ v2 v3 v4 v5 v6 v7 v11 hq H locs hP hS ls hl
    rw [kw_X9_layOut_222] at hq
    refine lv_iload hx hb dX9_layOut_222 (lv_at hl 8 rfl) ?_
    refine lv_aload_n hx hb dX9_layOut_224 rfl (lv_at hl 0 rfl) ?_
    refine kg_X9_lines C0 hK hP (kv_s (by decide) (by decide)) kq_966 dX9_layOut_225 ?_
    refine lv_icmp_ge (tgt := 253) hx hb dX9_layOut_228 (by decide) (fun hc => ?_) (fun hc => ?_)
    · have hq := hq.1 hc
      refine lv_aload_n hx hb dX9_layOut_253 rfl (lv_at hl 1 rfl) ?_
      refine lv_iload hx hb dX9_layOut_254 (lv_at hl 7 rfl) ?_
      refine lv_iconst (v := 2) hx hb dX9_layOut_256 (by decide) ?_
      refine kr_Si (As := [.int v7, .int (2 : Int32)]) (rest := [.ref (ka_a G a)]) C0 hK hP hS hl (km_X9_cell l hI hq) kd_X9_cell kq_1102 ⟨rfl, rfl, Nat.le_of_ble_eq_true rfl, Nat.le_of_ble_eq_true rfl⟩ rfl (Nat.le_of_ble_eq_true rfl) dX9_layOut_257 ⟨Nat.zero_le _, Nat.zero_le _⟩ (fun r32 σ31 H locs hq hP hS => ?_)
      obtain ⟨b33, hq⟩ := hq
      refine kr_lald C0 hK hP ha.1 (ha.2 G _) b33 dX9_layOut_260 ?_
      refine lv_l2i hx hb dX9_layOut_261 rfl ?_
      refine lv_topi (fun x34 ex34 => ?_)
      have hq := hq x34 ex34
      refine lv_istore (lv' := [(11, .int x34), (0, .ref (ka_a G (25, 0, 0))), (1, .ref (ka_a G a)), (2, .int v2), (3, .int v3), (4, .int v4), (5, .int v5), (6, .int v6), (7, .int v7)]) hx hb dX9_layOut_262 hl (by decide) rfl (fun ls hl => ?_)
      refine lv_iconst (v := 0) hx hb dX9_layOut_264 (by decide) ?_
      refine lv_istore (lv' := [(12, .int (0 : Int32)), (11, .int x34), (0, .ref (ka_a G (25, 0, 0))), (1, .ref (ka_a G a)), (2, .int v2), (3, .int v3), (4, .int v4), (5, .int v5), (6, .int v6), (7, .int v7)]) hx hb dX9_layOut_265 hl (by decide) rfl (fun ls hl => ?_)
      obtain ⟨n35, hq⟩ := hq
      exact kb_X9_layOut_267 hI ha C0 hK hk27 n35 σ31 v2 v3 v4 v5 v6 v7 x34 (0 : Int32) hq H locs hP hS ls (lv_sub hl [2, 3, 4, 5, 6, 7, 8, 9, 1, 0] rfl)
    · have hq := hq.2 hc
      refine lv_aload_n hx hb dX9_layOut_231 rfl (lv_at hl 0 rfl) ?_
      refine lv_iconst (v := 0) hx hb dX9_layOut_232 (by decide) ?_
      refine lv_iload hx hb dX9_layOut_233 (lv_at hl 8 rfl) ?_
      refine lv_iconst (v := 0) hx hb dX9_layOut_235 (by decide) ?_
      refine kr_Vv (k := (25, 0, 0)) (As := [.int (0 : Int32), .int v11, .int (0 : Int32)]) (rest := []) C0 hK hP hS hl (km_X9_addRow l hI hq) kd_X9_addRow kq_1118 (kv_s (by decide) (by decide)) rfl rfl rfl ⟨rfl, rfl, Nat.le_of_ble_eq_true rfl, Nat.le_of_ble_eq_true rfl⟩ rfl (Nat.le_of_ble_eq_true rfl) dX9_layOut_236 ⟨Nat.zero_le _, Nat.zero_le _⟩ (fun σ36 H locs hq hP hS => ?_)
      refine lv_aload_n hx hb dX9_layOut_239 rfl (lv_at hl 0 rfl) ?_
      refine lv_iconst (v := 1) hx hb dX9_layOut_240 (by decide) ?_
      refine lv_iload hx hb dX9_layOut_241 (lv_at hl 8 rfl) ?_
      refine lv_iconst (v := 0) hx hb dX9_layOut_243 (by decide) ?_
      refine kr_Vv (k := (25, 0, 0)) (As := [.int (1 : Int32), .int v11, .int (0 : Int32)]) (rest := []) C0 hK hP hS hl (km_X9_addRow l hI hq) kd_X9_addRow kq_1118 (kv_s (by decide) (by decide)) rfl rfl rfl ⟨rfl, rfl, Nat.le_of_ble_eq_true rfl, Nat.le_of_ble_eq_true rfl⟩ rfl (Nat.le_of_ble_eq_true rfl) dX9_layOut_244 ⟨Nat.zero_le _, Nat.zero_le _⟩ (fun σ37 H locs hq hP hS => ?_)
      obtain ⟨x38, ex38⟩ : ∃ y : Int32, y = v11 + (1 : Int32) := ⟨_, rfl⟩
      have hq := hq x38 ex38
      refine lv_iinc (v := x38) (lv' := [(11, .int x38), (0, .ref (ka_a G (25, 0, 0))), (1, .ref (ka_a G a)), (2, .int v2), (3, .int v3), (4, .int v4), (5, .int v5), (6, .int v6), (7, .int v7)]) hx hb dX9_layOut_247 hl (k := 8) rfl (by rw [ex38]; rfl) (by decide) rfl (fun ls hl => ?_)
      refine lv_goto (tgt := 222) hx hb dX9_layOut_250 (by decide) ?_
      exact ih σ37 v2 v3 v4 v5 v6 v7 x38 hq H locs hP hS ls (lv_sub hl [1, 2, 3, 4, 5, 6, 7, 8, 0] rfl)
set_option maxHeartbeats 4000000 in
set_option maxRecDepth 100000 in
theorem kb_X9_layOut_211 {p : Program} {l : Launch} {e : Env} {s : State} {m : MethodId} {args : Array Value} {below : List Frame} {meth : Method} {c : Code} {G : ka_G} (hI : ka_I G) {a : ka_K} (ha : ka_L a) (C0 : ka_C p s m args meth c cX9_layOut 13 "GlossRowsModel" none) (hK : ka_Kn G s) {Q : ka_S → Prop} {K27 : ka_S → Int32 → Int32 → Int32 → Int32 → Int32 → Int32 → Prop} (hk27 : ∀ (σ : ka_S) (v2 : Int32) (v3 : Int32) (v4 : Int32) (v5 : Int32) (v6 : Int32) (v7 : Int32), K27 σ v2 v3 v4 v5 v6 v7 → ∀ (H : Heap) (locs : List Loc), ka_P G σ H → va_S (ka_A G) s.heap H locs → ∀ ls : Array Slot, lv_has ls 13 [(0, .ref (ka_a G (25, 0, 0))), (1, .ref (ka_a G a)), (2, .int v2), (3, .int v3), (4, .int v4), (5, .int v5), (6, .int v6), (7, .int v7)] → W p l e rm_X9_layOut s m args below meth c H locs 0 0 (MQ below (va_Qv Q (ka_B G) (ka_A G)) args s 0 0 (ka_A G)) (F0 m 27 ls [])) : ∀ (σ : ka_S) (v2 : Int32) (v3 : Int32) (v5 : Int32) (v6 : Int32) (v7 : Int32) (t0 : Int32), kw_X9_layOut_211 a K27 Q σ v2 v3 v5 v6 v7 t0 → ∀ (H : Heap) (locs : List Loc), ka_P G σ H → va_S (ka_A G) s.heap H locs → ∀ ls : Array Slot, lv_has ls 13 [(0, .ref (ka_a G (25, 0, 0))), (1, .ref (ka_a G a)), (2, .int v2), (3, .int v3), (5, .int v5), (6, .int v6), (7, .int v7)] → W p l e rm_X9_layOut s m args below meth c H locs 0 0 (MQ below (va_Qv Q (ka_B G) (ka_A G)) args s 0 0 (ka_A G)) (F0 m 211 ls [.int t0]) := by
  obtain ⟨hx, hb, -, hml, hown, hts, -⟩ := id C0
  intro σ v2 v3 v5 v6 v7 t0 hq H locs hP hS ls hl
  unfold kw_X9_layOut_211 at hq
  refine lv_istore (lv' := [(4, .int t0), (0, .ref (ka_a G (25, 0, 0))), (1, .ref (ka_a G a)), (2, .int v2), (3, .int v3), (5, .int v5), (6, .int v6), (7, .int v7)]) hx hb dX9_layOut_211 hl (by decide) rfl (fun ls hl => ?_)
  refine lv_iload hx hb dX9_layOut_213 (lv_at hl 0 rfl) ?_
  refine lv_if_eq (tgt := 302) hx hb dX9_layOut_215 (by decide) (fun hc => ?_) (fun hc => ?_)
  · have hq := hq.1 hc
    obtain ⟨x29, ex29⟩ : ∃ y : Int32, y = v7 + (1 : Int32) := ⟨_, rfl⟩
    have hq := hq x29 ex29
    refine lv_iinc (v := x29) (lv' := [(7, .int x29), (4, .int t0), (0, .ref (ka_a G (25, 0, 0))), (1, .ref (ka_a G a)), (2, .int v2), (3, .int v3), (5, .int v5), (6, .int v6)]) hx hb dX9_layOut_302 hl (k := 7) rfl (by rw [ex29]; rfl) (by decide) rfl (fun ls hl => ?_)
    refine lv_goto (tgt := 27) hx hb dX9_layOut_305 (by decide) ?_
    exact hk27 σ v2 v3 t0 v5 v6 x29 hq H locs hP hS ls (lv_sub hl [2, 3, 4, 5, 1, 6, 7, 0] rfl)
  · have hq := hq.2 hc
    refine lv_iload hx hb dX9_layOut_218 (lv_at hl 6 rfl) ?_
    refine lv_istore (lv' := [(11, .int v6), (4, .int t0), (0, .ref (ka_a G (25, 0, 0))), (1, .ref (ka_a G a)), (2, .int v2), (3, .int v3), (5, .int v5), (6, .int v6), (7, .int v7)]) hx hb dX9_layOut_220 hl (by decide) rfl (fun ls hl => ?_)
    obtain ⟨n30, hq⟩ := hq
    exact kb_X9_layOut_222 hI ha C0 hK hk27 n30 σ v2 v3 t0 v5 v6 v7 v6 hq H locs hP hS ls (lv_sub hl [2, 3, 4, 5, 1, 6, 7, 8, 0] rfl)
set_option maxHeartbeats 4000000 in
set_option maxRecDepth 100000 in
theorem kb_X9_layOut_206 {p : Program} {l : Launch} {e : Env} {s : State} {m : MethodId} {args : Array Value} {below : List Frame} {meth : Method} {c : Code} {G : ka_G} (hI : ka_I G) {a : ka_K} (ha : ka_L a) (C0 : ka_C p s m args meth c cX9_layOut 13 "GlossRowsModel" none) (hK : ka_Kn G s) {Q : ka_S → Prop} {K27 : ka_S → Int32 → Int32 → Int32 → Int32 → Int32 → Int32 → Prop} (hk27 : ∀ (σ : ka_S) (v2 : Int32) (v3 : Int32) (v4 : Int32) (v5 : Int32) (v6 : Int32) (v7 : Int32), K27 σ v2 v3 v4 v5 v6 v7 → ∀ (H : Heap) (locs : List Loc), ka_P G σ H → va_S (ka_A G) s.heap H locs → ∀ ls : Array Slot, lv_has ls 13 [(0, .ref (ka_a G (25, 0, 0))), (1, .ref (ka_a G a)), (2, .int v2), (3, .int v3), (4, .int v4), (5, .int v5), (6, .int v6), (7, .int v7)] → W p l e rm_X9_layOut s m args below meth c H locs 0 0 (MQ below (va_Qv Q (ka_B G) (ka_A G)) args s 0 0 (ka_A G)) (F0 m 27 ls [])) : ∀ (σ : ka_S) (v2 : Int32) (v3 : Int32) (v5 : Int32) (v6 : Int32) (v7 : Int32), kw_X9_layOut_206 a K27 Q σ v2 v3 v5 v6 v7 → ∀ (H : Heap) (locs : List Loc), ka_P G σ H → va_S (ka_A G) s.heap H locs → ∀ ls : Array Slot, lv_has ls 13 [(0, .ref (ka_a G (25, 0, 0))), (1, .ref (ka_a G a)), (2, .int v2), (3, .int v3), (5, .int v5), (6, .int v6), (7, .int v7)] → W p l e rm_X9_layOut s m args below meth c H locs 0 0 (MQ below (va_Qv Q (ka_B G) (ka_A G)) args s 0 0 (ka_A G)) (F0 m 206 ls []) := by
  obtain ⟨hx, hb, -, hml, hown, hts, -⟩ := id C0
  intro σ v2 v3 v5 v6 v7 hq H locs hP hS ls hl
  unfold kw_X9_layOut_206 at hq
  refine lv_iconst (v := 1) hx hb dX9_layOut_206 (by decide) ?_
  refine lv_goto (tgt := 211) hx hb dX9_layOut_207 (by decide) ?_
  exact kb_X9_layOut_211 hI ha C0 hK hk27 σ v2 v3 v5 v6 v7 (1 : Int32) hq H locs hP hS ls (lv_sub hl [0, 1, 2, 3, 4, 5, 6] rfl)
set_option maxHeartbeats 4000000 in
set_option maxRecDepth 100000 in
theorem kb_X9_layOut_123 {p : Program} {l : Launch} {e : Env} {s : State} {m : MethodId} {args : Array Value} {below : List Frame} {meth : Method} {c : Code} {G : ka_G} (hI : ka_I G) {a : ka_K} (ha : ka_L a) (C0 : ka_C p s m args meth c cX9_layOut 13 "GlossRowsModel" none) (hK : ka_Kn G s) {Q : ka_S → Prop} {K27 : ka_S → Int32 → Int32 → Int32 → Int32 → Int32 → Int32 → Prop} (hk27 : ∀ (σ : ka_S) (v2 : Int32) (v3 : Int32) (v4 : Int32) (v5 : Int32) (v6 : Int32) (v7 : Int32), K27 σ v2 v3 v4 v5 v6 v7 → ∀ (H : Heap) (locs : List Loc), ka_P G σ H → va_S (ka_A G) s.heap H locs → ∀ ls : Array Slot, lv_has ls 13 [(0, .ref (ka_a G (25, 0, 0))), (1, .ref (ka_a G a)), (2, .int v2), (3, .int v3), (4, .int v4), (5, .int v5), (6, .int v6), (7, .int v7)] → W p l e rm_X9_layOut s m args below meth c H locs 0 0 (MQ below (va_Qv Q (ka_B G) (ka_A G)) args s 0 0 (ka_A G)) (F0 m 27 ls [])) : ∀ (σ : ka_S) (v2 : Int32) (v3 : Int32) (v6 : Int32) (v7 : Int32) (v8 : Int32) (t1 : Int32) (t2 : Int32), kw_X9_layOut_123 a K27 Q σ v2 v3 v6 v7 v8 t1 t2 → ∀ (H : Heap) (locs : List Loc), ka_P G σ H → va_S (ka_A G) s.heap H locs → ∀ ls : Array Slot, lv_has ls 13 [(0, .ref (ka_a G (25, 0, 0))), (1, .ref (ka_a G a)), (2, .int v2), (3, .int v3), (6, .int v6), (7, .int v7), (8, .int v8)] → W p l e rm_X9_layOut s m args below meth c H locs 0 0 (MQ below (va_Qv Q (ka_B G) (ka_A G)) args s 0 0 (ka_A G)) (F0 m 123 ls [.int t2, .int t1, .ref (ka_a G (28, 0, 0))]) := by
  obtain ⟨hx, hb, -, hml, hown, hts, -⟩ := id C0
  intro σ v2 v3 v6 v7 v8 t1 t2 hq H locs hP hS ls hl
  unfold kw_X9_layOut_123 at hq
  obtain ⟨b12, hq⟩ := hq
  refine kr_iast C0 hK hI hP hS (kv_s (by decide) (by decide)) (fun _ => rfl) b12 dX9_layOut_123 (fun H locs hP hS => ?_)
  obtain ⟨σ13, eσ13⟩ : ∃ z : ka_S, z = ka_wI σ (28, 0, 0) t1.toNatClampNeg t2 := ⟨_, rfl⟩
  rw [← eσ13] at hP
  have hq := hq σ13 eσ13
  refine lv_aload_n hx hb dX9_layOut_124 rfl (lv_at hl 0 rfl) ?_
  refine kg_X9_widthOf C0 hK hP (kv_s (by decide) (by decide)) kq_971 dX9_layOut_125 ?_
  refine lv_iload hx hb dX9_layOut_128 (lv_at hl 5 rfl) ?_
  refine lv_iload hx hb dX9_layOut_130 (lv_at hl 6 rfl) ?_
  obtain ⟨b14, hq⟩ := hq
  refine kr_iast C0 hK hI hP hS (kv_s (by decide) (by decide)) (fun _ => rfl) b14 dX9_layOut_132 (fun H locs hP hS => ?_)
  obtain ⟨σ15, eσ15⟩ : ∃ z : ka_S, z = ka_wI σ13 (29, 0, 0) v7.toNatClampNeg v8 := ⟨_, rfl⟩
  rw [← eσ15] at hP
  have hq := hq σ15 eσ15
  refine lv_aload_n hx hb dX9_layOut_133 rfl (lv_at hl 0 rfl) ?_
  refine kg_X9_lineOf C0 hK hP (kv_s (by decide) (by decide)) kq_969 dX9_layOut_134 ?_
  refine lv_iload hx hb dX9_layOut_137 (lv_at hl 5 rfl) ?_
  refine lv_aload_n hx hb dX9_layOut_139 rfl (lv_at hl 0 rfl) ?_
  refine kg_X9_lines C0 hK hP (kv_s (by decide) (by decide)) kq_966 dX9_layOut_140 ?_
  refine lv_iconst (v := 1) hx hb dX9_layOut_143 (by decide) ?_
  refine lv_isub hx hb dX9_layOut_144 ?_
  obtain ⟨b16, hq⟩ := hq
  refine kr_iast C0 hK hI hP hS (kv_s (by decide) (by decide)) (fun _ => rfl) b16 dX9_layOut_145 (fun H locs hP hS => ?_)
  obtain ⟨σ17, eσ17⟩ : ∃ z : ka_S, z = ka_wI σ15 (27, 0, 0) v7.toNatClampNeg ((σ15.1 (25, 0, 0) 11) - (1 : Int32)) := ⟨_, rfl⟩
  rw [← eσ17] at hP
  have hq := hq σ17 eσ17
  refine lv_aload_n hx hb dX9_layOut_146 rfl (lv_at hl 0 rfl) ?_
  refine kg_X9_sentenceOf C0 hK hP (kv_s (by decide) (by decide)) kq_972 dX9_layOut_147 ?_
  refine lv_iload hx hb dX9_layOut_150 (lv_at hl 5 rfl) ?_
  refine lv_aload_n hx hb dX9_layOut_152 rfl (lv_at hl 0 rfl) ?_
  refine kg_X9_sentences C0 hK hP (kv_s (by decide) (by decide)) kq_968 dX9_layOut_153 ?_
  obtain ⟨b18, hq⟩ := hq
  refine kr_iast C0 hK hI hP hS (kv_s (by decide) (by decide)) (fun _ => rfl) b18 dX9_layOut_156 (fun H locs hP hS => ?_)
  obtain ⟨σ19, eσ19⟩ : ∃ z : ka_S, z = ka_wI σ17 (30, 0, 0) v7.toNatClampNeg (σ17.1 (25, 0, 0) 13) := ⟨_, rfl⟩
  rw [← eσ19] at hP
  have hq := hq σ19 eσ19
  refine lv_aload_n hx hb dX9_layOut_157 rfl (lv_at hl 0 rfl) ?_
  refine kg_X9_columnOf C0 hK hP (kv_s (by decide) (by decide)) kq_970 dX9_layOut_158 ?_
  refine lv_iload hx hb dX9_layOut_161 (lv_at hl 5 rfl) ?_
  obtain ⟨b20, hq⟩ := hq
  refine kr_iald C0 hK hP (kv_s (by decide) (by decide)) rfl b20 dX9_layOut_163 ?_
  refine lv_iload hx hb dX9_layOut_164 (lv_at hl 6 rfl) ?_
  refine lv_iadd hx hb dX9_layOut_166 ?_
  refine lv_topi (fun x21 ex21 => ?_)
  have hq := hq x21 ex21
  refine lv_istore (lv' := [(5, .int x21), (0, .ref (ka_a G (25, 0, 0))), (1, .ref (ka_a G a)), (2, .int v2), (3, .int v3), (6, .int v6), (7, .int v7), (8, .int v8)]) hx hb dX9_layOut_167 hl (by decide) rfl (fun ls hl => ?_)
  refine lv_aload_n hx hb dX9_layOut_169 rfl (lv_at hl 1 rfl) ?_
  refine kg_X9_lengthOf C0 hK hP (kv_s (by decide) (by decide)) kq_973 dX9_layOut_170 ?_
  refine lv_aload_n hx hb dX9_layOut_173 rfl (lv_at hl 1 rfl) ?_
  refine kg_X9_lines C0 hK hP (kv_s (by decide) (by decide)) kq_966 dX9_layOut_174 ?_
  refine lv_iconst (v := 1) hx hb dX9_layOut_177 (by decide) ?_
  refine lv_isub hx hb dX9_layOut_178 ?_
  refine lv_iload hx hb dX9_layOut_179 (lv_at hl 0 rfl) ?_
  obtain ⟨b22, hq⟩ := hq
  refine kr_iast C0 hK hI hP hS (kv_s (by decide) (by decide)) (fun _ => rfl) b22 dX9_layOut_181 (fun H locs hP hS => ?_)
  obtain ⟨σ23, eσ23⟩ : ∃ z : ka_S, z = ka_wI σ19 (31, 0, 0) ((σ19.1 (25, 0, 0) 11) - (1 : Int32)).toNatClampNeg x21 := ⟨_, rfl⟩
  rw [← eσ23] at hP
  have hq := hq σ23 eσ23
  refine lv_aload_n hx hb dX9_layOut_182 rfl (lv_at hl 2 rfl) ?_
  refine lv_iload hx hb dX9_layOut_183 (lv_at hl 6 rfl) ?_
  refine lv_iconst (v := 1) hx hb dX9_layOut_185 (by decide) ?_
  refine kr_Si (As := [.int v7, .int (1 : Int32)]) (rest := [.ref (ka_a G a)]) C0 hK hP hS hl (km_X9_cell l hI hq) kd_X9_cell kq_1102 ⟨rfl, rfl, Nat.le_of_ble_eq_true rfl, Nat.le_of_ble_eq_true rfl⟩ rfl (Nat.le_of_ble_eq_true rfl) dX9_layOut_186 ⟨Nat.zero_le _, Nat.zero_le _⟩ (fun r25 σ24 H locs hq hP hS => ?_)
  obtain ⟨b26, hq⟩ := hq
  refine kr_lald C0 hK hP ha.1 (ha.2 G _) b26 dX9_layOut_189 ?_
  refine lv_lconst (v := 1) hx hb dX9_layOut_190 (by decide) ?_
  refine kr_ceq (tgt := 206) C0 dX9_layOut_191 dX9_layOut_192 (by decide) (fun hc => ?_) (fun hc => ?_)
  · have hq := hq.1 hc
    exact kb_X9_layOut_206 hI ha C0 hK hk27 σ24 v2 v3 x21 v6 v7 hq H locs hP hS ls (lv_sub hl [1, 2, 3, 4, 0, 5, 6] rfl)
  · have hq := hq.2 hc
    refine lv_iload hx hb dX9_layOut_195 (lv_at hl 6 rfl) ?_
    refine lv_aload_n hx hb dX9_layOut_197 rfl (lv_at hl 2 rfl) ?_
    refine kr_Si (As := [.ref (ka_a G a)]) (rest := [.int v7]) C0 hK hP hS hl (km_X9_many l hI ha hq) kd_X9_many kq_1077 ⟨rfl, rfl, Nat.le_of_ble_eq_true rfl, Nat.le_of_ble_eq_true rfl⟩ rfl (Nat.le_of_ble_eq_true rfl) dX9_layOut_198 ⟨Nat.zero_le _, Nat.zero_le _⟩ (fun r28 σ27 H locs hq hP hS => ?_)
    refine lv_iconst (v := 1) hx hb dX9_layOut_201 (by decide) ?_
    refine lv_isub hx hb dX9_layOut_202 ?_
    refine lv_icmp_ne (tgt := 210) hx hb dX9_layOut_203 (by decide) (fun hc => ?_) (fun hc => ?_)
    · have hq := hq.2 hc
      refine lv_iconst (v := 0) hx hb dX9_layOut_210 (by decide) ?_
      exact kb_X9_layOut_211 hI ha C0 hK hk27 σ27 v2 v3 x21 v6 v7 (0 : Int32) hq H locs hP hS ls (lv_sub hl [1, 2, 3, 4, 0, 5, 6] rfl)
    · have hq := hq.1 hc
      exact kb_X9_layOut_206 hI ha C0 hK hk27 σ27 v2 v3 x21 v6 v7 hq H locs hP hS ls (lv_sub hl [1, 2, 3, 4, 0, 5, 6] rfl)
set_option maxHeartbeats 4000000 in
set_option maxRecDepth 100000 in
theorem kb_X9_layOut_106 {p : Program} {l : Launch} {e : Env} {s : State} {m : MethodId} {args : Array Value} {below : List Frame} {meth : Method} {c : Code} {G : ka_G} (hI : ka_I G) {a : ka_K} (ha : ka_L a) (C0 : ka_C p s m args meth c cX9_layOut 13 "GlossRowsModel" none) (hK : ka_Kn G s) {Q : ka_S → Prop} {K27 : ka_S → Int32 → Int32 → Int32 → Int32 → Int32 → Int32 → Prop} (hk27 : ∀ (σ : ka_S) (v2 : Int32) (v3 : Int32) (v4 : Int32) (v5 : Int32) (v6 : Int32) (v7 : Int32), K27 σ v2 v3 v4 v5 v6 v7 → ∀ (H : Heap) (locs : List Loc), ka_P G σ H → va_S (ka_A G) s.heap H locs → ∀ ls : Array Slot, lv_has ls 13 [(0, .ref (ka_a G (25, 0, 0))), (1, .ref (ka_a G a)), (2, .int v2), (3, .int v3), (4, .int v4), (5, .int v5), (6, .int v6), (7, .int v7)] → W p l e rm_X9_layOut s m args below meth c H locs 0 0 (MQ below (va_Qv Q (ka_B G) (ka_A G)) args s 0 0 (ka_A G)) (F0 m 27 ls [])) : ∀ (σ : ka_S) (v2 : Int32) (v3 : Int32) (v6 : Int32) (v7 : Int32) (v8 : Int32) (v9 : Int32) (v10 : Int32), kw_X9_layOut_106 a K27 Q σ v2 v3 v6 v7 v8 v9 v10 → ∀ (H : Heap) (locs : List Loc), ka_P G σ H → va_S (ka_A G) s.heap H locs → ∀ ls : Array Slot, lv_has ls 13 [(0, .ref (ka_a G (25, 0, 0))), (1, .ref (ka_a G a)), (2, .int v2), (3, .int v3), (6, .int v6), (7, .int v7), (8, .int v8), (9, .int v9), (10, .int v10)] → W p l e rm_X9_layOut s m args below meth c H locs 0 0 (MQ below (va_Qv Q (ka_B G) (ka_A G)) args s 0 0 (ka_A G)) (F0 m 106 ls []) := by
  obtain ⟨hx, hb, -, hml, hown, hts, -⟩ := id C0
  intro σ v2 v3 v6 v7 v8 v9 v10 hq H locs hP hS ls hl
  unfold kw_X9_layOut_106 at hq
  refine lv_aload_n hx hb dX9_layOut_106 rfl (lv_at hl 0 rfl) ?_
  refine kg_X9_columnOf C0 hK hP (kv_s (by decide) (by decide)) kq_970 dX9_layOut_107 ?_
  refine lv_iload hx hb dX9_layOut_110 (lv_at hl 5 rfl) ?_
  refine lv_iload hx hb dX9_layOut_112 (lv_at hl 8 rfl) ?_
  refine lv_if_eq (tgt := 122) hx hb dX9_layOut_114 (by decide) (fun hc => ?_) (fun hc => ?_)
  · have hq := hq.1 hc
    refine lv_iconst (v := 0) hx hb dX9_layOut_122 (by decide) ?_
    exact kb_X9_layOut_123 hI ha C0 hK hk27 σ v2 v3 v6 v7 v8 v7 (0 : Int32) hq H locs hP hS ls (lv_sub hl [0, 1, 2, 3, 4, 5, 6] rfl)
  · have hq := hq.2 hc
    refine lv_iload hx hb dX9_layOut_117 (lv_at hl 7 rfl) ?_
    refine lv_goto (tgt := 123) hx hb dX9_layOut_119 (by decide) ?_
    exact kb_X9_layOut_123 hI ha C0 hK hk27 σ v2 v3 v6 v7 v8 v7 v9 hq H locs hP hS ls (lv_sub hl [0, 1, 2, 3, 4, 5, 6] rfl)
set_option maxHeartbeats 4000000 in
set_option maxRecDepth 100000 in
theorem kb_X9_layOut_94 {p : Program} {l : Launch} {e : Env} {s : State} {m : MethodId} {args : Array Value} {below : List Frame} {meth : Method} {c : Code} {G : ka_G} (hI : ka_I G) {a : ka_K} (ha : ka_L a) (C0 : ka_C p s m args meth c cX9_layOut 13 "GlossRowsModel" none) (hK : ka_Kn G s) {Q : ka_S → Prop} {K27 : ka_S → Int32 → Int32 → Int32 → Int32 → Int32 → Int32 → Prop} (hk27 : ∀ (σ : ka_S) (v2 : Int32) (v3 : Int32) (v4 : Int32) (v5 : Int32) (v6 : Int32) (v7 : Int32), K27 σ v2 v3 v4 v5 v6 v7 → ∀ (H : Heap) (locs : List Loc), ka_P G σ H → va_S (ka_A G) s.heap H locs → ∀ ls : Array Slot, lv_has ls 13 [(0, .ref (ka_a G (25, 0, 0))), (1, .ref (ka_a G a)), (2, .int v2), (3, .int v3), (4, .int v4), (5, .int v5), (6, .int v6), (7, .int v7)] → W p l e rm_X9_layOut s m args below meth c H locs 0 0 (MQ below (va_Qv Q (ka_B G) (ka_A G)) args s 0 0 (ka_A G)) (F0 m 27 ls [])) : ∀ (σ : ka_S) (v2 : Int32) (v3 : Int32) (v7 : Int32) (v8 : Int32) (v9 : Int32) (v10 : Int32) (t0 : Int32), kw_X9_layOut_94 a K27 Q σ v2 v3 v7 v8 v9 v10 t0 → ∀ (H : Heap) (locs : List Loc), ka_P G σ H → va_S (ka_A G) s.heap H locs → ∀ ls : Array Slot, lv_has ls 13 [(0, .ref (ka_a G (25, 0, 0))), (1, .ref (ka_a G a)), (2, .int v2), (3, .int v3), (7, .int v7), (8, .int v8), (9, .int v9), (10, .int v10)] → W p l e rm_X9_layOut s m args below meth c H locs 0 0 (MQ below (va_Qv Q (ka_B G) (ka_A G)) args s 0 0 (ka_A G)) (F0 m 94 ls [.int t0]) := by
  obtain ⟨hx, hb, -, hml, hown, hts, -⟩ := id C0
  intro σ v2 v3 v7 v8 v9 v10 t0 hq H locs hP hS ls hl
  unfold kw_X9_layOut_94 at hq
  refine lv_istore (lv' := [(6, .int t0), (0, .ref (ka_a G (25, 0, 0))), (1, .ref (ka_a G a)), (2, .int v2), (3, .int v3), (7, .int v7), (8, .int v8), (9, .int v9), (10, .int v10)]) hx hb dX9_layOut_94 hl (by decide) rfl (fun ls hl => ?_)
  refine lv_aload_n hx hb dX9_layOut_96 rfl (lv_at hl 1 rfl) ?_
  refine lv_dup hx hb dX9_layOut_97 rfl ?_
  refine kg_X9_lines C0 hK hP (kv_s (by decide) (by decide)) kq_966 dX9_layOut_98 ?_
  refine lv_iconst (v := 1) hx hb dX9_layOut_101 (by decide) ?_
  refine lv_iadd hx hb dX9_layOut_102 ?_
  refine kp_X9_lines C0 hK hI hP hS (kv_s (by decide) (by decide)) kq_966 dX9_layOut_103 (fun H locs hP hS => ?_)
  obtain ⟨σ11, eσ11⟩ : ∃ z : ka_S, z = ka_wI σ (25, 0, 0) 11 ((σ.1 (25, 0, 0) 11) + (1 : Int32)) := ⟨_, rfl⟩
  rw [← eσ11] at hP
  have hq := hq σ11 eσ11
  exact kb_X9_layOut_106 hI ha C0 hK hk27 σ11 v2 v3 t0 v7 v8 v9 v10 hq H locs hP hS ls (lv_sub hl [1, 2, 3, 4, 0, 5, 6, 7, 8] rfl)
set_option maxHeartbeats 4000000 in
set_option maxRecDepth 100000 in
theorem kb_X9_layOut_73 {p : Program} {l : Launch} {e : Env} {s : State} {m : MethodId} {args : Array Value} {below : List Frame} {meth : Method} {c : Code} {G : ka_G} (hI : ka_I G) {a : ka_K} (ha : ka_L a) (C0 : ka_C p s m args meth c cX9_layOut 13 "GlossRowsModel" none) (hK : ka_Kn G s) {Q : ka_S → Prop} {K27 : ka_S → Int32 → Int32 → Int32 → Int32 → Int32 → Int32 → Prop} (hk27 : ∀ (σ : ka_S) (v2 : Int32) (v3 : Int32) (v4 : Int32) (v5 : Int32) (v6 : Int32) (v7 : Int32), K27 σ v2 v3 v4 v5 v6 v7 → ∀ (H : Heap) (locs : List Loc), ka_P G σ H → va_S (ka_A G) s.heap H locs → ∀ ls : Array Slot, lv_has ls 13 [(0, .ref (ka_a G (25, 0, 0))), (1, .ref (ka_a G a)), (2, .int v2), (3, .int v3), (4, .int v4), (5, .int v5), (6, .int v6), (7, .int v7)] → W p l e rm_X9_layOut s m args below meth c H locs 0 0 (MQ below (va_Qv Q (ka_B G) (ka_A G)) args s 0 0 (ka_A G)) (F0 m 27 ls [])) : ∀ (σ : ka_S) (v2 : Int32) (v3 : Int32) (v4 : Int32) (v6 : Int32) (v7 : Int32) (v8 : Int32) (v9 : Int32) (t0 : Int32), kw_X9_layOut_73 a K27 Q σ v2 v3 v4 v6 v7 v8 v9 t0 → ∀ (H : Heap) (locs : List Loc), ka_P G σ H → va_S (ka_A G) s.heap H locs → ∀ ls : Array Slot, lv_has ls 13 [(0, .ref (ka_a G (25, 0, 0))), (1, .ref (ka_a G a)), (2, .int v2), (3, .int v3), (4, .int v4), (6, .int v6), (7, .int v7), (8, .int v8), (9, .int v9)] → W p l e rm_X9_layOut s m args below meth c H locs 0 0 (MQ below (va_Qv Q (ka_B G) (ka_A G)) args s 0 0 (ka_A G)) (F0 m 73 ls [.int t0]) := by
  obtain ⟨hx, hb, -, hml, hown, hts, -⟩ := id C0
  intro σ v2 v3 v4 v6 v7 v8 v9 t0 hq H locs hP hS ls hl
  unfold kw_X9_layOut_73 at hq
  refine lv_istore (lv' := [(10, .int t0), (0, .ref (ka_a G (25, 0, 0))), (1, .ref (ka_a G a)), (2, .int v2), (3, .int v3), (4, .int v4), (6, .int v6), (7, .int v7), (8, .int v8), (9, .int v9)]) hx hb dX9_layOut_73 hl (by decide) rfl (fun ls hl => ?_)
  refine lv_iload hx hb dX9_layOut_75 (lv_at hl 0 rfl) ?_
  refine lv_if_ne (tgt := 106) hx hb dX9_layOut_77 (by decide) (fun hc => ?_) (fun hc => ?_)
  · have hq := hq.2 hc
    exact kb_X9_layOut_106 hI ha C0 hK hk27 σ v2 v3 v6 v7 v8 v9 t0 hq H locs hP hS ls (lv_sub hl [1, 2, 3, 4, 6, 7, 8, 9, 0] rfl)
  · have hq := hq.1 hc
    refine lv_iload hx hb dX9_layOut_80 (lv_at hl 5 rfl) ?_
    refine lv_if_eq (tgt := 92) hx hb dX9_layOut_82 (by decide) (fun hc => ?_) (fun hc => ?_)
    · have hq := hq.1 hc
      refine lv_iload hx hb dX9_layOut_92 (lv_at hl 6 rfl) ?_
      exact kb_X9_layOut_94 hI ha C0 hK hk27 σ v2 v3 v7 v8 v9 t0 v6 hq H locs hP hS ls (lv_sub hl [1, 2, 3, 4, 7, 8, 9, 0] rfl)
    · have hq := hq.2 hc
      refine lv_aload_n hx hb dX9_layOut_85 rfl (lv_at hl 1 rfl) ?_
      refine kg_X9_lines C0 hK hP (kv_s (by decide) (by decide)) kq_966 dX9_layOut_86 ?_
      refine lv_goto (tgt := 94) hx hb dX9_layOut_89 (by decide) ?_
      exact kb_X9_layOut_94 hI ha C0 hK hk27 σ v2 v3 v7 v8 v9 t0 (σ.1 (25, 0, 0) 11) hq H locs hP hS ls (lv_sub hl [1, 2, 3, 4, 7, 8, 9, 0] rfl)
set_option maxHeartbeats 4000000 in
set_option maxRecDepth 100000 in
theorem kb_X9_layOut_72 {p : Program} {l : Launch} {e : Env} {s : State} {m : MethodId} {args : Array Value} {below : List Frame} {meth : Method} {c : Code} {G : ka_G} (hI : ka_I G) {a : ka_K} (ha : ka_L a) (C0 : ka_C p s m args meth c cX9_layOut 13 "GlossRowsModel" none) (hK : ka_Kn G s) {Q : ka_S → Prop} {K27 : ka_S → Int32 → Int32 → Int32 → Int32 → Int32 → Int32 → Prop} (hk27 : ∀ (σ : ka_S) (v2 : Int32) (v3 : Int32) (v4 : Int32) (v5 : Int32) (v6 : Int32) (v7 : Int32), K27 σ v2 v3 v4 v5 v6 v7 → ∀ (H : Heap) (locs : List Loc), ka_P G σ H → va_S (ka_A G) s.heap H locs → ∀ ls : Array Slot, lv_has ls 13 [(0, .ref (ka_a G (25, 0, 0))), (1, .ref (ka_a G a)), (2, .int v2), (3, .int v3), (4, .int v4), (5, .int v5), (6, .int v6), (7, .int v7)] → W p l e rm_X9_layOut s m args below meth c H locs 0 0 (MQ below (va_Qv Q (ka_B G) (ka_A G)) args s 0 0 (ka_A G)) (F0 m 27 ls [])) : ∀ (σ : ka_S) (v2 : Int32) (v3 : Int32) (v4 : Int32) (v6 : Int32) (v7 : Int32) (v8 : Int32) (v9 : Int32), kw_X9_layOut_72 a K27 Q σ v2 v3 v4 v6 v7 v8 v9 → ∀ (H : Heap) (locs : List Loc), ka_P G σ H → va_S (ka_A G) s.heap H locs → ∀ ls : Array Slot, lv_has ls 13 [(0, .ref (ka_a G (25, 0, 0))), (1, .ref (ka_a G a)), (2, .int v2), (3, .int v3), (4, .int v4), (6, .int v6), (7, .int v7), (8, .int v8), (9, .int v9)] → W p l e rm_X9_layOut s m args below meth c H locs 0 0 (MQ below (va_Qv Q (ka_B G) (ka_A G)) args s 0 0 (ka_A G)) (F0 m 72 ls []) := by
  obtain ⟨hx, hb, -, hml, hown, hts, -⟩ := id C0
  intro σ v2 v3 v4 v6 v7 v8 v9 hq H locs hP hS ls hl
  unfold kw_X9_layOut_72 at hq
  refine lv_iconst (v := 0) hx hb dX9_layOut_72 (by decide) ?_
  exact kb_X9_layOut_73 hI ha C0 hK hk27 σ v2 v3 v4 v6 v7 v8 v9 (0 : Int32) hq H locs hP hS ls (lv_sub hl [0, 1, 2, 3, 4, 5, 6, 7, 8] rfl)
set_option maxHeartbeats 4000000 in
set_option maxRecDepth 100000 in
theorem kb_X9_layOut_27 {p : Program} {l : Launch} {e : Env} {s : State} {m : MethodId} {args : Array Value} {below : List Frame} {meth : Method} {c : Code} {G : ka_G} (hI : ka_I G) {a : ka_K} (ha : ka_L a) (C0 : ka_C p s m args meth c cX9_layOut 13 "GlossRowsModel" none) (hK : ka_Kn G s) {Q : ka_S → Prop} : ∀ (n : Nat) (σ : ka_S) (v2 : Int32) (v3 : Int32) (v4 : Int32) (v5 : Int32) (v6 : Int32) (v7 : Int32), kw_X9_layOut_27 a Q n σ v2 v3 v4 v5 v6 v7 → ∀ (H : Heap) (locs : List Loc), ka_P G σ H → va_S (ka_A G) s.heap H locs → ∀ ls : Array Slot, lv_has ls 13 [(0, .ref (ka_a G (25, 0, 0))), (1, .ref (ka_a G a)), (2, .int v2), (3, .int v3), (4, .int v4), (5, .int v5), (6, .int v6), (7, .int v7)] → W p l e rm_X9_layOut s m args below meth c H locs 0 0 (MQ below (va_Qv Q (ka_B G) (ka_A G)) args s 0 0 (ka_A G)) (F0 m 27 ls []) := by
  obtain ⟨hx, hb, -, hml, hown, hts, -⟩ := id C0
  intro n
  induction n with
  | zero =>
    intro σ v2 v3 v4 v5 v6 v7 hq
    rw [kw_X9_layOut_27] at hq
    exact hq.elim
  | succ n ih =>
    intro σ v2 v3 v4 v5 v6 v7 hq H locs hP hS ls hl
    rw [kw_X9_layOut_27] at hq
    refine lv_iload hx hb dX9_layOut_27 (lv_at hl 7 rfl) ?_
    refine lv_aload_n hx hb dX9_layOut_29 rfl (lv_at hl 1 rfl) ?_
    refine kr_Si (As := [.ref (ka_a G a)]) (rest := [.int v7]) C0 hK hP hS hl (km_X9_many l hI ha hq) kd_X9_many kq_1077 ⟨rfl, rfl, Nat.le_of_ble_eq_true rfl, Nat.le_of_ble_eq_true rfl⟩ rfl (Nat.le_of_ble_eq_true rfl) dX9_layOut_30 ⟨Nat.zero_le _, Nat.zero_le _⟩ (fun r6 σ5 H locs hq hP hS => ?_)
    refine lv_icmp_ge (tgt := 308) hx hb dX9_layOut_33 (by decide) (fun hc => ?_) (fun hc => ?_)
    · have hq := hq.1 hc
      exact kr_vret C0 hK hP hS hq dX9_layOut_308
    · have hq := hq.2 hc
      refine lv_aload_n hx hb dX9_layOut_36 rfl (lv_at hl 1 rfl) ?_
      refine lv_iload hx hb dX9_layOut_37 (lv_at hl 7 rfl) ?_
      refine lv_iload_n hx hb dX9_layOut_39 rfl (lv_at hl 3 rfl) ?_
      refine kr_Si (As := [.ref (ka_a G a), .int v7, .int v3]) (rest := []) C0 hK hP hS hl (km_X9_wide l hI ha hq) kd_X9_wide kq_1096 ⟨rfl, rfl, Nat.le_of_ble_eq_true rfl, Nat.le_of_ble_eq_true rfl⟩ rfl (Nat.le_of_ble_eq_true rfl) dX9_layOut_40 ⟨Nat.zero_le _, Nat.zero_le _⟩ (fun r8 σ7 H locs hq hP hS => ?_)
      refine lv_istore (lv' := [(8, .int r8), (0, .ref (ka_a G (25, 0, 0))), (1, .ref (ka_a G a)), (2, .int v2), (3, .int v3), (4, .int v4), (5, .int v5), (6, .int v6), (7, .int v7)]) hx hb dX9_layOut_43 hl (by decide) rfl (fun ls hl => ?_)
      refine lv_iload hx hb dX9_layOut_45 (lv_at hl 6 rfl) ?_
      refine lv_aload_n hx hb dX9_layOut_47 rfl (lv_at hl 2 rfl) ?_
      refine lv_iconst (v := 3) hx hb dX9_layOut_48 (by decide) ?_
      obtain ⟨b9, hq⟩ := hq
      refine kr_lald C0 hK hP ha.1 (ha.2 G _) b9 dX9_layOut_49 ?_
      refine lv_l2i hx hb dX9_layOut_50 rfl ?_
      refine lv_iadd hx hb dX9_layOut_51 ?_
      refine lv_topi (fun x10 ex10 => ?_)
      have hq := hq x10 ex10
      refine lv_istore (lv' := [(9, .int x10), (8, .int r8), (0, .ref (ka_a G (25, 0, 0))), (1, .ref (ka_a G a)), (2, .int v2), (3, .int v3), (4, .int v4), (5, .int v5), (6, .int v6), (7, .int v7)]) hx hb dX9_layOut_52 hl (by decide) rfl (fun ls hl => ?_)
      refine lv_iload hx hb dX9_layOut_54 (lv_at hl 6 rfl) ?_
      refine lv_if_ne (tgt := 72) hx hb dX9_layOut_56 (by decide) (fun hc => ?_) (fun hc => ?_)
      · have hq := hq.2 hc
        exact kb_X9_layOut_72 hI ha C0 hK ih σ7 v2 v3 v4 v6 v7 r8 x10 hq H locs hP hS ls (lv_sub hl [2, 3, 4, 5, 6, 8, 9, 1, 0] rfl)
      · have hq := hq.1 hc
        refine lv_iload hx hb dX9_layOut_59 (lv_at hl 0 rfl) ?_
        refine lv_iload hx hb dX9_layOut_61 (lv_at hl 1 rfl) ?_
        refine lv_iadd hx hb dX9_layOut_63 ?_
        refine lv_iload_n hx hb dX9_layOut_64 rfl (lv_at hl 4 rfl) ?_
        refine lv_icmp_gt (tgt := 72) hx hb dX9_layOut_65 (by decide) (fun hc => ?_) (fun hc => ?_)
        · have hq := hq.1 hc
          exact kb_X9_layOut_72 hI ha C0 hK ih σ7 v2 v3 v4 v6 v7 r8 x10 hq H locs hP hS ls (lv_sub hl [2, 3, 4, 5, 6, 8, 9, 1, 0] rfl)
        · have hq := hq.2 hc
          refine lv_iconst (v := 1) hx hb dX9_layOut_68 (by decide) ?_
          refine lv_goto (tgt := 73) hx hb dX9_layOut_69 (by decide) ?_
          exact kb_X9_layOut_73 hI ha C0 hK ih σ7 v2 v3 v4 v6 v7 r8 x10 (1 : Int32) hq H locs hP hS ls (lv_sub hl [2, 3, 4, 5, 6, 8, 9, 1, 0] rfl)
set_option maxHeartbeats 4000000 in
set_option maxRecDepth 100000 in
theorem km_X9_layOut (l : Launch) {G : ka_G} (hI : ka_I G) {a : ka_K} (ha : ka_L a) {σ : ka_S} {v2 : Int32} {v3 : Int32} {Q : ka_S → Prop} (hq : kw_X9_layOut σ a v2 v3 Q) : kc_v l yX9_layOut (kw_ yX9_layOut cX9_layOut 13 none) rm_X9_layOut G [.ref (ka_a G (25, 0, 0)), .ref (ka_a G a), .int v2, .int v3] σ Q := by
  refine ka_of "GlossRowsModel" rfl (by decide) (Nat.le_of_ble_eq_true rfl) ?_
  intro p e s m below meth c C0 hK H locs hP hS ls hl
  obtain ⟨hx, hb, -, hml, hown, hts, -⟩ := id C0
  have hl : lv_has ls 13 [(0, .ref (ka_a G (25, 0, 0))), (1, .ref (ka_a G a)), (2, .int v2), (3, .int v3)] := hl
  unfold kw_X9_layOut at hq
  refine lv_aload_n hx hb dX9_layOut_0 rfl (lv_at hl 0 rfl) ?_
  refine lv_iconst (v := 0) hx hb dX9_layOut_1 (by decide) ?_
  refine kp_X9_lines C0 hK hI hP hS (kv_s (by decide) (by decide)) kq_966 dX9_layOut_2 (fun H locs hP hS => ?_)
  obtain ⟨σ1, eσ1⟩ : ∃ z : ka_S, z = ka_wI σ (25, 0, 0) 11 (0 : Int32) := ⟨_, rfl⟩
  rw [← eσ1] at hP
  have hq := hq σ1 eσ1
  refine lv_aload_n hx hb dX9_layOut_5 rfl (lv_at hl 0 rfl) ?_
  refine lv_iconst (v := 0) hx hb dX9_layOut_6 (by decide) ?_
  refine kp_X9_rows C0 hK hI hP hS (kv_s (by decide) (by decide)) kq_967 dX9_layOut_7 (fun H locs hP hS => ?_)
  obtain ⟨σ2, eσ2⟩ : ∃ z : ka_S, z = ka_wI σ1 (25, 0, 0) 12 (0 : Int32) := ⟨_, rfl⟩
  rw [← eσ2] at hP
  have hq := hq σ2 eσ2
  refine lv_aload_n hx hb dX9_layOut_10 rfl (lv_at hl 0 rfl) ?_
  refine lv_iconst (v := 0) hx hb dX9_layOut_11 (by decide) ?_
  refine kp_X9_sentences C0 hK hI hP hS (kv_s (by decide) (by decide)) kq_968 dX9_layOut_12 (fun H locs hP hS => ?_)
  obtain ⟨σ3, eσ3⟩ : ∃ z : ka_S, z = ka_wI σ2 (25, 0, 0) 13 (0 : Int32) := ⟨_, rfl⟩
  rw [← eσ3] at hP
  have hq := hq σ3 eσ3
  refine lv_iconst (v := 1) hx hb dX9_layOut_15 (by decide) ?_
  refine lv_istore (lv' := [(4, .int (1 : Int32)), (0, .ref (ka_a G (25, 0, 0))), (1, .ref (ka_a G a)), (2, .int v2), (3, .int v3)]) hx hb dX9_layOut_16 hl (by decide) rfl (fun ls hl => ?_)
  refine lv_iconst (v := 0) hx hb dX9_layOut_18 (by decide) ?_
  refine lv_istore (lv' := [(5, .int (0 : Int32)), (4, .int (1 : Int32)), (0, .ref (ka_a G (25, 0, 0))), (1, .ref (ka_a G a)), (2, .int v2), (3, .int v3)]) hx hb dX9_layOut_19 hl (by decide) rfl (fun ls hl => ?_)
  refine lv_iconst (v := 0) hx hb dX9_layOut_21 (by decide) ?_
  refine lv_istore (lv' := [(6, .int (0 : Int32)), (5, .int (0 : Int32)), (4, .int (1 : Int32)), (0, .ref (ka_a G (25, 0, 0))), (1, .ref (ka_a G a)), (2, .int v2), (3, .int v3)]) hx hb dX9_layOut_22 hl (by decide) rfl (fun ls hl => ?_)
  refine lv_iconst (v := 0) hx hb dX9_layOut_24 (by decide) ?_
  refine lv_istore (lv' := [(7, .int (0 : Int32)), (6, .int (0 : Int32)), (5, .int (0 : Int32)), (4, .int (1 : Int32)), (0, .ref (ka_a G (25, 0, 0))), (1, .ref (ka_a G a)), (2, .int v2), (3, .int v3)]) hx hb dX9_layOut_25 hl (by decide) rfl (fun ls hl => ?_)
  obtain ⟨n4, hq⟩ := hq
  exact kb_X9_layOut_27 hI ha C0 hK n4 σ3 v2 v3 (1 : Int32) (0 : Int32) (0 : Int32) (0 : Int32) hq H locs hP hS ls (lv_sub hl [4, 5, 6, 7, 3, 2, 1, 0] rfl)
/-! GlossRowsModel.rowsOf([J)I -/
def rm_X9_rowsOf : Room := { frames := 5, cells := 0, slots := 0, locals := 127 }
def kw_X9_rowsOf (σ : ka_S) (a : ka_K) (Q : Int32 → ka_S → Prop) : Prop := vp_in (2 : Int32) (ka_n a) ∧
  vp_in (4 : Int32) (ka_n a) ∧
  kw_X9_layOut σ a ((σ.2 a (2 : Int32).toNatClampNeg).toInt32) ((σ.2 a (4 : Int32).toNatClampNeg).toInt32) (fun σ3 => 
  Q (σ3.1 (25, 0, 0) 12) σ3)
set_option maxHeartbeats 4000000 in
set_option maxRecDepth 100000 in
theorem km_X9_rowsOf (l : Launch) {G : ka_G} (hI : ka_I G) {a : ka_K} (ha : ka_L a) {σ : ka_S} {Q : Int32 → ka_S → Prop} (hq : kw_X9_rowsOf σ a Q) : kc_i l yX9_rowsOf (kw_ yX9_rowsOf cX9_rowsOf 2 (some .int)) rm_X9_rowsOf G [.ref (ka_a G (25, 0, 0)), .ref (ka_a G a)] σ Q := by
  refine ka_of "GlossRowsModel" rfl (by decide) (Nat.le_of_ble_eq_true rfl) ?_
  intro p e s m below meth c C0 hK H locs hP hS ls hl
  obtain ⟨hx, hb, -, hml, hown, hts, -⟩ := id C0
  have hl : lv_has ls 2 [(0, .ref (ka_a G (25, 0, 0))), (1, .ref (ka_a G a))] := hl
  unfold kw_X9_rowsOf at hq
  refine lv_aload_n hx hb dX9_rowsOf_0 rfl (lv_at hl 0 rfl) ?_
  refine lv_aload_n hx hb dX9_rowsOf_1 rfl (lv_at hl 1 rfl) ?_
  refine lv_aload_n hx hb dX9_rowsOf_2 rfl (lv_at hl 1 rfl) ?_
  refine lv_iconst (v := 2) hx hb dX9_rowsOf_3 (by decide) ?_
  obtain ⟨b1, hq⟩ := hq
  refine kr_lald C0 hK hP ha.1 (ha.2 G _) b1 dX9_rowsOf_4 ?_
  refine lv_l2i hx hb dX9_rowsOf_5 rfl ?_
  refine lv_aload_n hx hb dX9_rowsOf_6 rfl (lv_at hl 1 rfl) ?_
  refine lv_iconst (v := 4) hx hb dX9_rowsOf_7 (by decide) ?_
  obtain ⟨b2, hq⟩ := hq
  refine kr_lald C0 hK hP ha.1 (ha.2 G _) b2 dX9_rowsOf_8 ?_
  refine lv_l2i hx hb dX9_rowsOf_9 rfl ?_
  refine kr_Vv (k := (25, 0, 0)) (As := [.ref (ka_a G a), .int ((σ.2 a (2 : Int32).toNatClampNeg).toInt32), .int ((σ.2 a (4 : Int32).toNatClampNeg).toInt32)]) (rest := []) C0 hK hP hS hl (km_X9_layOut l hI ha hq) kd_X9_layOut kq_1092 (kv_s (by decide) (by decide)) rfl rfl rfl ⟨rfl, rfl, Nat.le_of_ble_eq_true rfl, Nat.le_of_ble_eq_true rfl⟩ rfl (Nat.le_of_ble_eq_true rfl) dX9_rowsOf_10 ⟨Nat.zero_le _, Nat.zero_le _⟩ (fun σ3 H locs hq hP hS => ?_)
  refine lv_aload_n hx hb dX9_rowsOf_13 rfl (lv_at hl 0 rfl) ?_
  refine kg_X9_rows C0 hK hP (kv_s (by decide) (by decide)) kq_967 dX9_rowsOf_14 ?_
  exact kr_iret C0 hK hP hS hq dX9_rowsOf_17
/-! GlossRowsModel.sentencesOf([J)I -/
def rm_X9_sentencesOf : Room := { frames := 5, cells := 0, slots := 0, locals := 127 }
def kw_X9_sentencesOf (σ : ka_S) (a : ka_K) (Q : Int32 → ka_S → Prop) : Prop := vp_in (2 : Int32) (ka_n a) ∧
  vp_in (4 : Int32) (ka_n a) ∧
  kw_X9_layOut σ a ((σ.2 a (2 : Int32).toNatClampNeg).toInt32) ((σ.2 a (4 : Int32).toNatClampNeg).toInt32) (fun σ3 => 
  Q (σ3.1 (25, 0, 0) 13) σ3)
set_option maxHeartbeats 4000000 in
set_option maxRecDepth 100000 in
theorem km_X9_sentencesOf (l : Launch) {G : ka_G} (hI : ka_I G) {a : ka_K} (ha : ka_L a) {σ : ka_S} {Q : Int32 → ka_S → Prop} (hq : kw_X9_sentencesOf σ a Q) : kc_i l yX9_sentencesOf (kw_ yX9_sentencesOf cX9_sentencesOf 2 (some .int)) rm_X9_sentencesOf G [.ref (ka_a G (25, 0, 0)), .ref (ka_a G a)] σ Q := by
  refine ka_of "GlossRowsModel" rfl (by decide) (Nat.le_of_ble_eq_true rfl) ?_
  intro p e s m below meth c C0 hK H locs hP hS ls hl
  obtain ⟨hx, hb, -, hml, hown, hts, -⟩ := id C0
  have hl : lv_has ls 2 [(0, .ref (ka_a G (25, 0, 0))), (1, .ref (ka_a G a))] := hl
  unfold kw_X9_sentencesOf at hq
  refine lv_aload_n hx hb dX9_sentencesOf_0 rfl (lv_at hl 0 rfl) ?_
  refine lv_aload_n hx hb dX9_sentencesOf_1 rfl (lv_at hl 1 rfl) ?_
  refine lv_aload_n hx hb dX9_sentencesOf_2 rfl (lv_at hl 1 rfl) ?_
  refine lv_iconst (v := 2) hx hb dX9_sentencesOf_3 (by decide) ?_
  obtain ⟨b1, hq⟩ := hq
  refine kr_lald C0 hK hP ha.1 (ha.2 G _) b1 dX9_sentencesOf_4 ?_
  refine lv_l2i hx hb dX9_sentencesOf_5 rfl ?_
  refine lv_aload_n hx hb dX9_sentencesOf_6 rfl (lv_at hl 1 rfl) ?_
  refine lv_iconst (v := 4) hx hb dX9_sentencesOf_7 (by decide) ?_
  obtain ⟨b2, hq⟩ := hq
  refine kr_lald C0 hK hP ha.1 (ha.2 G _) b2 dX9_sentencesOf_8 ?_
  refine lv_l2i hx hb dX9_sentencesOf_9 rfl ?_
  refine kr_Vv (k := (25, 0, 0)) (As := [.ref (ka_a G a), .int ((σ.2 a (2 : Int32).toNatClampNeg).toInt32), .int ((σ.2 a (4 : Int32).toNatClampNeg).toInt32)]) (rest := []) C0 hK hP hS hl (km_X9_layOut l hI ha hq) kd_X9_layOut kq_1092 (kv_s (by decide) (by decide)) rfl rfl rfl ⟨rfl, rfl, Nat.le_of_ble_eq_true rfl, Nat.le_of_ble_eq_true rfl⟩ rfl (Nat.le_of_ble_eq_true rfl) dX9_sentencesOf_10 ⟨Nat.zero_le _, Nat.zero_le _⟩ (fun σ3 H locs hq hP hS => ?_)
  refine lv_aload_n hx hb dX9_sentencesOf_13 rfl (lv_at hl 0 rfl) ?_
  refine kg_X9_sentences C0 hK hP (kv_s (by decide) (by decide)) kq_968 dX9_sentencesOf_14 ?_
  exact kr_iret C0 hK hP hS hq dX9_sentencesOf_17
/-! GlossRowsModel.freeChar([JII)I -/
def rm_X9_freeChar : Room := { frames := 1, cells := 0, slots := 0, locals := 21 }
def kw_X9_freeChar (σ : ka_S) (a : ka_K) (v1 : Int32) (v2 : Int32) (Q : Int32 → ka_S → Prop) : Prop := kw_X9_cell σ v1 ((3 : Int32) + (v2 / (8 : Int32))) (fun r2 σ1 => 
  vp_in r2 (ka_n a) ∧
  Q ((((σ1.2 a r2.toNatClampNeg) >>> (((7 : Int32) * (v2 - v2 / (8 : Int32) * (8 : Int32))).toInt64 &&& 63)) &&& (127 : Int64)).toInt32) σ1)
set_option maxHeartbeats 4000000 in
set_option maxRecDepth 100000 in
theorem km_X9_freeChar (l : Launch) {G : ka_G} (hI : ka_I G) {a : ka_K} (ha : ka_L a) {σ : ka_S} {v1 : Int32} {v2 : Int32} {Q : Int32 → ka_S → Prop} (hq : kw_X9_freeChar σ a v1 v2 Q) : kc_i l yX9_freeChar (kw_ yX9_freeChar cX9_freeChar 3 (some .int)) rm_X9_freeChar G [.ref (ka_a G a), .int v1, .int v2] σ Q := by
  refine ka_of "GlossRowsModel" rfl (by decide) (Nat.le_of_ble_eq_true rfl) ?_
  intro p e s m below meth c C0 hK H locs hP hS ls hl
  obtain ⟨hx, hb, -, hml, hown, hts, -⟩ := id C0
  have hl : lv_has ls 3 [(0, .ref (ka_a G a)), (1, .int v1), (2, .int v2)] := hl
  unfold kw_X9_freeChar at hq
  refine lv_aload_n hx hb dX9_freeChar_0 rfl (lv_at hl 0 rfl) ?_
  refine lv_iload_n hx hb dX9_freeChar_1 rfl (lv_at hl 1 rfl) ?_
  refine lv_iconst (v := 3) hx hb dX9_freeChar_2 (by decide) ?_
  refine lv_iload_n hx hb dX9_freeChar_3 rfl (lv_at hl 2 rfl) ?_
  refine lv_bipush (v := 8) hx hb dX9_freeChar_4 (by decide) ?_
  refine lv_idiv hx hb dX9_freeChar_6 (by decide) ?_
  refine lv_iadd hx hb dX9_freeChar_7 ?_
  refine kr_Si (As := [.int v1, .int ((3 : Int32) + (v2 / (8 : Int32)))]) (rest := [.ref (ka_a G a)]) C0 hK hP hS hl (km_X9_cell l hI hq) kd_X9_cell kq_1102 ⟨rfl, rfl, Nat.le_of_ble_eq_true rfl, Nat.le_of_ble_eq_true rfl⟩ rfl (Nat.le_of_ble_eq_true rfl) dX9_freeChar_8 ⟨Nat.zero_le _, Nat.zero_le _⟩ (fun r2 σ1 H locs hq hP hS => ?_)
  obtain ⟨b3, hq⟩ := hq
  refine kr_lald C0 hK hP ha.1 (ha.2 G _) b3 dX9_freeChar_11 ?_
  refine lv_bipush (v := 7) hx hb dX9_freeChar_12 (by decide) ?_
  refine lv_iload_n hx hb dX9_freeChar_14 rfl (lv_at hl 2 rfl) ?_
  refine lv_bipush (v := 8) hx hb dX9_freeChar_15 (by decide) ?_
  refine lv_irem hx hb dX9_freeChar_17 (by decide) ?_
  refine lv_imul hx hb dX9_freeChar_18 ?_
  refine lv_lshr hx hb dX9_freeChar_19 rfl ?_
  refine lv_ldc2 hx hb hown (hts _ kq_1199) dX9_freeChar_20 ?_
  refine lv_land hx hb dX9_freeChar_23 ?_
  refine lv_l2i hx hb dX9_freeChar_24 rfl ?_
  exact kr_iret C0 hK hP hS hq dX9_freeChar_25
/-! GlossRowsModel.shown([JIZII)I -/
def rm_X9_shown : Room := { frames := 3, cells := 0, slots := 0, locals := 66 }
def kw_X9_shown_159 (a : ka_K) (Q : Int32 → ka_S → Prop) (σ : ka_S) (v4 : Int32) (v5 : Int32) (v11 : Int64) : Prop := kw_X9_letterOf σ v11 (v4 - v5) (fun r26 σ25 => 
  Q r26 σ25)
def kw_X9_shown_141 (a : ka_K) (Q : Int32 → ka_S → Prop) (σ : ka_S) (v2 : Int32) (v4 : Int32) (v5 : Int32) (t0 : Int64) : Prop := (v2 = (0 : Int32) → kw_X9_shown_159 a Q σ v4 v5 t0) ∧
  (¬ v2 = (0 : Int32) → (t0 = (0 : Int64) → Q (42 : Int32) σ) ∧
    (¬ t0 = (0 : Int64) → kw_X9_shown_159 a Q σ v4 v5 t0))
def kw_X9_shown_101 (a : ka_K) (K6 : ka_S → Int32 → Int32 → Int32 → Int32 → Int32 → Int32 → Prop) (Q : Int32 → ka_S → Prop) (σ : ka_S) (v1 : Int32) (v2 : Int32) (v3 : Int32) (v4 : Int32) (v5 : Int32) (v6 : Int32) (v9 : Int32) (v10 : Int32) : Prop := (v4 < v5 → ∀ x15 : Int32, x15 = (v5 + v10) → 
    ∀ x16 : Int32, x16 = v6 + (1 : Int32) →
    K6 σ v1 v2 v3 v4 x15 x16) ∧
  (¬ v4 < v5 → ((v5 + v9) ≤ v4 → ∀ x17 : Int32, x17 = (v5 + v10) → 
      ∀ x18 : Int32, x18 = v6 + (1 : Int32) →
      K6 σ v1 v2 v3 v4 x17 x18) ∧
    (¬ (v5 + v9) ≤ v4 → (v2 = (0 : Int32) → kw_X9_partAt σ v1 v6 (fun r20 σ19 => 
        vp_in r20 (ka_n a) ∧
        kw_X9_shown_141 a Q σ19 v2 v4 v5 (σ19.2 a r20.toNatClampNeg))) ∧
      (¬ v2 = (0 : Int32) → kw_X9_glossAt σ v1 v6 (fun r23 σ22 => 
        vp_in r23 (ka_n a) ∧
        kw_X9_shown_141 a Q σ22 v2 v4 v5 (σ22.2 a r23.toNatClampNeg)))))
def kw_X9_shown_74 (a : ka_K) (K6 : ka_S → Int32 → Int32 → Int32 → Int32 → Int32 → Int32 → Prop) (Q : Int32 → ka_S → Prop) (σ : ka_S) (v1 : Int32) (v2 : Int32) (v3 : Int32) (v4 : Int32) (v5 : Int32) (v6 : Int32) (v9 : Int32) (t0 : Int32) : Prop := (v6 ≤ (0 : Int32) → kw_X9_shown_101 a K6 Q σ v1 v2 v3 v4 v5 v6 v9 t0) ∧
  (¬ v6 ≤ (0 : Int32) → (v4 = v5 → kw_X9_mark σ v1 v6 (fun r13 σ12 => 
      vp_in r13 (ka_n a) ∧
      Q ((σ12.2 a r13.toNatClampNeg).toInt32) σ12)) ∧
    (¬ v4 = v5 → ∀ x11 : Int32, x11 = v5 + (1 : Int32) →
      kw_X9_shown_101 a K6 Q σ v1 v2 v3 v4 x11 v6 v9 t0))
def kw_X9_shown_49 (a : ka_K) (K6 : ka_S → Int32 → Int32 → Int32 → Int32 → Int32 → Int32 → Prop) (Q : Int32 → ka_S → Prop) (σ : ka_S) (v1 : Int32) (v2 : Int32) (v3 : Int32) (v4 : Int32) (v5 : Int32) (v6 : Int32) (v7 : Int32) (v8 : Int32) (t0 : Int32) : Prop := (v3 = (0 : Int32) → kw_X9_shown_74 a K6 Q σ v1 v2 v3 v4 v5 v6 t0 t0) ∧
  (¬ v3 = (0 : Int32) → (v7 ≤ v8 → kw_X9_shown_74 a K6 Q σ v1 v2 v3 v4 v5 v6 t0 v8) ∧
    (¬ v7 ≤ v8 → kw_X9_shown_74 a K6 Q σ v1 v2 v3 v4 v5 v6 t0 v7))
def kw_X9_shown_6 (a : ka_K) (Q : Int32 → ka_S → Prop) : Nat → ka_S → Int32 → Int32 → Int32 → Int32 → Int32 → Int32 → Prop
  | 0, _, _, _, _, _, _, _ => False
  | n + 1, σ, v1, v2, v3, v4, v5, v6 => kw_X9_parts σ a v1 (fun r3 σ2 => 
    (r3 ≤ v6 → Q (32 : Int32) σ2) ∧
    (¬ r3 ≤ v6 → kw_X9_partAt σ2 v1 v6 (fun r5 σ4 => 
      vp_in r5 (ka_n a) ∧
      kw_X9_lettersOf σ4 (σ4.2 a r5.toNatClampNeg) (fun r8 σ7 => 
      kw_X9_shownLength σ7 a v1 v6 (fun r10 σ9 => 
      (v2 = (0 : Int32) → kw_X9_shown_49 a (kw_X9_shown_6 a Q n) Q σ9 v1 v2 v3 v4 v5 v6 r8 r10 r8) ∧
      (¬ v2 = (0 : Int32) → kw_X9_shown_49 a (kw_X9_shown_6 a Q n) Q σ9 v1 v2 v3 v4 v5 v6 r8 r10 r10))))))
def kw_X9_shown (σ : ka_S) (a : ka_K) (v1 : Int32) (v2 : Int32) (v3 : Int32) (v4 : Int32) (Q : Int32 → ka_S → Prop) : Prop := ∃ n1 : Nat, kw_X9_shown_6 a Q n1 σ v1 v2 v3 v4 (0 : Int32) (0 : Int32)
set_option maxHeartbeats 4000000 in
set_option maxRecDepth 100000 in
theorem kb_X9_shown_159 {p : Program} {l : Launch} {e : Env} {s : State} {m : MethodId} {args : Array Value} {below : List Frame} {meth : Method} {c : Code} {G : ka_G} (hI : ka_I G) {a : ka_K} (ha : ka_L a) (C0 : ka_C p s m args meth c cX9_shown 13 "GlossRowsModel" (some .int)) (hK : ka_Kn G s) {Q : Int32 → ka_S → Prop} : ∀ (σ : ka_S) (v4 : Int32) (v5 : Int32) (v11 : Int64), kw_X9_shown_159 a Q σ v4 v5 v11 → ∀ (H : Heap) (locs : List Loc), ka_P G σ H → va_S (ka_A G) s.heap H locs → ∀ ls : Array Slot, lv_has ls 13 [(4, .int v4), (5, .int v5), (11, .long v11)] → W p l e rm_X9_shown s m args below meth c H locs 0 0 (MQ below (va_Qi Q (ka_B G) (ka_A G)) args s 0 0 (ka_A G)) (F0 m 159 ls []) := by
  obtain ⟨hx, hb, -, hml, hown, hts, -⟩ := id C0
  intro σ v4 v5 v11 hq H locs hP hS ls hl
  unfold kw_X9_shown_159 at hq
  refine lv_lload hx hb dX9_shown_159 (lv_at hl 2 rfl) ?_
  refine lv_iload hx hb dX9_shown_161 (lv_at hl 0 rfl) ?_
  refine lv_iload hx hb dX9_shown_163 (lv_at hl 1 rfl) ?_
  refine lv_isub hx hb dX9_shown_165 ?_
  refine kr_Si (As := [.long v11, .int (v4 - v5)]) (rest := []) C0 hK hP hS hl (km_X9_letterOf l hI hq) kd_X9_letterOf kq_1165 ⟨rfl, rfl, Nat.le_of_ble_eq_true rfl, Nat.le_of_ble_eq_true rfl⟩ rfl (Nat.le_of_ble_eq_true rfl) dX9_shown_166 ⟨Nat.zero_le _, Nat.zero_le _⟩ (fun r26 σ25 H locs hq hP hS => ?_)
  exact kr_iret C0 hK hP hS hq dX9_shown_169
set_option maxHeartbeats 4000000 in
set_option maxRecDepth 100000 in
theorem kb_X9_shown_141 {p : Program} {l : Launch} {e : Env} {s : State} {m : MethodId} {args : Array Value} {below : List Frame} {meth : Method} {c : Code} {G : ka_G} (hI : ka_I G) {a : ka_K} (ha : ka_L a) (C0 : ka_C p s m args meth c cX9_shown 13 "GlossRowsModel" (some .int)) (hK : ka_Kn G s) {Q : Int32 → ka_S → Prop} : ∀ (σ : ka_S) (v2 : Int32) (v4 : Int32) (v5 : Int32) (t0 : Int64), kw_X9_shown_141 a Q σ v2 v4 v5 t0 → ∀ (H : Heap) (locs : List Loc), ka_P G σ H → va_S (ka_A G) s.heap H locs → ∀ ls : Array Slot, lv_has ls 13 [(2, .int v2), (4, .int v4), (5, .int v5)] → W p l e rm_X9_shown s m args below meth c H locs 0 0 (MQ below (va_Qi Q (ka_B G) (ka_A G)) args s 0 0 (ka_A G)) (F0 m 141 ls [.long t0]) := by
  obtain ⟨hx, hb, -, hml, hown, hts, -⟩ := id C0
  intro σ v2 v4 v5 t0 hq H locs hP hS ls hl
  unfold kw_X9_shown_141 at hq
  refine lv_lstore (lv' := [(11, .long t0), (2, .int v2), (4, .int v4), (5, .int v5)]) hx hb dX9_shown_141 hl (by decide) rfl (fun ls hl => ?_)
  refine lv_iload_n hx hb dX9_shown_143 rfl (lv_at hl 1 rfl) ?_
  refine lv_if_eq (tgt := 159) hx hb dX9_shown_144 (by decide) (fun hc => ?_) (fun hc => ?_)
  · have hq := hq.1 hc
    exact kb_X9_shown_159 hI ha C0 hK σ v4 v5 t0 hq H locs hP hS ls (lv_sub hl [2, 3, 0] rfl)
  · have hq := hq.2 hc
    refine lv_lload hx hb dX9_shown_147 (lv_at hl 0 rfl) ?_
    refine lv_lconst (v := 0) hx hb dX9_shown_149 (by decide) ?_
    refine kr_cne (tgt := 159) C0 dX9_shown_150 dX9_shown_151 (by decide) (fun hc => ?_) (fun hc => ?_)
    · have hq := hq.2 hc
      exact kb_X9_shown_159 hI ha C0 hK σ v4 v5 t0 hq H locs hP hS ls (lv_sub hl [2, 3, 0] rfl)
    · have hq := hq.1 hc
      refine lv_bipush (v := 42) hx hb dX9_shown_154 (by decide) ?_
      refine lv_goto (tgt := 169) hx hb dX9_shown_156 (by decide) ?_
      exact kr_iret C0 hK hP hS hq dX9_shown_169
set_option maxHeartbeats 4000000 in
set_option maxRecDepth 100000 in
theorem kb_X9_shown_101 {p : Program} {l : Launch} {e : Env} {s : State} {m : MethodId} {args : Array Value} {below : List Frame} {meth : Method} {c : Code} {G : ka_G} (hI : ka_I G) {a : ka_K} (ha : ka_L a) (C0 : ka_C p s m args meth c cX9_shown 13 "GlossRowsModel" (some .int)) (hK : ka_Kn G s) {Q : Int32 → ka_S → Prop} {K6 : ka_S → Int32 → Int32 → Int32 → Int32 → Int32 → Int32 → Prop} (hk6 : ∀ (σ : ka_S) (v1 : Int32) (v2 : Int32) (v3 : Int32) (v4 : Int32) (v5 : Int32) (v6 : Int32), K6 σ v1 v2 v3 v4 v5 v6 → ∀ (H : Heap) (locs : List Loc), ka_P G σ H → va_S (ka_A G) s.heap H locs → ∀ ls : Array Slot, lv_has ls 13 [(0, .ref (ka_a G a)), (1, .int v1), (2, .int v2), (3, .int v3), (4, .int v4), (5, .int v5), (6, .int v6)] → W p l e rm_X9_shown s m args below meth c H locs 0 0 (MQ below (va_Qi Q (ka_B G) (ka_A G)) args s 0 0 (ka_A G)) (F0 m 6 ls [])) : ∀ (σ : ka_S) (v1 : Int32) (v2 : Int32) (v3 : Int32) (v4 : Int32) (v5 : Int32) (v6 : Int32) (v9 : Int32) (v10 : Int32), kw_X9_shown_101 a K6 Q σ v1 v2 v3 v4 v5 v6 v9 v10 → ∀ (H : Heap) (locs : List Loc), ka_P G σ H → va_S (ka_A G) s.heap H locs → ∀ ls : Array Slot, lv_has ls 13 [(0, .ref (ka_a G a)), (1, .int v1), (2, .int v2), (3, .int v3), (4, .int v4), (5, .int v5), (6, .int v6), (9, .int v9), (10, .int v10)] → W p l e rm_X9_shown s m args below meth c H locs 0 0 (MQ below (va_Qi Q (ka_B G) (ka_A G)) args s 0 0 (ka_A G)) (F0 m 101 ls []) := by
  obtain ⟨hx, hb, -, hml, hown, hts, -⟩ := id C0
  intro σ v1 v2 v3 v4 v5 v6 v9 v10 hq H locs hP hS ls hl
  unfold kw_X9_shown_101 at hq
  refine lv_iload hx hb dX9_shown_101 (lv_at hl 4 rfl) ?_
  refine lv_iload hx hb dX9_shown_103 (lv_at hl 5 rfl) ?_
  refine lv_icmp_lt (tgt := 170) hx hb dX9_shown_105 (by decide) (fun hc => ?_) (fun hc => ?_)
  · have hq := hq.1 hc
    refine lv_iload hx hb dX9_shown_170 (lv_at hl 5 rfl) ?_
    refine lv_iload hx hb dX9_shown_172 (lv_at hl 8 rfl) ?_
    refine lv_iadd hx hb dX9_shown_174 ?_
    refine lv_topi (fun x15 ex15 => ?_)
    have hq := hq x15 ex15
    refine lv_istore (lv' := [(5, .int x15), (0, .ref (ka_a G a)), (1, .int v1), (2, .int v2), (3, .int v3), (4, .int v4), (6, .int v6), (9, .int v9), (10, .int v10)]) hx hb dX9_shown_175 hl (by decide) rfl (fun ls hl => ?_)
    obtain ⟨x16, ex16⟩ : ∃ y : Int32, y = v6 + (1 : Int32) := ⟨_, rfl⟩
    have hq := hq x16 ex16
    refine lv_iinc (v := x16) (lv' := [(6, .int x16), (5, .int x15), (0, .ref (ka_a G a)), (1, .int v1), (2, .int v2), (3, .int v3), (4, .int v4), (9, .int v9), (10, .int v10)]) hx hb dX9_shown_177 hl (k := 6) rfl (by rw [ex16]; rfl) (by decide) rfl (fun ls hl => ?_)
    refine lv_goto (tgt := 6) hx hb dX9_shown_180 (by decide) ?_
    exact hk6 σ v1 v2 v3 v4 x15 x16 hq H locs hP hS ls (lv_sub hl [2, 3, 4, 5, 6, 1, 0] rfl)
  · have hq := hq.2 hc
    refine lv_iload hx hb dX9_shown_108 (lv_at hl 4 rfl) ?_
    refine lv_iload hx hb dX9_shown_110 (lv_at hl 5 rfl) ?_
    refine lv_iload hx hb dX9_shown_112 (lv_at hl 7 rfl) ?_
    refine lv_iadd hx hb dX9_shown_114 ?_
    refine lv_icmp_ge (tgt := 170) hx hb dX9_shown_115 (by decide) (fun hc => ?_) (fun hc => ?_)
    · have hq := hq.1 hc
      refine lv_iload hx hb dX9_shown_170 (lv_at hl 5 rfl) ?_
      refine lv_iload hx hb dX9_shown_172 (lv_at hl 8 rfl) ?_
      refine lv_iadd hx hb dX9_shown_174 ?_
      refine lv_topi (fun x17 ex17 => ?_)
      have hq := hq x17 ex17
      refine lv_istore (lv' := [(5, .int x17), (0, .ref (ka_a G a)), (1, .int v1), (2, .int v2), (3, .int v3), (4, .int v4), (6, .int v6), (9, .int v9), (10, .int v10)]) hx hb dX9_shown_175 hl (by decide) rfl (fun ls hl => ?_)
      obtain ⟨x18, ex18⟩ : ∃ y : Int32, y = v6 + (1 : Int32) := ⟨_, rfl⟩
      have hq := hq x18 ex18
      refine lv_iinc (v := x18) (lv' := [(6, .int x18), (5, .int x17), (0, .ref (ka_a G a)), (1, .int v1), (2, .int v2), (3, .int v3), (4, .int v4), (9, .int v9), (10, .int v10)]) hx hb dX9_shown_177 hl (k := 6) rfl (by rw [ex18]; rfl) (by decide) rfl (fun ls hl => ?_)
      refine lv_goto (tgt := 6) hx hb dX9_shown_180 (by decide) ?_
      exact hk6 σ v1 v2 v3 v4 x17 x18 hq H locs hP hS ls (lv_sub hl [2, 3, 4, 5, 6, 1, 0] rfl)
    · have hq := hq.2 hc
      refine lv_iload_n hx hb dX9_shown_118 rfl (lv_at hl 2 rfl) ?_
      refine lv_if_eq (tgt := 133) hx hb dX9_shown_119 (by decide) (fun hc => ?_) (fun hc => ?_)
      · have hq := hq.1 hc
        refine lv_aload_n hx hb dX9_shown_133 rfl (lv_at hl 0 rfl) ?_
        refine lv_iload_n hx hb dX9_shown_134 rfl (lv_at hl 1 rfl) ?_
        refine lv_iload hx hb dX9_shown_135 (lv_at hl 6 rfl) ?_
        refine kr_Si (As := [.int v1, .int v6]) (rest := [.ref (ka_a G a)]) C0 hK hP hS hl (km_X9_partAt l hI hq) kd_X9_partAt kq_1105 ⟨rfl, rfl, Nat.le_of_ble_eq_true rfl, Nat.le_of_ble_eq_true rfl⟩ rfl (Nat.le_of_ble_eq_true rfl) dX9_shown_137 ⟨Nat.zero_le _, Nat.zero_le _⟩ (fun r20 σ19 H locs hq hP hS => ?_)
        obtain ⟨b21, hq⟩ := hq
        refine kr_lald C0 hK hP ha.1 (ha.2 G _) b21 dX9_shown_140 ?_
        exact kb_X9_shown_141 hI ha C0 hK σ19 v2 v4 v5 (σ19.2 a r20.toNatClampNeg) hq H locs hP hS ls (lv_sub hl [2, 4, 5] rfl)
      · have hq := hq.2 hc
        refine lv_aload_n hx hb dX9_shown_122 rfl (lv_at hl 0 rfl) ?_
        refine lv_iload_n hx hb dX9_shown_123 rfl (lv_at hl 1 rfl) ?_
        refine lv_iload hx hb dX9_shown_124 (lv_at hl 6 rfl) ?_
        refine kr_Si (As := [.int v1, .int v6]) (rest := [.ref (ka_a G a)]) C0 hK hP hS hl (km_X9_glossAt l hI hq) kd_X9_glossAt kq_1115 ⟨rfl, rfl, Nat.le_of_ble_eq_true rfl, Nat.le_of_ble_eq_true rfl⟩ rfl (Nat.le_of_ble_eq_true rfl) dX9_shown_126 ⟨Nat.zero_le _, Nat.zero_le _⟩ (fun r23 σ22 H locs hq hP hS => ?_)
        obtain ⟨b24, hq⟩ := hq
        refine kr_lald C0 hK hP ha.1 (ha.2 G _) b24 dX9_shown_129 ?_
        refine lv_goto (tgt := 141) hx hb dX9_shown_130 (by decide) ?_
        exact kb_X9_shown_141 hI ha C0 hK σ22 v2 v4 v5 (σ22.2 a r23.toNatClampNeg) hq H locs hP hS ls (lv_sub hl [2, 4, 5] rfl)
set_option maxHeartbeats 4000000 in
set_option maxRecDepth 100000 in
theorem kb_X9_shown_74 {p : Program} {l : Launch} {e : Env} {s : State} {m : MethodId} {args : Array Value} {below : List Frame} {meth : Method} {c : Code} {G : ka_G} (hI : ka_I G) {a : ka_K} (ha : ka_L a) (C0 : ka_C p s m args meth c cX9_shown 13 "GlossRowsModel" (some .int)) (hK : ka_Kn G s) {Q : Int32 → ka_S → Prop} {K6 : ka_S → Int32 → Int32 → Int32 → Int32 → Int32 → Int32 → Prop} (hk6 : ∀ (σ : ka_S) (v1 : Int32) (v2 : Int32) (v3 : Int32) (v4 : Int32) (v5 : Int32) (v6 : Int32), K6 σ v1 v2 v3 v4 v5 v6 → ∀ (H : Heap) (locs : List Loc), ka_P G σ H → va_S (ka_A G) s.heap H locs → ∀ ls : Array Slot, lv_has ls 13 [(0, .ref (ka_a G a)), (1, .int v1), (2, .int v2), (3, .int v3), (4, .int v4), (5, .int v5), (6, .int v6)] → W p l e rm_X9_shown s m args below meth c H locs 0 0 (MQ below (va_Qi Q (ka_B G) (ka_A G)) args s 0 0 (ka_A G)) (F0 m 6 ls [])) : ∀ (σ : ka_S) (v1 : Int32) (v2 : Int32) (v3 : Int32) (v4 : Int32) (v5 : Int32) (v6 : Int32) (v9 : Int32) (t0 : Int32), kw_X9_shown_74 a K6 Q σ v1 v2 v3 v4 v5 v6 v9 t0 → ∀ (H : Heap) (locs : List Loc), ka_P G σ H → va_S (ka_A G) s.heap H locs → ∀ ls : Array Slot, lv_has ls 13 [(0, .ref (ka_a G a)), (1, .int v1), (2, .int v2), (3, .int v3), (4, .int v4), (5, .int v5), (6, .int v6), (9, .int v9)] → W p l e rm_X9_shown s m args below meth c H locs 0 0 (MQ below (va_Qi Q (ka_B G) (ka_A G)) args s 0 0 (ka_A G)) (F0 m 74 ls [.int t0]) := by
  obtain ⟨hx, hb, -, hml, hown, hts, -⟩ := id C0
  intro σ v1 v2 v3 v4 v5 v6 v9 t0 hq H locs hP hS ls hl
  unfold kw_X9_shown_74 at hq
  refine lv_istore (lv' := [(10, .int t0), (0, .ref (ka_a G a)), (1, .int v1), (2, .int v2), (3, .int v3), (4, .int v4), (5, .int v5), (6, .int v6), (9, .int v9)]) hx hb dX9_shown_74 hl (by decide) rfl (fun ls hl => ?_)
  refine lv_iload hx hb dX9_shown_76 (lv_at hl 7 rfl) ?_
  refine lv_if_le (tgt := 101) hx hb dX9_shown_78 (by decide) (fun hc => ?_) (fun hc => ?_)
  · have hq := hq.1 hc
    exact kb_X9_shown_101 hI ha C0 hK hk6 σ v1 v2 v3 v4 v5 v6 v9 t0 hq H locs hP hS ls (lv_sub hl [1, 2, 3, 4, 5, 6, 7, 8, 0] rfl)
  · have hq := hq.2 hc
    refine lv_iload hx hb dX9_shown_81 (lv_at hl 5 rfl) ?_
    refine lv_iload hx hb dX9_shown_83 (lv_at hl 6 rfl) ?_
    refine lv_icmp_ne (tgt := 98) hx hb dX9_shown_85 (by decide) (fun hc => ?_) (fun hc => ?_)
    · have hq := hq.2 hc
      obtain ⟨x11, ex11⟩ : ∃ y : Int32, y = v5 + (1 : Int32) := ⟨_, rfl⟩
      have hq := hq x11 ex11
      refine lv_iinc (v := x11) (lv' := [(5, .int x11), (10, .int t0), (0, .ref (ka_a G a)), (1, .int v1), (2, .int v2), (3, .int v3), (4, .int v4), (6, .int v6), (9, .int v9)]) hx hb dX9_shown_98 hl (k := 6) rfl (by rw [ex11]; rfl) (by decide) rfl (fun ls hl => ?_)
      exact kb_X9_shown_101 hI ha C0 hK hk6 σ v1 v2 v3 v4 x11 v6 v9 t0 hq H locs hP hS ls (lv_sub hl [2, 3, 4, 5, 6, 0, 7, 8, 1] rfl)
    · have hq := hq.1 hc
      refine lv_aload_n hx hb dX9_shown_88 rfl (lv_at hl 1 rfl) ?_
      refine lv_iload_n hx hb dX9_shown_89 rfl (lv_at hl 2 rfl) ?_
      refine lv_iload hx hb dX9_shown_90 (lv_at hl 7 rfl) ?_
      refine kr_Si (As := [.int v1, .int v6]) (rest := [.ref (ka_a G a)]) C0 hK hP hS hl (km_X9_mark l hI hq) kd_X9_mark kq_1158 ⟨rfl, rfl, Nat.le_of_ble_eq_true rfl, Nat.le_of_ble_eq_true rfl⟩ rfl (Nat.le_of_ble_eq_true rfl) dX9_shown_92 ⟨Nat.zero_le _, Nat.zero_le _⟩ (fun r13 σ12 H locs hq hP hS => ?_)
      obtain ⟨b14, hq⟩ := hq
      refine kr_lald C0 hK hP ha.1 (ha.2 G _) b14 dX9_shown_95 ?_
      refine lv_l2i hx hb dX9_shown_96 rfl ?_
      exact kr_iret C0 hK hP hS hq dX9_shown_97
set_option maxHeartbeats 4000000 in
set_option maxRecDepth 100000 in
theorem kb_X9_shown_49 {p : Program} {l : Launch} {e : Env} {s : State} {m : MethodId} {args : Array Value} {below : List Frame} {meth : Method} {c : Code} {G : ka_G} (hI : ka_I G) {a : ka_K} (ha : ka_L a) (C0 : ka_C p s m args meth c cX9_shown 13 "GlossRowsModel" (some .int)) (hK : ka_Kn G s) {Q : Int32 → ka_S → Prop} {K6 : ka_S → Int32 → Int32 → Int32 → Int32 → Int32 → Int32 → Prop} (hk6 : ∀ (σ : ka_S) (v1 : Int32) (v2 : Int32) (v3 : Int32) (v4 : Int32) (v5 : Int32) (v6 : Int32), K6 σ v1 v2 v3 v4 v5 v6 → ∀ (H : Heap) (locs : List Loc), ka_P G σ H → va_S (ka_A G) s.heap H locs → ∀ ls : Array Slot, lv_has ls 13 [(0, .ref (ka_a G a)), (1, .int v1), (2, .int v2), (3, .int v3), (4, .int v4), (5, .int v5), (6, .int v6)] → W p l e rm_X9_shown s m args below meth c H locs 0 0 (MQ below (va_Qi Q (ka_B G) (ka_A G)) args s 0 0 (ka_A G)) (F0 m 6 ls [])) : ∀ (σ : ka_S) (v1 : Int32) (v2 : Int32) (v3 : Int32) (v4 : Int32) (v5 : Int32) (v6 : Int32) (v7 : Int32) (v8 : Int32) (t0 : Int32), kw_X9_shown_49 a K6 Q σ v1 v2 v3 v4 v5 v6 v7 v8 t0 → ∀ (H : Heap) (locs : List Loc), ka_P G σ H → va_S (ka_A G) s.heap H locs → ∀ ls : Array Slot, lv_has ls 13 [(0, .ref (ka_a G a)), (1, .int v1), (2, .int v2), (3, .int v3), (4, .int v4), (5, .int v5), (6, .int v6), (7, .int v7), (8, .int v8)] → W p l e rm_X9_shown s m args below meth c H locs 0 0 (MQ below (va_Qi Q (ka_B G) (ka_A G)) args s 0 0 (ka_A G)) (F0 m 49 ls [.int t0]) := by
  obtain ⟨hx, hb, -, hml, hown, hts, -⟩ := id C0
  intro σ v1 v2 v3 v4 v5 v6 v7 v8 t0 hq H locs hP hS ls hl
  unfold kw_X9_shown_49 at hq
  refine lv_istore (lv' := [(9, .int t0), (0, .ref (ka_a G a)), (1, .int v1), (2, .int v2), (3, .int v3), (4, .int v4), (5, .int v5), (6, .int v6), (7, .int v7), (8, .int v8)]) hx hb dX9_shown_49 hl (by decide) rfl (fun ls hl => ?_)
  refine lv_iload_n hx hb dX9_shown_51 rfl (lv_at hl 4 rfl) ?_
  refine lv_if_ne (tgt := 60) hx hb dX9_shown_52 (by decide) (fun hc => ?_) (fun hc => ?_)
  · have hq := hq.2 hc
    refine lv_iload hx hb dX9_shown_60 (lv_at hl 8 rfl) ?_
    refine lv_iload hx hb dX9_shown_62 (lv_at hl 9 rfl) ?_
    refine lv_icmp_le (tgt := 72) hx hb dX9_shown_64 (by decide) (fun hc => ?_) (fun hc => ?_)
    · have hq := hq.1 hc
      refine lv_iload hx hb dX9_shown_72 (lv_at hl 9 rfl) ?_
      exact kb_X9_shown_74 hI ha C0 hK hk6 σ v1 v2 v3 v4 v5 v6 t0 v8 hq H locs hP hS ls (lv_sub hl [1, 2, 3, 4, 5, 6, 7, 0] rfl)
    · have hq := hq.2 hc
      refine lv_iload hx hb dX9_shown_67 (lv_at hl 8 rfl) ?_
      refine lv_goto (tgt := 74) hx hb dX9_shown_69 (by decide) ?_
      exact kb_X9_shown_74 hI ha C0 hK hk6 σ v1 v2 v3 v4 v5 v6 t0 v7 hq H locs hP hS ls (lv_sub hl [1, 2, 3, 4, 5, 6, 7, 0] rfl)
  · have hq := hq.1 hc
    refine lv_iload hx hb dX9_shown_55 (lv_at hl 0 rfl) ?_
    refine lv_goto (tgt := 74) hx hb dX9_shown_57 (by decide) ?_
    exact kb_X9_shown_74 hI ha C0 hK hk6 σ v1 v2 v3 v4 v5 v6 t0 t0 hq H locs hP hS ls (lv_sub hl [1, 2, 3, 4, 5, 6, 7, 0] rfl)
set_option maxHeartbeats 4000000 in
set_option maxRecDepth 100000 in
theorem kb_X9_shown_6 {p : Program} {l : Launch} {e : Env} {s : State} {m : MethodId} {args : Array Value} {below : List Frame} {meth : Method} {c : Code} {G : ka_G} (hI : ka_I G) {a : ka_K} (ha : ka_L a) (C0 : ka_C p s m args meth c cX9_shown 13 "GlossRowsModel" (some .int)) (hK : ka_Kn G s) {Q : Int32 → ka_S → Prop} : ∀ (n : Nat) (σ : ka_S) (v1 : Int32) (v2 : Int32) (v3 : Int32) (v4 : Int32) (v5 : Int32) (v6 : Int32), kw_X9_shown_6 a Q n σ v1 v2 v3 v4 v5 v6 → ∀ (H : Heap) (locs : List Loc), ka_P G σ H → va_S (ka_A G) s.heap H locs → ∀ ls : Array Slot, lv_has ls 13 [(0, .ref (ka_a G a)), (1, .int v1), (2, .int v2), (3, .int v3), (4, .int v4), (5, .int v5), (6, .int v6)] → W p l e rm_X9_shown s m args below meth c H locs 0 0 (MQ below (va_Qi Q (ka_B G) (ka_A G)) args s 0 0 (ka_A G)) (F0 m 6 ls []) := by
  obtain ⟨hx, hb, -, hml, hown, hts, -⟩ := id C0
  intro n
  induction n with
  | zero =>
    intro σ v1 v2 v3 v4 v5 v6 hq
    rw [kw_X9_shown_6] at hq
    exact hq.elim
  | succ n ih =>
    intro σ v1 v2 v3 v4 v5 v6 hq H locs hP hS ls hl
    rw [kw_X9_shown_6] at hq
    refine lv_iload hx hb dX9_shown_6 (lv_at hl 6 rfl) ?_
    refine lv_aload_n hx hb dX9_shown_8 rfl (lv_at hl 0 rfl) ?_
    refine lv_iload_n hx hb dX9_shown_9 rfl (lv_at hl 1 rfl) ?_
    refine kr_Si (As := [.ref (ka_a G a), .int v1]) (rest := [.int v6]) C0 hK hP hS hl (km_X9_parts l hI ha hq) kd_X9_parts kq_1099 ⟨rfl, rfl, Nat.le_of_ble_eq_true rfl, Nat.le_of_ble_eq_true rfl⟩ rfl (Nat.le_of_ble_eq_true rfl) dX9_shown_10 ⟨Nat.zero_le _, Nat.zero_le _⟩ (fun r3 σ2 H locs hq hP hS => ?_)
    refine lv_icmp_ge (tgt := 183) hx hb dX9_shown_13 (by decide) (fun hc => ?_) (fun hc => ?_)
    · have hq := hq.1 hc
      refine lv_bipush (v := 32) hx hb dX9_shown_183 (by decide) ?_
      exact kr_iret C0 hK hP hS hq dX9_shown_185
    · have hq := hq.2 hc
      refine lv_aload_n hx hb dX9_shown_16 rfl (lv_at hl 0 rfl) ?_
      refine lv_iload_n hx hb dX9_shown_17 rfl (lv_at hl 1 rfl) ?_
      refine lv_iload hx hb dX9_shown_18 (lv_at hl 6 rfl) ?_
      refine kr_Si (As := [.int v1, .int v6]) (rest := [.ref (ka_a G a)]) C0 hK hP hS hl (km_X9_partAt l hI hq) kd_X9_partAt kq_1105 ⟨rfl, rfl, Nat.le_of_ble_eq_true rfl, Nat.le_of_ble_eq_true rfl⟩ rfl (Nat.le_of_ble_eq_true rfl) dX9_shown_20 ⟨Nat.zero_le _, Nat.zero_le _⟩ (fun r5 σ4 H locs hq hP hS => ?_)
      obtain ⟨b6, hq⟩ := hq
      refine kr_lald C0 hK hP ha.1 (ha.2 G _) b6 dX9_shown_23 ?_
      refine kr_Si (As := [.long (σ4.2 a r5.toNatClampNeg)]) (rest := []) C0 hK hP hS hl (km_X9_lettersOf l hI hq) kd_X9_lettersOf kq_1108 ⟨rfl, rfl, Nat.le_of_ble_eq_true rfl, Nat.le_of_ble_eq_true rfl⟩ rfl (Nat.le_of_ble_eq_true rfl) dX9_shown_24 ⟨Nat.zero_le _, Nat.zero_le _⟩ (fun r8 σ7 H locs hq hP hS => ?_)
      refine lv_istore (lv' := [(7, .int r8), (0, .ref (ka_a G a)), (1, .int v1), (2, .int v2), (3, .int v3), (4, .int v4), (5, .int v5), (6, .int v6)]) hx hb dX9_shown_27 hl (by decide) rfl (fun ls hl => ?_)
      refine lv_aload_n hx hb dX9_shown_29 rfl (lv_at hl 1 rfl) ?_
      refine lv_iload_n hx hb dX9_shown_30 rfl (lv_at hl 2 rfl) ?_
      refine lv_iload hx hb dX9_shown_31 (lv_at hl 7 rfl) ?_
      refine kr_Si (As := [.ref (ka_a G a), .int v1, .int v6]) (rest := []) C0 hK hP hS hl (km_X9_shownLength l hI ha hq) kd_X9_shownLength kq_1112 ⟨rfl, rfl, Nat.le_of_ble_eq_true rfl, Nat.le_of_ble_eq_true rfl⟩ rfl (Nat.le_of_ble_eq_true rfl) dX9_shown_33 ⟨Nat.zero_le _, Nat.zero_le _⟩ (fun r10 σ9 H locs hq hP hS => ?_)
      refine lv_istore (lv' := [(8, .int r10), (7, .int r8), (0, .ref (ka_a G a)), (1, .int v1), (2, .int v2), (3, .int v3), (4, .int v4), (5, .int v5), (6, .int v6)]) hx hb dX9_shown_36 hl (by decide) rfl (fun ls hl => ?_)
      refine lv_iload_n hx hb dX9_shown_38 rfl (lv_at hl 4 rfl) ?_
      refine lv_if_eq (tgt := 47) hx hb dX9_shown_39 (by decide) (fun hc => ?_) (fun hc => ?_)
      · have hq := hq.1 hc
        refine lv_iload hx hb dX9_shown_47 (lv_at hl 1 rfl) ?_
        exact kb_X9_shown_49 hI ha C0 hK ih σ9 v1 v2 v3 v4 v5 v6 r8 r10 r8 hq H locs hP hS ls (lv_sub hl [2, 3, 4, 5, 6, 7, 8, 1, 0] rfl)
      · have hq := hq.2 hc
        refine lv_iload hx hb dX9_shown_42 (lv_at hl 0 rfl) ?_
        refine lv_goto (tgt := 49) hx hb dX9_shown_44 (by decide) ?_
        exact kb_X9_shown_49 hI ha C0 hK ih σ9 v1 v2 v3 v4 v5 v6 r8 r10 r10 hq H locs hP hS ls (lv_sub hl [2, 3, 4, 5, 6, 7, 8, 1, 0] rfl)
set_option maxHeartbeats 4000000 in
set_option maxRecDepth 100000 in
theorem km_X9_shown (l : Launch) {G : ka_G} (hI : ka_I G) {a : ka_K} (ha : ka_L a) {σ : ka_S} {v1 : Int32} {v2 : Int32} {v3 : Int32} {v4 : Int32} {Q : Int32 → ka_S → Prop} (hq : kw_X9_shown σ a v1 v2 v3 v4 Q) : kc_i l yX9_shown (kw_ yX9_shown cX9_shown 13 (some .int)) rm_X9_shown G [.ref (ka_a G a), .int v1, .int v2, .int v3, .int v4] σ Q := by
  refine ka_of "GlossRowsModel" rfl (by decide) (Nat.le_of_ble_eq_true rfl) ?_
  intro p e s m below meth c C0 hK H locs hP hS ls hl
  obtain ⟨hx, hb, -, hml, hown, hts, -⟩ := id C0
  have hl : lv_has ls 13 [(0, .ref (ka_a G a)), (1, .int v1), (2, .int v2), (3, .int v3), (4, .int v4)] := hl
  unfold kw_X9_shown at hq
  refine lv_iconst (v := 0) hx hb dX9_shown_0 (by decide) ?_
  refine lv_istore (lv' := [(5, .int (0 : Int32)), (0, .ref (ka_a G a)), (1, .int v1), (2, .int v2), (3, .int v3), (4, .int v4)]) hx hb dX9_shown_1 hl (by decide) rfl (fun ls hl => ?_)
  refine lv_iconst (v := 0) hx hb dX9_shown_3 (by decide) ?_
  refine lv_istore (lv' := [(6, .int (0 : Int32)), (5, .int (0 : Int32)), (0, .ref (ka_a G a)), (1, .int v1), (2, .int v2), (3, .int v3), (4, .int v4)]) hx hb dX9_shown_4 hl (by decide) rfl (fun ls hl => ?_)
  obtain ⟨n1, hq⟩ := hq
  exact kb_X9_shown_6 hI ha C0 hK n1 σ v1 v2 v3 v4 (0 : Int32) (0 : Int32) hq H locs hP hS ls (lv_sub hl [2, 3, 4, 5, 6, 1, 0] rfl)
/-! GlossRowsModel.entryOf([JJ)I -/
def rm_X9_entryOf : Room := { frames := 0, cells := 0, slots := 0, locals := 0 }
def kw_X9_entryOf_2 (a : ka_K) (Q : Int32 → ka_S → Prop) : Nat → ka_S → Int64 → Int32 → Prop
  | 0, _, _, _ => False
  | n + 1, σ, v1, v3 => vp_in (1 : Int32) (ka_n a) ∧
    ((σ.2 a (1 : Int32).toNatClampNeg) ≤ v3.toInt64 → Q (-9 : Int32) σ) ∧
    (¬ (σ.2 a (1 : Int32).toNatClampNeg) ≤ v3.toInt64 → vp_in ((221 : Int32) + ((2 : Int32) * v3)) (ka_n a) ∧
      ((σ.2 a ((221 : Int32) + ((2 : Int32) * v3)).toNatClampNeg) = v1 → Q v3 σ) ∧
      (¬ (σ.2 a ((221 : Int32) + ((2 : Int32) * v3)).toNatClampNeg) = v1 → ∀ x4 : Int32, x4 = v3 + (1 : Int32) →
        (kw_X9_entryOf_2 a Q n) σ v1 x4))
def kw_X9_entryOf (σ : ka_S) (a : ka_K) (v1 : Int64) (Q : Int32 → ka_S → Prop) : Prop := ∃ n1 : Nat, kw_X9_entryOf_2 a Q n1 σ v1 (0 : Int32)
set_option maxHeartbeats 4000000 in
set_option maxRecDepth 100000 in
theorem kb_X9_entryOf_2 {p : Program} {l : Launch} {e : Env} {s : State} {m : MethodId} {args : Array Value} {below : List Frame} {meth : Method} {c : Code} {G : ka_G} (hI : ka_I G) {a : ka_K} (ha : ka_L a) (C0 : ka_C p s m args meth c cX9_entryOf 4 "GlossRowsModel" (some .int)) (hK : ka_Kn G s) {Q : Int32 → ka_S → Prop} : ∀ (n : Nat) (σ : ka_S) (v1 : Int64) (v3 : Int32), kw_X9_entryOf_2 a Q n σ v1 v3 → ∀ (H : Heap) (locs : List Loc), ka_P G σ H → va_S (ka_A G) s.heap H locs → ∀ ls : Array Slot, lv_has ls 4 [(0, .ref (ka_a G a)), (1, .long v1), (3, .int v3)] → W p l e rm_X9_entryOf s m args below meth c H locs 0 0 (MQ below (va_Qi Q (ka_B G) (ka_A G)) args s 0 0 (ka_A G)) (F0 m 2 ls []) := by
  obtain ⟨hx, hb, -, hml, hown, hts, -⟩ := id C0
  intro n
  induction n with
  | zero =>
    intro σ v1 v3 hq
    rw [kw_X9_entryOf_2] at hq
    exact hq.elim
  | succ n ih =>
    intro σ v1 v3 hq H locs hP hS ls hl
    rw [kw_X9_entryOf_2] at hq
    refine lv_iload_n hx hb dX9_entryOf_2 rfl (lv_at hl 2 rfl) ?_
    refine lv_i2l hx hb dX9_entryOf_3 rfl ?_
    refine lv_aload_n hx hb dX9_entryOf_4 rfl (lv_at hl 0 rfl) ?_
    refine lv_iconst (v := 1) hx hb dX9_entryOf_5 (by decide) ?_
    obtain ⟨b2, hq⟩ := hq
    refine kr_lald C0 hK hP ha.1 (ha.2 G _) b2 dX9_entryOf_6 ?_
    refine kr_cge (tgt := 33) C0 dX9_entryOf_7 dX9_entryOf_8 (by decide) (fun hc => ?_) (fun hc => ?_)
    · have hq := hq.1 hc
      refine lv_bipush (v := -9) hx hb dX9_entryOf_33 (by decide) ?_
      exact kr_iret C0 hK hP hS hq dX9_entryOf_35
    · have hq := hq.2 hc
      refine lv_aload_n hx hb dX9_entryOf_11 rfl (lv_at hl 0 rfl) ?_
      refine lv_sipush (v := 221) hx hb dX9_entryOf_12 (by decide) ?_
      refine lv_iconst (v := 2) hx hb dX9_entryOf_15 (by decide) ?_
      refine lv_iload_n hx hb dX9_entryOf_16 rfl (lv_at hl 2 rfl) ?_
      refine lv_imul hx hb dX9_entryOf_17 ?_
      refine lv_iadd hx hb dX9_entryOf_18 ?_
      obtain ⟨b3, hq⟩ := hq
      refine kr_lald C0 hK hP ha.1 (ha.2 G _) b3 dX9_entryOf_19 ?_
      refine lv_lload_n hx hb dX9_entryOf_20 rfl (lv_at hl 1 rfl) ?_
      refine kr_cne (tgt := 27) C0 dX9_entryOf_21 dX9_entryOf_22 (by decide) (fun hc => ?_) (fun hc => ?_)
      · have hq := hq.2 hc
        obtain ⟨x4, ex4⟩ : ∃ y : Int32, y = v3 + (1 : Int32) := ⟨_, rfl⟩
        have hq := hq x4 ex4
        refine lv_iinc (v := x4) (lv' := [(3, .int x4), (0, .ref (ka_a G a)), (1, .long v1)]) hx hb dX9_entryOf_27 hl (k := 2) rfl (by rw [ex4]; rfl) (by decide) rfl (fun ls hl => ?_)
        refine lv_goto (tgt := 2) hx hb dX9_entryOf_30 (by decide) ?_
        exact ih σ v1 x4 hq H locs hP hS ls (lv_sub hl [1, 2, 0] rfl)
      · have hq := hq.1 hc
        refine lv_iload_n hx hb dX9_entryOf_25 rfl (lv_at hl 2 rfl) ?_
        exact kr_iret C0 hK hP hS hq dX9_entryOf_26
set_option maxHeartbeats 4000000 in
set_option maxRecDepth 100000 in
theorem km_X9_entryOf (l : Launch) {G : ka_G} (hI : ka_I G) {a : ka_K} (ha : ka_L a) {σ : ka_S} {v1 : Int64} {Q : Int32 → ka_S → Prop} (hq : kw_X9_entryOf σ a v1 Q) : kc_i l yX9_entryOf (kw_ yX9_entryOf cX9_entryOf 4 (some .int)) rm_X9_entryOf G [.ref (ka_a G a), .long v1] σ Q := by
  refine ka_of "GlossRowsModel" rfl (by decide) (Nat.le_of_ble_eq_true rfl) ?_
  intro p e s m below meth c C0 hK H locs hP hS ls hl
  obtain ⟨hx, hb, -, hml, hown, hts, -⟩ := id C0
  have hl : lv_has ls 4 [(0, .ref (ka_a G a)), (1, .long v1)] := hl
  unfold kw_X9_entryOf at hq
  refine lv_iconst (v := 0) hx hb dX9_entryOf_0 (by decide) ?_
  refine lv_istore_n (lv' := [(3, .int (0 : Int32)), (0, .ref (ka_a G a)), (1, .long v1)]) hx hb dX9_entryOf_1 rfl hl (by decide) rfl (fun ls hl => ?_)
  obtain ⟨n1, hq⟩ := hq
  exact kb_X9_entryOf_2 hI ha C0 hK n1 σ v1 (0 : Int32) hq H locs hP hS ls (lv_sub hl [1, 2, 0] rfl)
