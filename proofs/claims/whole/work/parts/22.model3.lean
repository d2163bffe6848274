/-! GlossRowsModel.isRow(I)Z -/
def rm_X9_isRow : Room := { frames := 6, cells := 0, slots := 0, locals := 147 }
def kw_X9_isRow (σ : ka_S) (v1 : Int32) (Q : Int32 → ka_S → Prop) : Prop := kw_X9_layNow σ (fun σ1 => 
  kw_X9_in σ1 v1.toInt64 (0 : Int64) (((σ1.1 (25, 0, 0) 12) - (1 : Int32)).toInt64) (fun r3 σ2 => 
  (r3 = 0 ∨ r3 = 1) ∧
  Q r3 σ2))
set_option maxHeartbeats 4000000 in
set_option maxRecDepth 100000 in
theorem km_X9_isRow (l : Launch) {G : ka_G} (hI : ka_I G) {σ : ka_S} {v1 : Int32} {Q : Int32 → ka_S → Prop} (hq : kw_X9_isRow σ v1 Q) : kc_i l yX9_isRow (kw_ yX9_isRow cX9_isRow 2 (some .boolean)) rm_X9_isRow G [.ref (ka_a G (25, 0, 0)), .int v1] σ Q := by
  refine ka_of "GlossRowsModel" rfl (by decide) (Nat.le_of_ble_eq_true rfl) ?_
  intro p e s m below meth c C0 hK H locs hP hS ls hl
  obtain ⟨hx, hb, -, hml, hown, hts, -⟩ := id C0
  have hl : lv_has ls 2 [(0, .ref (ka_a G (25, 0, 0))), (1, .int v1)] := hl
  unfold kw_X9_isRow at hq
  refine lv_aload_n hx hb dX9_isRow_0 rfl (lv_at hl 0 rfl) ?_
  refine kr_Vv (k := (25, 0, 0)) (As := []) (rest := []) C0 hK hP hS hl (km_X9_layNow l hI hq) kd_X9_layNow kq_1088 (kv_s (by decide) (by decide)) rfl rfl rfl ⟨rfl, rfl, Nat.le_of_ble_eq_true rfl, Nat.le_of_ble_eq_true rfl⟩ rfl (Nat.le_of_ble_eq_true rfl) dX9_isRow_1 ⟨Nat.zero_le _, Nat.zero_le _⟩ (fun σ1 H locs hq hP hS => ?_)
  refine lv_iload_n hx hb dX9_isRow_4 rfl (lv_at hl 1 rfl) ?_
  refine lv_i2l hx hb dX9_isRow_5 rfl ?_
  refine lv_lconst (v := 0) hx hb dX9_isRow_6 (by decide) ?_
  refine lv_aload_n hx hb dX9_isRow_7 rfl (lv_at hl 0 rfl) ?_
  refine kg_X9_rows C0 hK hP (kv_s (by decide) (by decide)) kq_967 dX9_isRow_8 ?_
  refine lv_iconst (v := 1) hx hb dX9_isRow_11 (by decide) ?_
  refine lv_isub hx hb dX9_isRow_12 ?_
  refine lv_i2l hx hb dX9_isRow_13 rfl ?_
  refine kr_Si (As := [.long v1.toInt64, .long (0 : Int64), .long (((σ1.1 (25, 0, 0) 12) - (1 : Int32)).toInt64)]) (rest := []) C0 hK hP hS hl (km_X9_in l hI hq) kd_X9_in kq_1031 ⟨rfl, rfl, Nat.le_of_ble_eq_true rfl, Nat.le_of_ble_eq_true rfl⟩ rfl (Nat.le_of_ble_eq_true rfl) dX9_isRow_14 ⟨Nat.zero_le _, Nat.zero_le _⟩ (fun r3 σ2 H locs hq hP hS => ?_)
  obtain ⟨hz, hq⟩ := hq
  exact kr_zret C0 hK hP hS (kz_n hz) hq dX9_isRow_17
/-! GlossRowsModel.row(II)I -/
def rm_X9_row : Room := { frames := 7, cells := 0, slots := 0, locals := 168 }
def kw_X9_row_30 (Q : Int32 → ka_S → Prop) (σ : ka_S) (v1 : Int32) (v2 : Int32) (t1 : Int32) : Prop := kw_X9_refused σ t1 (fun r6 σ5 => 
  (r6 = (0 : Int32) → (v2 = (0 : Int32) → vp_in v1 72 ∧
      Q (σ5.1 (32, 0, 0) v1.toNatClampNeg) σ5) ∧
    (¬ v2 = (0 : Int32) → (v2 = (1 : Int32) → kw_X9_lengthOfRow σ5 v1 (fun r10 σ9 => 
        Q r10 σ9)) ∧
      (¬ v2 = (1 : Int32) → kw_X9_sentenceOfRow σ5 v1 (fun r8 σ7 => 
        Q r8 σ7)))) ∧
  (¬ r6 = (0 : Int32) → Q (0 : Int32) σ5))
def kw_X9_row (σ : ka_S) (v1 : Int32) (v2 : Int32) (Q : Int32 → ka_S → Prop) : Prop := kw_X9_isRow σ v1 (fun r2 σ1 => 
  (r2 = (0 : Int32) → kw_X9_row_30 Q σ1 v1 v2 (1 : Int32)) ∧
  (¬ r2 = (0 : Int32) → kw_X9_in σ1 v2.toInt64 (0 : Int64) (2 : Int64) (fun r4 σ3 => 
    (r4 = (0 : Int32) → kw_X9_row_30 Q σ3 v1 v2 (2 : Int32)) ∧
    (¬ r4 = (0 : Int32) → kw_X9_row_30 Q σ3 v1 v2 (0 : Int32)))))
set_option maxHeartbeats 4000000 in
set_option maxRecDepth 100000 in
theorem kb_X9_row_30 {p : Program} {l : Launch} {e : Env} {s : State} {m : MethodId} {args : Array Value} {below : List Frame} {meth : Method} {c : Code} {G : ka_G} (hI : ka_I G) (C0 : ka_C p s m args meth c cX9_row 3 "GlossRowsModel" (some .int)) (hK : ka_Kn G s) {Q : Int32 → ka_S → Prop} : ∀ (σ : ka_S) (v1 : Int32) (v2 : Int32) (t1 : Int32), kw_X9_row_30 Q σ v1 v2 t1 → ∀ (H : Heap) (locs : List Loc), ka_P G σ H → va_S (ka_A G) s.heap H locs → ∀ ls : Array Slot, lv_has ls 3 [(0, .ref (ka_a G (25, 0, 0))), (1, .int v1), (2, .int v2)] → W p l e rm_X9_row s m args below meth c H locs 0 0 (MQ below (va_Qi Q (ka_B G) (ka_A G)) args s 0 0 (ka_A G)) (F0 m 30 ls [.int t1, .ref (ka_a G (25, 0, 0))]) := by
  obtain ⟨hx, hb, -, hml, hown, hts, -⟩ := id C0
  intro σ v1 v2 t1 hq H locs hP hS ls hl
  unfold kw_X9_row_30 at hq
  refine kr_Vi (k := (25, 0, 0)) (As := [.int t1]) (rest := []) C0 hK hP hS hl (km_X9_refused l hI hq) kd_X9_refused kq_1034 (kv_s (by decide) (by decide)) rfl rfl rfl ⟨rfl, rfl, Nat.le_of_ble_eq_true rfl, Nat.le_of_ble_eq_true rfl⟩ rfl (Nat.le_of_ble_eq_true rfl) dX9_row_30 ⟨Nat.zero_le _, Nat.zero_le _⟩ (fun r6 σ5 H locs hq hP hS => ?_)
  refine lv_if_eq (tgt := 38) hx hb dX9_row_33 (by decide) (fun hc => ?_) (fun hc => ?_)
  · have hq := hq.1 hc
    refine lv_iload_n hx hb dX9_row_38 rfl (lv_at hl 2 rfl) ?_
    refine lv_if_ne (tgt := 51) hx hb dX9_row_39 (by decide) (fun hc => ?_) (fun hc => ?_)
    · have hq := hq.2 hc
      refine lv_iload_n hx hb dX9_row_51 rfl (lv_at hl 2 rfl) ?_
      refine lv_iconst (v := 1) hx hb dX9_row_52 (by decide) ?_
      refine lv_icmp_ne (tgt := 64) hx hb dX9_row_53 (by decide) (fun hc => ?_) (fun hc => ?_)
      · have hq := hq.2 hc
        refine lv_aload_n hx hb dX9_row_64 rfl (lv_at hl 0 rfl) ?_
        refine lv_iload_n hx hb dX9_row_65 rfl (lv_at hl 1 rfl) ?_
        refine kr_Vi (k := (25, 0, 0)) (As := [.int v1]) (rest := []) C0 hK hP hS hl (km_X9_sentenceOfRow l hI hq) kd_X9_sentenceOfRow kq_1188 (kv_s (by decide) (by decide)) rfl rfl rfl ⟨rfl, rfl, Nat.le_of_ble_eq_true rfl, Nat.le_of_ble_eq_true rfl⟩ rfl (Nat.le_of_ble_eq_true rfl) dX9_row_66 ⟨Nat.zero_le _, Nat.zero_le _⟩ (fun r8 σ7 H locs hq hP hS => ?_)
        exact kr_iret C0 hK hP hS hq dX9_row_69
      · have hq := hq.1 hc
        refine lv_aload_n hx hb dX9_row_56 rfl (lv_at hl 0 rfl) ?_
        refine lv_iload_n hx hb dX9_row_57 rfl (lv_at hl 1 rfl) ?_
        refine kr_Vi (k := (25, 0, 0)) (As := [.int v1]) (rest := []) C0 hK hP hS hl (km_X9_lengthOfRow l hI hq) kd_X9_lengthOfRow kq_1184 (kv_s (by decide) (by decide)) rfl rfl rfl ⟨rfl, rfl, Nat.le_of_ble_eq_true rfl, Nat.le_of_ble_eq_true rfl⟩ rfl (Nat.le_of_ble_eq_true rfl) dX9_row_58 ⟨Nat.zero_le _, Nat.zero_le _⟩ (fun r10 σ9 H locs hq hP hS => ?_)
        refine lv_goto (tgt := 69) hx hb dX9_row_61 (by decide) ?_
        exact kr_iret C0 hK hP hS hq dX9_row_69
    · have hq := hq.1 hc
      refine lv_aload_n hx hb dX9_row_42 rfl (lv_at hl 0 rfl) ?_
      refine kg_X9_rowKind C0 hK hP (kv_s (by decide) (by decide)) kq_974 dX9_row_43 ?_
      refine lv_iload_n hx hb dX9_row_46 rfl (lv_at hl 1 rfl) ?_
      obtain ⟨b11, hq⟩ := hq
      refine kr_iald C0 hK hP (kv_s (by decide) (by decide)) rfl b11 dX9_row_47 ?_
      refine lv_goto (tgt := 69) hx hb dX9_row_48 (by decide) ?_
      exact kr_iret C0 hK hP hS hq dX9_row_69
  · have hq := hq.2 hc
    refine lv_iconst (v := 0) hx hb dX9_row_36 (by decide) ?_
    exact kr_iret C0 hK hP hS hq dX9_row_37
set_option maxHeartbeats 4000000 in
set_option maxRecDepth 100000 in
theorem km_X9_row (l : Launch) {G : ka_G} (hI : ka_I G) {σ : ka_S} {v1 : Int32} {v2 : Int32} {Q : Int32 → ka_S → Prop} (hq : kw_X9_row σ v1 v2 Q) : kc_i l yX9_row (kw_ yX9_row cX9_row 3 (some .int)) rm_X9_row G [.ref (ka_a G (25, 0, 0)), .int v1, .int v2] σ Q := by
  refine ka_of "GlossRowsModel" rfl (by decide) (Nat.le_of_ble_eq_true rfl) ?_
  intro p e s m below meth c C0 hK H locs hP hS ls hl
  obtain ⟨hx, hb, -, hml, hown, hts, -⟩ := id C0
  have hl : lv_has ls 3 [(0, .ref (ka_a G (25, 0, 0))), (1, .int v1), (2, .int v2)] := hl
  unfold kw_X9_row at hq
  refine lv_aload_n hx hb dX9_row_0 rfl (lv_at hl 0 rfl) ?_
  refine lv_aload_n hx hb dX9_row_1 rfl (lv_at hl 0 rfl) ?_
  refine lv_iload_n hx hb dX9_row_2 rfl (lv_at hl 1 rfl) ?_
  refine kr_Vi (k := (25, 0, 0)) (As := [.int v1]) (rest := [.ref (ka_a G (25, 0, 0))]) C0 hK hP hS hl (km_X9_isRow l hI hq) kd_X9_isRow kq_1180 (kv_s (by decide) (by decide)) rfl rfl rfl ⟨rfl, rfl, Nat.le_of_ble_eq_true rfl, Nat.le_of_ble_eq_true rfl⟩ rfl (Nat.le_of_ble_eq_true rfl) dX9_row_3 ⟨Nat.zero_le _, Nat.zero_le _⟩ (fun r2 σ1 H locs hq hP hS => ?_)
  refine lv_if_ne (tgt := 13) hx hb dX9_row_6 (by decide) (fun hc => ?_) (fun hc => ?_)
  · have hq := hq.2 hc
    refine lv_iload_n hx hb dX9_row_13 rfl (lv_at hl 2 rfl) ?_
    refine lv_i2l hx hb dX9_row_14 rfl ?_
    refine lv_lconst (v := 0) hx hb dX9_row_15 (by decide) ?_
    refine lv_ldc2 hx hb hown (hts _ kq_954) dX9_row_16 ?_
    refine kr_Si (As := [.long v2.toInt64, .long (0 : Int64), .long (2 : Int64)]) (rest := [.ref (ka_a G (25, 0, 0))]) C0 hK hP hS hl (km_X9_in l hI hq) kd_X9_in kq_1031 ⟨rfl, rfl, Nat.le_of_ble_eq_true rfl, Nat.le_of_ble_eq_true rfl⟩ rfl (Nat.le_of_ble_eq_true rfl) dX9_row_19 ⟨Nat.zero_le _, Nat.zero_le _⟩ (fun r4 σ3 H locs hq hP hS => ?_)
    refine lv_if_ne (tgt := 29) hx hb dX9_row_22 (by decide) (fun hc => ?_) (fun hc => ?_)
    · have hq := hq.2 hc
      refine lv_iconst (v := 0) hx hb dX9_row_29 (by decide) ?_
      exact kb_X9_row_30 hI C0 hK σ3 v1 v2 (0 : Int32) hq H locs hP hS ls (lv_sub hl [0, 1, 2] rfl)
    · have hq := hq.1 hc
      refine lv_iconst (v := 2) hx hb dX9_row_25 (by decide) ?_
      refine lv_goto (tgt := 30) hx hb dX9_row_26 (by decide) ?_
      exact kb_X9_row_30 hI C0 hK σ3 v1 v2 (2 : Int32) hq H locs hP hS ls (lv_sub hl [0, 1, 2] rfl)
  · have hq := hq.1 hc
    refine lv_iconst (v := 1) hx hb dX9_row_9 (by decide) ?_
    refine lv_goto (tgt := 30) hx hb dX9_row_10 (by decide) ?_
    exact kb_X9_row_30 hI C0 hK σ1 v1 v2 (1 : Int32) hq H locs hP hS ls (lv_sub hl [0, 1, 2] rfl)
/-! GlossRowsModel.at(II)I -/
def rm_X9_at : Room := { frames := 7, cells := 0, slots := 0, locals := 168 }
def kw_X9_at_175 (K80 : ka_S → Int32 → Int32 → Int32 → Int32 → Prop) (Q : Int32 → ka_S → Prop) (σ : ka_S) (v1 : Int32) (v2 : Int32) (v4 : Int32) (t1 : Int32) (t2 : Int32) : Prop := vp_in (4 : Int32) 253 ∧
  vp_in v4 12 ∧
  kw_X9_shown σ (37, 0, 0) t1 t2 ((σ.2 (37, 0, 0) (4 : Int32).toNatClampNeg).toInt32) (v2 - (σ.1 (28, 0, 0) v4.toNatClampNeg)) (fun r27 σ26 => 
  ∀ x28 : Int32, x28 = v4 + (1 : Int32) →
  K80 σ26 v1 v2 r27 x28)
def kw_X9_at_147 (K80 : ka_S → Int32 → Int32 → Int32 → Int32 → Prop) (Q : Int32 → ka_S → Prop) (σ : ka_S) (v1 : Int32) (v2 : Int32) (v3 : Int32) (v4 : Int32) (t0 : Int32) : Prop := (t0 = (0 : Int32) → ∀ x22 : Int32, x22 = v4 + (1 : Int32) →
    K80 σ v1 v2 v3 x22) ∧
  (¬ t0 = (0 : Int32) → vp_in v1 72 ∧
    ((σ.1 (32, 0, 0) v1.toNatClampNeg) = (1 : Int32) → kw_X9_at_175 K80 Q σ v1 v2 v4 v4 (1 : Int32)) ∧
    (¬ (σ.1 (32, 0, 0) v1.toNatClampNeg) = (1 : Int32) → kw_X9_at_175 K80 Q σ v1 v2 v4 v4 (0 : Int32)))
def kw_X9_at_146 (K80 : ka_S → Int32 → Int32 → Int32 → Int32 → Prop) (Q : Int32 → ka_S → Prop) (σ : ka_S) (v1 : Int32) (v2 : Int32) (v3 : Int32) (v4 : Int32) : Prop := kw_X9_at_147 K80 Q σ v1 v2 v3 v4 (0 : Int32)
def kw_X9_at_80 (Q : Int32 → ka_S → Prop) : Nat → ka_S → Int32 → Int32 → Int32 → Int32 → Prop
  | 0, _, _, _, _, _ => False
  | n + 1, σ, v1, v2, v3, v4 => kw_X9_many σ (37, 0, 0) (fun r14 σ13 => 
    (r14 ≤ v4 → Q v3 σ13) ∧
    (¬ r14 ≤ v4 → vp_in v4 12 ∧
      vp_in v1 72 ∧
      ((σ13.1 (27, 0, 0) v4.toNatClampNeg) = (σ13.1 (33, 0, 0) v1.toNatClampNeg) → vp_in v4 12 ∧
        vp_in v4 12 ∧
        vp_in v4 12 ∧
        kw_X9_in σ13 v2.toInt64 ((σ13.1 (28, 0, 0) v4.toNatClampNeg).toInt64) ((((σ13.1 (28, 0, 0) v4.toNatClampNeg) + (σ13.1 (29, 0, 0) v4.toNatClampNeg)).toInt64) - (1 : Int64)) (fun r21 σ20 => 
        (r21 = (0 : Int32) → kw_X9_at_146 (kw_X9_at_80 Q n) Q σ20 v1 v2 v3 v4) ∧
        (¬ r21 = (0 : Int32) → kw_X9_at_147 (kw_X9_at_80 Q n) Q σ20 v1 v2 v3 v4 (1 : Int32)))) ∧
      (¬ (σ13.1 (27, 0, 0) v4.toNatClampNeg) = (σ13.1 (33, 0, 0) v1.toNatClampNeg) → kw_X9_at_146 (kw_X9_at_80 Q n) Q σ13 v1 v2 v3 v4)))
def kw_X9_at_22 (Q : Int32 → ka_S → Prop) (σ : ka_S) (v1 : Int32) (v2 : Int32) (t1 : Int32) : Prop := kw_X9_refused σ t1 (fun r4 σ3 => 
  (r4 = (0 : Int32) → kw_X9_lengthOfRow σ3 v1 (fun r6 σ5 => 
    (v2 < r6 → vp_in v1 72 ∧
      ((σ5.1 (32, 0, 0) v1.toNatClampNeg) = (2 : Int32) → vp_in v1 72 ∧
        vp_in v1 72 ∧
        kw_X9_freeChar σ5 (37, 0, 0) (σ5.1 (33, 0, 0) v1.toNatClampNeg) ((σ5.1 (34, 0, 0) v1.toNatClampNeg) + v2) (fun r12 σ11 => 
        Q r12 σ11)) ∧
      (¬ (σ5.1 (32, 0, 0) v1.toNatClampNeg) = (2 : Int32) → ∃ n8 : Nat, kw_X9_at_80 Q n8 σ5 v1 v2 (32 : Int32) (0 : Int32))) ∧
    (¬ v2 < r6 → Q (-9 : Int32) σ5))) ∧
  (¬ r4 = (0 : Int32) → Q (0 : Int32) σ3))
def kw_X9_at (σ : ka_S) (v1 : Int32) (v2 : Int32) (Q : Int32 → ka_S → Prop) : Prop := kw_X9_isRow σ v1 (fun r2 σ1 => 
  (r2 = (0 : Int32) → kw_X9_at_22 Q σ1 v1 v2 (1 : Int32)) ∧
  (¬ r2 = (0 : Int32) → ((0 : Int32) ≤ v2 → kw_X9_at_22 Q σ1 v1 v2 (0 : Int32)) ∧
    (¬ (0 : Int32) ≤ v2 → kw_X9_at_22 Q σ1 v1 v2 (2 : Int32))))
set_option maxHeartbeats 4000000 in
set_option maxRecDepth 100000 in
theorem kb_X9_at_175 {p : Program} {l : Launch} {e : Env} {s : State} {m : MethodId} {args : Array Value} {below : List Frame} {meth : Method} {c : Code} {G : ka_G} (hI : ka_I G) (C0 : ka_C p s m args meth c cX9_at 6 "GlossRowsModel" (some .int)) (hK : ka_Kn G s) {Q : Int32 → ka_S → Prop} {K80 : ka_S → Int32 → Int32 → Int32 → Int32 → Prop} (hk80 : ∀ (σ : ka_S) (v1 : Int32) (v2 : Int32) (v3 : Int32) (v4 : Int32), K80 σ v1 v2 v3 v4 → ∀ (H : Heap) (locs : List Loc), ka_P G σ H → va_S (ka_A G) s.heap H locs → ∀ ls : Array Slot, lv_has ls 6 [(0, .ref (ka_a G (25, 0, 0))), (1, .int v1), (2, .int v2), (3, .int v3), (4, .int v4)] → W p l e rm_X9_at s m args below meth c H locs 0 0 (MQ below (va_Qi Q (ka_B G) (ka_A G)) args s 0 0 (ka_A G)) (F0 m 80 ls [])) : ∀ (σ : ka_S) (v1 : Int32) (v2 : Int32) (v4 : Int32) (t1 : Int32) (t2 : Int32), kw_X9_at_175 K80 Q σ v1 v2 v4 t1 t2 → ∀ (H : Heap) (locs : List Loc), ka_P G σ H → va_S (ka_A G) s.heap H locs → ∀ ls : Array Slot, lv_has ls 6 [(0, .ref (ka_a G (25, 0, 0))), (1, .int v1), (2, .int v2), (4, .int v4)] → W p l e rm_X9_at s m args below meth c H locs 0 0 (MQ below (va_Qi Q (ka_B G) (ka_A G)) args s 0 0 (ka_A G)) (F0 m 175 ls [.int t2, .int t1, .ref (ka_a G (37, 0, 0))]) := by
  obtain ⟨hx, hb, -, hml, hown, hts, -⟩ := id C0
  intro σ v1 v2 v4 t1 t2 hq H locs hP hS ls hl
  unfold kw_X9_at_175 at hq
  refine lv_aload_n hx hb dX9_at_175 rfl (lv_at hl 0 rfl) ?_
  refine kg_X9_now C0 hK hP (kv_s (by decide) (by decide)) kq_960 dX9_at_176 ?_
  refine lv_iconst (v := 4) hx hb dX9_at_179 (by decide) ?_
  obtain ⟨b24, hq⟩ := hq
  refine kr_lald C0 hK hP (kv_s (by decide) (by decide)) rfl b24 dX9_at_180 ?_
  refine lv_l2i hx hb dX9_at_181 rfl ?_
  refine lv_iload_n hx hb dX9_at_182 rfl (lv_at hl 2 rfl) ?_
  refine lv_aload_n hx hb dX9_at_183 rfl (lv_at hl 0 rfl) ?_
  refine kg_X9_columnOf C0 hK hP (kv_s (by decide) (by decide)) kq_970 dX9_at_184 ?_
  refine lv_iload hx hb dX9_at_187 (lv_at hl 3 rfl) ?_
  obtain ⟨b25, hq⟩ := hq
  refine kr_iald C0 hK hP (kv_s (by decide) (by decide)) rfl b25 dX9_at_189 ?_
  refine lv_isub hx hb dX9_at_190 ?_
  refine kr_Si (As := [.ref (ka_a G (37, 0, 0)), .int t1, .int t2, .int ((σ.2 (37, 0, 0) (4 : Int32).toNatClampNeg).toInt32), .int (v2 - (σ.1 (28, 0, 0) v4.toNatClampNeg))]) (rest := []) C0 hK hP hS hl (km_X9_shown l hI kl_37 hq) kd_X9_shown kq_1200 ⟨rfl, rfl, Nat.le_of_ble_eq_true rfl, Nat.le_of_ble_eq_true rfl⟩ rfl (Nat.le_of_ble_eq_true rfl) dX9_at_191 ⟨Nat.zero_le _, Nat.zero_le _⟩ (fun r27 σ26 H locs hq hP hS => ?_)
  refine lv_goto (tgt := 198) hx hb dX9_at_194 (by decide) ?_
  refine lv_istore_n (lv' := [(3, .int r27), (0, .ref (ka_a G (25, 0, 0))), (1, .int v1), (2, .int v2), (4, .int v4)]) hx hb dX9_at_198 rfl hl (by decide) rfl (fun ls hl => ?_)
  obtain ⟨x28, ex28⟩ : ∃ y : Int32, y = v4 + (1 : Int32) := ⟨_, rfl⟩
  have hq := hq x28 ex28
  refine lv_iinc (v := x28) (lv' := [(4, .int x28), (3, .int r27), (0, .ref (ka_a G (25, 0, 0))), (1, .int v1), (2, .int v2)]) hx hb dX9_at_199 hl (k := 4) rfl (by rw [ex28]; rfl) (by decide) rfl (fun ls hl => ?_)
  refine lv_goto (tgt := 80) hx hb dX9_at_202 (by decide) ?_
  exact hk80 σ26 v1 v2 r27 x28 hq H locs hP hS ls (lv_sub hl [2, 3, 4, 1, 0] rfl)
set_option maxHeartbeats 4000000 in
set_option maxRecDepth 100000 in
theorem kb_X9_at_147 {p : Program} {l : Launch} {e : Env} {s : State} {m : MethodId} {args : Array Value} {below : List Frame} {meth : Method} {c : Code} {G : ka_G} (hI : ka_I G) (C0 : ka_C p s m args meth c cX9_at 6 "GlossRowsModel" (some .int)) (hK : ka_Kn G s) {Q : Int32 → ka_S → Prop} {K80 : ka_S → Int32 → Int32 → Int32 → Int32 → Prop} (hk80 : ∀ (σ : ka_S) (v1 : Int32) (v2 : Int32) (v3 : Int32) (v4 : Int32), K80 σ v1 v2 v3 v4 → ∀ (H : Heap) (locs : List Loc), ka_P G σ H → va_S (ka_A G) s.heap H locs → ∀ ls : Array Slot, lv_has ls 6 [(0, .ref (ka_a G (25, 0, 0))), (1, .int v1), (2, .int v2), (3, .int v3), (4, .int v4)] → W p l e rm_X9_at s m args below meth c H locs 0 0 (MQ below (va_Qi Q (ka_B G) (ka_A G)) args s 0 0 (ka_A G)) (F0 m 80 ls [])) : ∀ (σ : ka_S) (v1 : Int32) (v2 : Int32) (v3 : Int32) (v4 : Int32) (t0 : Int32), kw_X9_at_147 K80 Q σ v1 v2 v3 v4 t0 → ∀ (H : Heap) (locs : List Loc), ka_P G σ H → va_S (ka_A G) s.heap H locs → ∀ ls : Array Slot, lv_has ls 6 [(0, .ref (ka_a G (25, 0, 0))), (1, .int v1), (2, .int v2), (3, .int v3), (4, .int v4)] → W p l e rm_X9_at s m args below meth c H locs 0 0 (MQ below (va_Qi Q (ka_B G) (ka_A G)) args s 0 0 (ka_A G)) (F0 m 147 ls [.int t0]) := by
  obtain ⟨hx, hb, -, hml, hown, hts, -⟩ := id C0
  intro σ v1 v2 v3 v4 t0 hq H locs hP hS ls hl
  unfold kw_X9_at_147 at hq
  refine lv_istore (lv' := [(5, .int t0), (0, .ref (ka_a G (25, 0, 0))), (1, .int v1), (2, .int v2), (3, .int v3), (4, .int v4)]) hx hb dX9_at_147 hl (by decide) rfl (fun ls hl => ?_)
  refine lv_iload hx hb dX9_at_149 (lv_at hl 0 rfl) ?_
  refine lv_if_eq (tgt := 197) hx hb dX9_at_151 (by decide) (fun hc => ?_) (fun hc => ?_)
  · have hq := hq.1 hc
    refine lv_iload_n hx hb dX9_at_197 rfl (lv_at hl 4 rfl) ?_
    refine lv_istore_n (lv' := [(3, .int v3), (5, .int t0), (0, .ref (ka_a G (25, 0, 0))), (1, .int v1), (2, .int v2), (4, .int v4)]) hx hb dX9_at_198 rfl hl (by decide) rfl (fun ls hl => ?_)
    obtain ⟨x22, ex22⟩ : ∃ y : Int32, y = v4 + (1 : Int32) := ⟨_, rfl⟩
    have hq := hq x22 ex22
    refine lv_iinc (v := x22) (lv' := [(4, .int x22), (3, .int v3), (5, .int t0), (0, .ref (ka_a G (25, 0, 0))), (1, .int v1), (2, .int v2)]) hx hb dX9_at_199 hl (k := 5) rfl (by rw [ex22]; rfl) (by decide) rfl (fun ls hl => ?_)
    refine lv_goto (tgt := 80) hx hb dX9_at_202 (by decide) ?_
    exact hk80 σ v1 v2 v3 x22 hq H locs hP hS ls (lv_sub hl [3, 4, 5, 1, 0] rfl)
  · have hq := hq.2 hc
    refine lv_aload_n hx hb dX9_at_154 rfl (lv_at hl 1 rfl) ?_
    refine kg_X9_now C0 hK hP (kv_s (by decide) (by decide)) kq_960 dX9_at_155 ?_
    refine lv_iload hx hb dX9_at_158 (lv_at hl 5 rfl) ?_
    refine lv_aload_n hx hb dX9_at_160 rfl (lv_at hl 1 rfl) ?_
    refine kg_X9_rowKind C0 hK hP (kv_s (by decide) (by decide)) kq_974 dX9_at_161 ?_
    refine lv_iload_n hx hb dX9_at_164 rfl (lv_at hl 2 rfl) ?_
    obtain ⟨b23, hq⟩ := hq
    refine kr_iald C0 hK hP (kv_s (by decide) (by decide)) rfl b23 dX9_at_165 ?_
    refine lv_iconst (v := 1) hx hb dX9_at_166 (by decide) ?_
    refine lv_icmp_ne (tgt := 174) hx hb dX9_at_167 (by decide) (fun hc => ?_) (fun hc => ?_)
    · have hq := hq.2 hc
      refine lv_iconst (v := 0) hx hb dX9_at_174 (by decide) ?_
      exact kb_X9_at_175 hI C0 hK hk80 σ v1 v2 v4 v4 (0 : Int32) hq H locs hP hS ls (lv_sub hl [1, 2, 3, 5] rfl)
    · have hq := hq.1 hc
      refine lv_iconst (v := 1) hx hb dX9_at_170 (by decide) ?_
      refine lv_goto (tgt := 175) hx hb dX9_at_171 (by decide) ?_
      exact kb_X9_at_175 hI C0 hK hk80 σ v1 v2 v4 v4 (1 : Int32) hq H locs hP hS ls (lv_sub hl [1, 2, 3, 5] rfl)
set_option maxHeartbeats 4000000 in
set_option maxRecDepth 100000 in
theorem kb_X9_at_146 {p : Program} {l : Launch} {e : Env} {s : State} {m : MethodId} {args : Array Value} {below : List Frame} {meth : Method} {c : Code} {G : ka_G} (hI : ka_I G) (C0 : ka_C p s m args meth c cX9_at 6 "GlossRowsModel" (some .int)) (hK : ka_Kn G s) {Q : Int32 → ka_S → Prop} {K80 : ka_S → Int32 → Int32 → Int32 → Int32 → Prop} (hk80 : ∀ (σ : ka_S) (v1 : Int32) (v2 : Int32) (v3 : Int32) (v4 : Int32), K80 σ v1 v2 v3 v4 → ∀ (H : Heap) (locs : List Loc), ka_P G σ H → va_S (ka_A G) s.heap H locs → ∀ ls : Array Slot, lv_has ls 6 [(0, .ref (ka_a G (25, 0, 0))), (1, .int v1), (2, .int v2), (3, .int v3), (4, .int v4)] → W p l e rm_X9_at s m args below meth c H locs 0 0 (MQ below (va_Qi Q (ka_B G) (ka_A G)) args s 0 0 (ka_A G)) (F0 m 80 ls [])) : ∀ (σ : ka_S) (v1 : Int32) (v2 : Int32) (v3 : Int32) (v4 : Int32), kw_X9_at_146 K80 Q σ v1 v2 v3 v4 → ∀ (H : Heap) (locs : List Loc), ka_P G σ H → va_S (ka_A G) s.heap H locs → ∀ ls : Array Slot, lv_has ls 6 [(0, .ref (ka_a G (25, 0, 0))), (1, .int v1), (2, .int v2), (3, .int v3), (4, .int v4)] → W p l e rm_X9_at s m args below meth c H locs 0 0 (MQ below (va_Qi Q (ka_B G) (ka_A G)) args s 0 0 (ka_A G)) (F0 m 146 ls []) := by
  obtain ⟨hx, hb, -, hml, hown, hts, -⟩ := id C0
  intro σ v1 v2 v3 v4 hq H locs hP hS ls hl
  unfold kw_X9_at_146 at hq
  refine lv_iconst (v := 0) hx hb dX9_at_146 (by decide) ?_
  exact kb_X9_at_147 hI C0 hK hk80 σ v1 v2 v3 v4 (0 : Int32) hq H locs hP hS ls (lv_sub hl [0, 1, 2, 3, 4] rfl)
set_option maxHeartbeats 4000000 in
set_option maxRecDepth 100000 in
theorem kb_X9_at_80 {p : Program} {l : Launch} {e : Env} {s : State} {m : MethodId} {args : Array Value} {below : List Frame} {meth : Method} {c : Code} {G : ka_G} (hI : ka_I G) (C0 : ka_C p s m args meth c cX9_at 6 "GlossRowsModel" (some .int)) (hK : ka_Kn G s) {Q : Int32 → ka_S → Prop} : ∀ (n : Nat) (σ : ka_S) (v1 : Int32) (v2 : Int32) (v3 : Int32) (v4 : Int32), kw_X9_at_80 Q n σ v1 v2 v3 v4 → ∀ (H : Heap) (locs : List Loc), ka_P G σ H → va_S (ka_A G) s.heap H locs → ∀ ls : Array Slot, lv_has ls 6 [(0, .ref (ka_a G (25, 0, 0))), (1, .int v1), (2, .int v2), (3, .int v3), (4, .int v4)] → W p l e rm_X9_at s m args below meth c H locs 0 0 (MQ below (va_Qi Q (ka_B G) (ka_A G)) args s 0 0 (ka_A G)) (F0 m 80 ls []) := by
  obtain ⟨hx, hb, -, hml, hown, hts, -⟩ := id C0
  intro n
  induction n with
  | zero =>
    intro σ v1 v2 v3 v4 hq
    rw [kw_X9_at_80] at hq
    exact hq.elim
  | succ n ih =>
    intro σ v1 v2 v3 v4 hq H locs hP hS ls hl
    rw [kw_X9_at_80] at hq
    refine lv_iload hx hb dX9_at_80 (lv_at hl 4 rfl) ?_
    refine lv_aload_n hx hb dX9_at_82 rfl (lv_at hl 0 rfl) ?_
    refine kg_X9_now C0 hK hP (kv_s (by decide) (by decide)) kq_960 dX9_at_83 ?_
    refine kr_Si (As := [.ref (ka_a G (37, 0, 0))]) (rest := [.int v4]) C0 hK hP hS hl (km_X9_many l hI kl_37 hq) kd_X9_many kq_1077 ⟨rfl, rfl, Nat.le_of_ble_eq_true rfl, Nat.le_of_ble_eq_true rfl⟩ rfl (Nat.le_of_ble_eq_true rfl) dX9_at_86 ⟨Nat.zero_le _, Nat.zero_le _⟩ (fun r14 σ13 H locs hq hP hS => ?_)
    refine lv_icmp_ge (tgt := 205) hx hb dX9_at_89 (by decide) (fun hc => ?_) (fun hc => ?_)
    · have hq := hq.1 hc
      refine lv_iload_n hx hb dX9_at_205 rfl (lv_at hl 3 rfl) ?_
      exact kr_iret C0 hK hP hS hq dX9_at_206
    · have hq := hq.2 hc
      refine lv_aload_n hx hb dX9_at_92 rfl (lv_at hl 0 rfl) ?_
      refine kg_X9_lineOf C0 hK hP (kv_s (by decide) (by decide)) kq_969 dX9_at_93 ?_
      refine lv_iload hx hb dX9_at_96 (lv_at hl 4 rfl) ?_
      obtain ⟨b15, hq⟩ := hq
      refine kr_iald C0 hK hP (kv_s (by decide) (by decide)) rfl b15 dX9_at_98 ?_
      refine lv_aload_n hx hb dX9_at_99 rfl (lv_at hl 0 rfl) ?_
      refine kg_X9_rowOf C0 hK hP (kv_s (by decide) (by decide)) kq_975 dX9_at_100 ?_
      refine lv_iload_n hx hb dX9_at_103 rfl (lv_at hl 1 rfl) ?_
      obtain ⟨b16, hq⟩ := hq
      refine kr_iald C0 hK hP (kv_s (by decide) (by decide)) rfl b16 dX9_at_104 ?_
      refine lv_icmp_ne (tgt := 146) hx hb dX9_at_105 (by decide) (fun hc => ?_) (fun hc => ?_)
      · have hq := hq.2 hc
        exact kb_X9_at_146 hI C0 hK ih σ13 v1 v2 v3 v4 hq H locs hP hS ls (lv_sub hl [0, 1, 2, 3, 4] rfl)
      · have hq := hq.1 hc
        refine lv_iload_n hx hb dX9_at_108 rfl (lv_at hl 2 rfl) ?_
        refine lv_i2l hx hb dX9_at_109 rfl ?_
        refine lv_aload_n hx hb dX9_at_110 rfl (lv_at hl 0 rfl) ?_
        refine kg_X9_columnOf C0 hK hP (kv_s (by decide) (by decide)) kq_970 dX9_at_111 ?_
        refine lv_iload hx hb dX9_at_114 (lv_at hl 4 rfl) ?_
        obtain ⟨b17, hq⟩ := hq
        refine kr_iald C0 hK hP (kv_s (by decide) (by decide)) rfl b17 dX9_at_116 ?_
        refine lv_i2l hx hb dX9_at_117 rfl ?_
        refine lv_aload_n hx hb dX9_at_118 rfl (lv_at hl 0 rfl) ?_
        refine kg_X9_columnOf C0 hK hP (kv_s (by decide) (by decide)) kq_970 dX9_at_119 ?_
        refine lv_iload hx hb dX9_at_122 (lv_at hl 4 rfl) ?_
        obtain ⟨b18, hq⟩ := hq
        refine kr_iald C0 hK hP (kv_s (by decide) (by decide)) rfl b18 dX9_at_124 ?_
        refine lv_aload_n hx hb dX9_at_125 rfl (lv_at hl 0 rfl) ?_
        refine kg_X9_widthOf C0 hK hP (kv_s (by decide) (by decide)) kq_971 dX9_at_126 ?_
        refine lv_iload hx hb dX9_at_129 (lv_at hl 4 rfl) ?_
        obtain ⟨b19, hq⟩ := hq
        refine kr_iald C0 hK hP (kv_s (by decide) (by decide)) rfl b19 dX9_at_131 ?_
        refine lv_iadd hx hb dX9_at_132 ?_
        refine lv_i2l hx hb dX9_at_133 rfl ?_
        refine lv_lconst (v := 1) hx hb dX9_at_134 (by decide) ?_
        refine lv_lsub hx hb dX9_at_135 ?_
        refine kr_Si (As := [.long v2.toInt64, .long ((σ13.1 (28, 0, 0) v4.toNatClampNeg).toInt64), .long ((((σ13.1 (28, 0, 0) v4.toNatClampNeg) + (σ13.1 (29, 0, 0) v4.toNatClampNeg)).toInt64) - (1 : Int64))]) (rest := []) C0 hK hP hS hl (km_X9_in l hI hq) kd_X9_in kq_1031 ⟨rfl, rfl, Nat.le_of_ble_eq_true rfl, Nat.le_of_ble_eq_true rfl⟩ rfl (Nat.le_of_ble_eq_true rfl) dX9_at_136 ⟨Nat.zero_le _, Nat.zero_le _⟩ (fun r21 σ20 H locs hq hP hS => ?_)
        refine lv_if_eq (tgt := 146) hx hb dX9_at_139 (by decide) (fun hc => ?_) (fun hc => ?_)
        · have hq := hq.1 hc
          exact kb_X9_at_146 hI C0 hK ih σ20 v1 v2 v3 v4 hq H locs hP hS ls (lv_sub hl [0, 1, 2, 3, 4] rfl)
        · have hq := hq.2 hc
          refine lv_iconst (v := 1) hx hb dX9_at_142 (by decide) ?_
          refine lv_goto (tgt := 147) hx hb dX9_at_143 (by decide) ?_
          exact kb_X9_at_147 hI C0 hK ih σ20 v1 v2 v3 v4 (1 : Int32) hq H locs hP hS ls (lv_sub hl [0, 1, 2, 3, 4] rfl)
set_option maxHeartbeats 4000000 in
set_option maxRecDepth 100000 in
theorem kb_X9_at_22 {p : Program} {l : Launch} {e : Env} {s : State} {m : MethodId} {args : Array Value} {below : List Frame} {meth : Method} {c : Code} {G : ka_G} (hI : ka_I G) (C0 : ka_C p s m args meth c cX9_at 6 "GlossRowsModel" (some .int)) (hK : ka_Kn G s) {Q : Int32 → ka_S → Prop} : ∀ (σ : ka_S) (v1 : Int32) (v2 : Int32) (t1 : Int32), kw_X9_at_22 Q σ v1 v2 t1 → ∀ (H : Heap) (locs : List Loc), ka_P G σ H → va_S (ka_A G) s.heap H locs → ∀ ls : Array Slot, lv_has ls 6 [(0, .ref (ka_a G (25, 0, 0))), (1, .int v1), (2, .int v2)] → W p l e rm_X9_at s m args below meth c H locs 0 0 (MQ below (va_Qi Q (ka_B G) (ka_A G)) args s 0 0 (ka_A G)) (F0 m 22 ls [.int t1, .ref (ka_a G (25, 0, 0))]) := by
  obtain ⟨hx, hb, -, hml, hown, hts, -⟩ := id C0
  intro σ v1 v2 t1 hq H locs hP hS ls hl
  unfold kw_X9_at_22 at hq
  refine kr_Vi (k := (25, 0, 0)) (As := [.int t1]) (rest := []) C0 hK hP hS hl (km_X9_refused l hI hq) kd_X9_refused kq_1034 (kv_s (by decide) (by decide)) rfl rfl rfl ⟨rfl, rfl, Nat.le_of_ble_eq_true rfl, Nat.le_of_ble_eq_true rfl⟩ rfl (Nat.le_of_ble_eq_true rfl) dX9_at_22 ⟨Nat.zero_le _, Nat.zero_le _⟩ (fun r4 σ3 H locs hq hP hS => ?_)
  refine lv_if_eq (tgt := 30) hx hb dX9_at_25 (by decide) (fun hc => ?_) (fun hc => ?_)
  · have hq := hq.1 hc
    refine lv_iload_n hx hb dX9_at_30 rfl (lv_at hl 2 rfl) ?_
    refine lv_aload_n hx hb dX9_at_31 rfl (lv_at hl 0 rfl) ?_
    refine lv_iload_n hx hb dX9_at_32 rfl (lv_at hl 1 rfl) ?_
    refine kr_Vi (k := (25, 0, 0)) (As := [.int v1]) (rest := [.int v2]) C0 hK hP hS hl (km_X9_lengthOfRow l hI hq) kd_X9_lengthOfRow kq_1184 (kv_s (by decide) (by decide)) rfl rfl rfl ⟨rfl, rfl, Nat.le_of_ble_eq_true rfl, Nat.le_of_ble_eq_true rfl⟩ rfl (Nat.le_of_ble_eq_true rfl) dX9_at_33 ⟨Nat.zero_le _, Nat.zero_le _⟩ (fun r6 σ5 H locs hq hP hS => ?_)
    refine lv_icmp_lt (tgt := 42) hx hb dX9_at_36 (by decide) (fun hc => ?_) (fun hc => ?_)
    · have hq := hq.1 hc
      refine lv_aload_n hx hb dX9_at_42 rfl (lv_at hl 0 rfl) ?_
      refine kg_X9_rowKind C0 hK hP (kv_s (by decide) (by decide)) kq_974 dX9_at_43 ?_
      refine lv_iload_n hx hb dX9_at_46 rfl (lv_at hl 1 rfl) ?_
      obtain ⟨b7, hq⟩ := hq
      refine kr_iald C0 hK hP (kv_s (by decide) (by decide)) rfl b7 dX9_at_47 ?_
      refine lv_iconst (v := 2) hx hb dX9_at_48 (by decide) ?_
      refine lv_icmp_ne (tgt := 74) hx hb dX9_at_49 (by decide) (fun hc => ?_) (fun hc => ?_)
      · have hq := hq.2 hc
        refine lv_bipush (v := 32) hx hb dX9_at_74 (by decide) ?_
        refine lv_istore_n (lv' := [(3, .int (32 : Int32)), (0, .ref (ka_a G (25, 0, 0))), (1, .int v1), (2, .int v2)]) hx hb dX9_at_76 rfl hl (by decide) rfl (fun ls hl => ?_)
        refine lv_iconst (v := 0) hx hb dX9_at_77 (by decide) ?_
        refine lv_istore (lv' := [(4, .int (0 : Int32)), (3, .int (32 : Int32)), (0, .ref (ka_a G (25, 0, 0))), (1, .int v1), (2, .int v2)]) hx hb dX9_at_78 hl (by decide) rfl (fun ls hl => ?_)
        obtain ⟨n8, hq⟩ := hq
        exact kb_X9_at_80 hI C0 hK n8 σ5 v1 v2 (32 : Int32) (0 : Int32) hq H locs hP hS ls (lv_sub hl [2, 3, 4, 1, 0] rfl)
      · have hq := hq.1 hc
        refine lv_aload_n hx hb dX9_at_52 rfl (lv_at hl 0 rfl) ?_
        refine kg_X9_now C0 hK hP (kv_s (by decide) (by decide)) kq_960 dX9_at_53 ?_
        refine lv_aload_n hx hb dX9_at_56 rfl (lv_at hl 0 rfl) ?_
        refine kg_X9_rowOf C0 hK hP (kv_s (by decide) (by decide)) kq_975 dX9_at_57 ?_
        refine lv_iload_n hx hb dX9_at_60 rfl (lv_at hl 1 rfl) ?_
        obtain ⟨b9, hq⟩ := hq
        refine kr_iald C0 hK hP (kv_s (by decide) (by decide)) rfl b9 dX9_at_61 ?_
        refine lv_aload_n hx hb dX9_at_62 rfl (lv_at hl 0 rfl) ?_
        refine kg_X9_rowFrom C0 hK hP (kv_s (by decide) (by decide)) kq_976 dX9_at_63 ?_
        refine lv_iload_n hx hb dX9_at_66 rfl (lv_at hl 1 rfl) ?_
        obtain ⟨b10, hq⟩ := hq
        refine kr_iald C0 hK hP (kv_s (by decide) (by decide)) rfl b10 dX9_at_67 ?_
        refine lv_iload_n hx hb dX9_at_68 rfl (lv_at hl 2 rfl) ?_
        refine lv_iadd hx hb dX9_at_69 ?_
        refine kr_Si (As := [.ref (ka_a G (37, 0, 0)), .int (σ5.1 (33, 0, 0) v1.toNatClampNeg), .int ((σ5.1 (34, 0, 0) v1.toNatClampNeg) + v2)]) (rest := []) C0 hK hP hS hl (km_X9_freeChar l hI kl_37 hq) kd_X9_freeChar kq_1196 ⟨rfl, rfl, Nat.le_of_ble_eq_true rfl, Nat.le_of_ble_eq_true rfl⟩ rfl (Nat.le_of_ble_eq_true rfl) dX9_at_70 ⟨Nat.zero_le _, Nat.zero_le _⟩ (fun r12 σ11 H locs hq hP hS => ?_)
        exact kr_iret C0 hK hP hS hq dX9_at_73
    · have hq := hq.2 hc
      refine lv_bipush (v := -9) hx hb dX9_at_39 (by decide) ?_
      exact kr_iret C0 hK hP hS hq dX9_at_41
  · have hq := hq.2 hc
    refine lv_iconst (v := 0) hx hb dX9_at_28 (by decide) ?_
    exact kr_iret C0 hK hP hS hq dX9_at_29
set_option maxHeartbeats 4000000 in
set_option maxRecDepth 100000 in
theorem km_X9_at (l : Launch) {G : ka_G} (hI : ka_I G) {σ : ka_S} {v1 : Int32} {v2 : Int32} {Q : Int32 → ka_S → Prop} (hq : kw_X9_at σ v1 v2 Q) : kc_i l yX9_at (kw_ yX9_at cX9_at 6 (some .int)) rm_X9_at G [.ref (ka_a G (25, 0, 0)), .int v1, .int v2] σ Q := by
  refine ka_of "GlossRowsModel" rfl (by decide) (Nat.le_of_ble_eq_true rfl) ?_
  intro p e s m below meth c C0 hK H locs hP hS ls hl
  obtain ⟨hx, hb, -, hml, hown, hts, -⟩ := id C0
  have hl : lv_has ls 6 [(0, .ref (ka_a G (25, 0, 0))), (1, .int v1), (2, .int v2)] := hl
  unfold kw_X9_at at hq
  refine lv_aload_n hx hb dX9_at_0 rfl (lv_at hl 0 rfl) ?_
  refine lv_aload_n hx hb dX9_at_1 rfl (lv_at hl 0 rfl) ?_
  refine lv_iload_n hx hb dX9_at_2 rfl (lv_at hl 1 rfl) ?_
  refine kr_Vi (k := (25, 0, 0)) (As := [.int v1]) (rest := [.ref (ka_a G (25, 0, 0))]) C0 hK hP hS hl (km_X9_isRow l hI hq) kd_X9_isRow kq_1180 (kv_s (by decide) (by decide)) rfl rfl rfl ⟨rfl, rfl, Nat.le_of_ble_eq_true rfl, Nat.le_of_ble_eq_true rfl⟩ rfl (Nat.le_of_ble_eq_true rfl) dX9_at_3 ⟨Nat.zero_le _, Nat.zero_le _⟩ (fun r2 σ1 H locs hq hP hS => ?_)
  refine lv_if_ne (tgt := 13) hx hb dX9_at_6 (by decide) (fun hc => ?_) (fun hc => ?_)
  · have hq := hq.2 hc
    refine lv_iload_n hx hb dX9_at_13 rfl (lv_at hl 2 rfl) ?_
    refine lv_if_ge (tgt := 21) hx hb dX9_at_14 (by decide) (fun hc => ?_) (fun hc => ?_)
    · have hq := hq.1 hc
      refine lv_iconst (v := 0) hx hb dX9_at_21 (by decide) ?_
      exact kb_X9_at_22 hI C0 hK σ1 v1 v2 (0 : Int32) hq H locs hP hS ls (lv_sub hl [0, 1, 2] rfl)
    · have hq := hq.2 hc
      refine lv_iconst (v := 2) hx hb dX9_at_17 (by decide) ?_
      refine lv_goto (tgt := 22) hx hb dX9_at_18 (by decide) ?_
      exact kb_X9_at_22 hI C0 hK σ1 v1 v2 (2 : Int32) hq H locs hP hS ls (lv_sub hl [0, 1, 2] rfl)
  · have hq := hq.1 hc
    refine lv_iconst (v := 1) hx hb dX9_at_9 (by decide) ?_
    refine lv_goto (tgt := 22) hx hb dX9_at_10 (by decide) ?_
    exact kb_X9_at_22 hI C0 hK σ1 v1 v2 (1 : Int32) hq H locs hP hS ls (lv_sub hl [0, 1, 2] rfl)
/-! GlossRowsModel.insert(I)I -/
def rm_X9_insert : Room := { frames := 4, cells := 0, slots := 0, locals := 94 }
def kw_X9_insert_53 (Q : Int32 → ka_S → Prop) (σ : ka_S) (v1 : Int32) (t1 : Int32) : Prop := kw_X9_refused σ t1 (fun r8 σ7 => 
  (r8 = (0 : Int32) → kw_X9_note σ7 (fun σ9 => 
    kw_X9_insertOn σ9 (37, 0, 0) v1 (fun σ10 => 
    kw_X9_many σ10 (37, 0, 0) (fun r12 σ11 => 
    Q r12 σ11)))) ∧
  (¬ r8 = (0 : Int32) → Q (0 : Int32) σ7))
def kw_X9_insert_48 (Q : Int32 → ka_S → Prop) (σ : ka_S) (v1 : Int32) : Prop := kw_X9_insert_53 Q σ v1 (2 : Int32)
def kw_X9_insert (σ : ka_S) (v1 : Int32) (Q : Int32 → ka_S → Prop) : Prop := vp_in (0 : Int32) 253 ∧
  kw_X9_in σ v1.toInt64 (0 : Int64) (σ.2 (37, 0, 0) (0 : Int32).toNatClampNeg) (fun r3 σ2 => 
  (r3 = (0 : Int32) → kw_X9_insert_53 Q σ2 v1 (1 : Int32)) ∧
  (¬ r3 = (0 : Int32) → kw_X9_readText σ2 (fun r5 σ4 => 
    (r5 = (-9 : Int32) → vp_in (0 : Int32) 253 ∧
      (((σ4.2 (37, 0, 0) (0 : Int32).toNatClampNeg) + ((σ4.1 (25, 0, 0) 3).toInt64)) ≤ (12 : Int64) → kw_X9_insert_53 Q σ4 v1 (0 : Int32)) ∧
      (¬ ((σ4.2 (37, 0, 0) (0 : Int32).toNatClampNeg) + ((σ4.1 (25, 0, 0) 3).toInt64)) ≤ (12 : Int64) → kw_X9_insert_48 Q σ4 v1)) ∧
    (¬ r5 = (-9 : Int32) → kw_X9_insert_48 Q σ4 v1))))
set_option maxHeartbeats 4000000 in
set_option maxRecDepth 100000 in
theorem kb_X9_insert_53 {p : Program} {l : Launch} {e : Env} {s : State} {m : MethodId} {args : Array Value} {below : List Frame} {meth : Method} {c : Code} {G : ka_G} (hI : ka_I G) (C0 : ka_C p s m args meth c cX9_insert 2 "GlossRowsModel" (some .int)) (hK : ka_Kn G s) {Q : Int32 → ka_S → Prop} : ∀ (σ : ka_S) (v1 : Int32) (t1 : Int32), kw_X9_insert_53 Q σ v1 t1 → ∀ (H : Heap) (locs : List Loc), ka_P G σ H → va_S (ka_A G) s.heap H locs → ∀ ls : Array Slot, lv_has ls 2 [(0, .ref (ka_a G (25, 0, 0))), (1, .int v1)] → W p l e rm_X9_insert s m args below meth c H locs 0 0 (MQ below (va_Qi Q (ka_B G) (ka_A G)) args s 0 0 (ka_A G)) (F0 m 53 ls [.int t1, .ref (ka_a G (25, 0, 0))]) := by
  obtain ⟨hx, hb, -, hml, hown, hts, -⟩ := id C0
  intro σ v1 t1 hq H locs hP hS ls hl
  unfold kw_X9_insert_53 at hq
  refine kr_Vi (k := (25, 0, 0)) (As := [.int t1]) (rest := []) C0 hK hP hS hl (km_X9_refused l hI hq) kd_X9_refused kq_1034 (kv_s (by decide) (by decide)) rfl rfl rfl ⟨rfl, rfl, Nat.le_of_ble_eq_true rfl, Nat.le_of_ble_eq_true rfl⟩ rfl (Nat.le_of_ble_eq_true rfl) dX9_insert_53 ⟨Nat.zero_le _, Nat.zero_le _⟩ (fun r8 σ7 H locs hq hP hS => ?_)
  refine lv_if_eq (tgt := 61) hx hb dX9_insert_56 (by decide) (fun hc => ?_) (fun hc => ?_)
  · have hq := hq.1 hc
    refine lv_aload_n hx hb dX9_insert_61 rfl (lv_at hl 0 rfl) ?_
    refine kr_Vv (k := (25, 0, 0)) (As := []) (rest := []) C0 hK hP hS hl (km_X9_note l hI hq) kd_X9_note kq_1208 (kv_s (by decide) (by decide)) rfl rfl rfl ⟨rfl, rfl, Nat.le_of_ble_eq_true rfl, Nat.le_of_ble_eq_true rfl⟩ rfl (Nat.le_of_ble_eq_true rfl) dX9_insert_62 ⟨Nat.zero_le _, Nat.zero_le _⟩ (fun σ9 H locs hq hP hS => ?_)
    refine lv_aload_n hx hb dX9_insert_65 rfl (lv_at hl 0 rfl) ?_
    refine lv_aload_n hx hb dX9_insert_66 rfl (lv_at hl 0 rfl) ?_
    refine kg_X9_now C0 hK hP (kv_s (by decide) (by decide)) kq_960 dX9_insert_67 ?_
    refine lv_iload_n hx hb dX9_insert_70 rfl (lv_at hl 1 rfl) ?_
    refine kr_Vv (k := (25, 0, 0)) (As := [.ref (ka_a G (37, 0, 0)), .int v1]) (rest := []) C0 hK hP hS hl (km_X9_insertOn l hI kl_37 hq) kd_X9_insertOn kq_1073 (kv_s (by decide) (by decide)) rfl rfl rfl ⟨rfl, rfl, Nat.le_of_ble_eq_true rfl, Nat.le_of_ble_eq_true rfl⟩ rfl (Nat.le_of_ble_eq_true rfl) dX9_insert_71 ⟨Nat.zero_le _, Nat.zero_le _⟩ (fun σ10 H locs hq hP hS => ?_)
    refine lv_aload_n hx hb dX9_insert_74 rfl (lv_at hl 0 rfl) ?_
    refine kg_X9_now C0 hK hP (kv_s (by decide) (by decide)) kq_960 dX9_insert_75 ?_
    refine kr_Si (As := [.ref (ka_a G (37, 0, 0))]) (rest := []) C0 hK hP hS hl (km_X9_many l hI kl_37 hq) kd_X9_many kq_1077 ⟨rfl, rfl, Nat.le_of_ble_eq_true rfl, Nat.le_of_ble_eq_true rfl⟩ rfl (Nat.le_of_ble_eq_true rfl) dX9_insert_78 ⟨Nat.zero_le _, Nat.zero_le _⟩ (fun r12 σ11 H locs hq hP hS => ?_)
    exact kr_iret C0 hK hP hS hq dX9_insert_81
  · have hq := hq.2 hc
    refine lv_iconst (v := 0) hx hb dX9_insert_59 (by decide) ?_
    exact kr_iret C0 hK hP hS hq dX9_insert_60
set_option maxHeartbeats 4000000 in
set_option maxRecDepth 100000 in
theorem kb_X9_insert_48 {p : Program} {l : Launch} {e : Env} {s : State} {m : MethodId} {args : Array Value} {below : List Frame} {meth : Method} {c : Code} {G : ka_G} (hI : ka_I G) (C0 : ka_C p s m args meth c cX9_insert 2 "GlossRowsModel" (some .int)) (hK : ka_Kn G s) {Q : Int32 → ka_S → Prop} : ∀ (σ : ka_S) (v1 : Int32), kw_X9_insert_48 Q σ v1 → ∀ (H : Heap) (locs : List Loc), ka_P G σ H → va_S (ka_A G) s.heap H locs → ∀ ls : Array Slot, lv_has ls 2 [(0, .ref (ka_a G (25, 0, 0))), (1, .int v1)] → W p l e rm_X9_insert s m args below meth c H locs 0 0 (MQ below (va_Qi Q (ka_B G) (ka_A G)) args s 0 0 (ka_A G)) (F0 m 48 ls [.ref (ka_a G (25, 0, 0))]) := by
  obtain ⟨hx, hb, -, hml, hown, hts, -⟩ := id C0
  intro σ v1 hq H locs hP hS ls hl
  unfold kw_X9_insert_48 at hq
  refine lv_iconst (v := 2) hx hb dX9_insert_48 (by decide) ?_
  refine lv_goto (tgt := 53) hx hb dX9_insert_49 (by decide) ?_
  exact kb_X9_insert_53 hI C0 hK σ v1 (2 : Int32) hq H locs hP hS ls (lv_sub hl [0, 1] rfl)
set_option maxHeartbeats 4000000 in
set_option maxRecDepth 100000 in
theorem km_X9_insert (l : Launch) {G : ka_G} (hI : ka_I G) {σ : ka_S} {v1 : Int32} {Q : Int32 → ka_S → Prop} (hq : kw_X9_insert σ v1 Q) : kc_i l yX9_insert (kw_ yX9_insert cX9_insert 2 (some .int)) rm_X9_insert G [.ref (ka_a G (25, 0, 0)), .int v1] σ Q := by
  refine ka_of "GlossRowsModel" rfl (by decide) (Nat.le_of_ble_eq_true rfl) ?_
  intro p e s m below meth c C0 hK H locs hP hS ls hl
  obtain ⟨hx, hb, -, hml, hown, hts, -⟩ := id C0
  have hl : lv_has ls 2 [(0, .ref (ka_a G (25, 0, 0))), (1, .int v1)] := hl
  unfold kw_X9_insert at hq
  refine lv_aload_n hx hb dX9_insert_0 rfl (lv_at hl 0 rfl) ?_
  refine lv_iload_n hx hb dX9_insert_1 rfl (lv_at hl 1 rfl) ?_
  refine lv_i2l hx hb dX9_insert_2 rfl ?_
  refine lv_lconst (v := 0) hx hb dX9_insert_3 (by decide) ?_
  refine lv_aload_n hx hb dX9_insert_4 rfl (lv_at hl 0 rfl) ?_
  refine kg_X9_now C0 hK hP (kv_s (by decide) (by decide)) kq_960 dX9_insert_5 ?_
  refine lv_iconst (v := 0) hx hb dX9_insert_8 (by decide) ?_
  obtain ⟨b1, hq⟩ := hq
  refine kr_lald C0 hK hP (kv_s (by decide) (by decide)) rfl b1 dX9_insert_9 ?_
  refine kr_Si (As := [.long v1.toInt64, .long (0 : Int64), .long (σ.2 (37, 0, 0) (0 : Int32).toNatClampNeg)]) (rest := [.ref (ka_a G (25, 0, 0))]) C0 hK hP hS hl (km_X9_in l hI hq) kd_X9_in kq_1031 ⟨rfl, rfl, Nat.le_of_ble_eq_true rfl, Nat.le_of_ble_eq_true rfl⟩ rfl (Nat.le_of_ble_eq_true rfl) dX9_insert_10 ⟨Nat.zero_le _, Nat.zero_le _⟩ (fun r3 σ2 H locs hq hP hS => ?_)
  refine lv_if_ne (tgt := 20) hx hb dX9_insert_13 (by decide) (fun hc => ?_) (fun hc => ?_)
  · have hq := hq.2 hc
    refine lv_aload_n hx hb dX9_insert_20 rfl (lv_at hl 0 rfl) ?_
    refine kr_Vi (k := (25, 0, 0)) (As := []) (rest := [.ref (ka_a G (25, 0, 0))]) C0 hK hP hS hl (km_X9_readText l hI hq) kd_X9_readText kq_1046 (kv_s (by decide) (by decide)) rfl rfl rfl ⟨rfl, rfl, Nat.le_of_ble_eq_true rfl, Nat.le_of_ble_eq_true rfl⟩ rfl (Nat.le_of_ble_eq_true rfl) dX9_insert_21 ⟨Nat.zero_le _, Nat.zero_le _⟩ (fun r5 σ4 H locs hq hP hS => ?_)
    refine lv_bipush (v := -9) hx hb dX9_insert_24 (by decide) ?_
    refine lv_icmp_ne (tgt := 48) hx hb dX9_insert_26 (by decide) (fun hc => ?_) (fun hc => ?_)
    · have hq := hq.2 hc
      exact kb_X9_insert_48 hI C0 hK σ4 v1 hq H locs hP hS ls (lv_sub hl [0, 1] rfl)
    · have hq := hq.1 hc
      refine lv_aload_n hx hb dX9_insert_29 rfl (lv_at hl 0 rfl) ?_
      refine kg_X9_now C0 hK hP (kv_s (by decide) (by decide)) kq_960 dX9_insert_30 ?_
      refine lv_iconst (v := 0) hx hb dX9_insert_33 (by decide) ?_
      obtain ⟨b6, hq⟩ := hq
      refine kr_lald C0 hK hP (kv_s (by decide) (by decide)) rfl b6 dX9_insert_34 ?_
      refine lv_aload_n hx hb dX9_insert_35 rfl (lv_at hl 0 rfl) ?_
      refine kg_X9_readMany C0 hK hP (kv_s (by decide) (by decide)) kq_958 dX9_insert_36 ?_
      refine lv_i2l hx hb dX9_insert_39 rfl ?_
      refine lv_ladd hx hb dX9_insert_40 ?_
      refine lv_ldc2 hx hb hown (hts _ kq_1207) dX9_insert_41 ?_
      refine kr_cle (tgt := 52) C0 dX9_insert_44 dX9_insert_45 (by decide) (fun hc => ?_) (fun hc => ?_)
      · have hq := hq.1 hc
        refine lv_iconst (v := 0) hx hb dX9_insert_52 (by decide) ?_
        exact kb_X9_insert_53 hI C0 hK σ4 v1 (0 : Int32) hq H locs hP hS ls (lv_sub hl [0, 1] rfl)
      · have hq := hq.2 hc
        exact kb_X9_insert_48 hI C0 hK σ4 v1 hq H locs hP hS ls (lv_sub hl [0, 1] rfl)
  · have hq := hq.1 hc
    refine lv_iconst (v := 1) hx hb dX9_insert_16 (by decide) ?_
    refine lv_goto (tgt := 53) hx hb dX9_insert_17 (by decide) ?_
    exact kb_X9_insert_53 hI C0 hK σ2 v1 (1 : Int32) hq H locs hP hS ls (lv_sub hl [0, 1] rfl)
/-! GlossRowsModel.remove(I)I -/
def rm_X9_remove : Room := { frames := 3, cells := 0, slots := 0, locals := 67 }
def kw_X9_remove_14 (Q : Int32 → ka_S → Prop) (σ : ka_S) (v1 : Int32) (t1 : Int32) : Prop := kw_X9_refused σ t1 (fun r4 σ3 => 
  (r4 = (0 : Int32) → kw_X9_note σ3 (fun σ5 => 
    kw_X9_removeOn σ5 (37, 0, 0) v1 (fun σ6 => 
    kw_X9_many σ6 (37, 0, 0) (fun r8 σ7 => 
    Q r8 σ7)))) ∧
  (¬ r4 = (0 : Int32) → Q (0 : Int32) σ3))
def kw_X9_remove (σ : ka_S) (v1 : Int32) (Q : Int32 → ka_S → Prop) : Prop := kw_X9_isWord σ v1 (fun r2 σ1 => 
  (r2 = (0 : Int32) → kw_X9_remove_14 Q σ1 v1 (1 : Int32)) ∧
  (¬ r2 = (0 : Int32) → kw_X9_remove_14 Q σ1 v1 (0 : Int32)))
set_option maxHeartbeats 4000000 in
set_option maxRecDepth 100000 in
theorem kb_X9_remove_14 {p : Program} {l : Launch} {e : Env} {s : State} {m : MethodId} {args : Array Value} {below : List Frame} {meth : Method} {c : Code} {G : ka_G} (hI : ka_I G) (C0 : ka_C p s m args meth c cX9_remove 2 "GlossRowsModel" (some .int)) (hK : ka_Kn G s) {Q : Int32 → ka_S → Prop} : ∀ (σ : ka_S) (v1 : Int32) (t1 : Int32), kw_X9_remove_14 Q σ v1 t1 → ∀ (H : Heap) (locs : List Loc), ka_P G σ H → va_S (ka_A G) s.heap H locs → ∀ ls : Array Slot, lv_has ls 2 [(0, .ref (ka_a G (25, 0, 0))), (1, .int v1)] → W p l e rm_X9_remove s m args below meth c H locs 0 0 (MQ below (va_Qi Q (ka_B G) (ka_A G)) args s 0 0 (ka_A G)) (F0 m 14 ls [.int t1, .ref (ka_a G (25, 0, 0))]) := by
  obtain ⟨hx, hb, -, hml, hown, hts, -⟩ := id C0
  intro σ v1 t1 hq H locs hP hS ls hl
  unfold kw_X9_remove_14 at hq
  refine kr_Vi (k := (25, 0, 0)) (As := [.int t1]) (rest := []) C0 hK hP hS hl (km_X9_refused l hI hq) kd_X9_refused kq_1034 (kv_s (by decide) (by decide)) rfl rfl rfl ⟨rfl, rfl, Nat.le_of_ble_eq_true rfl, Nat.le_of_ble_eq_true rfl⟩ rfl (Nat.le_of_ble_eq_true rfl) dX9_remove_14 ⟨Nat.zero_le _, Nat.zero_le _⟩ (fun r4 σ3 H locs hq hP hS => ?_)
  refine lv_if_eq (tgt := 22) hx hb dX9_remove_17 (by decide) (fun hc => ?_) (fun hc => ?_)
  · have hq := hq.1 hc
    refine lv_aload_n hx hb dX9_remove_22 rfl (lv_at hl 0 rfl) ?_
    refine kr_Vv (k := (25, 0, 0)) (As := []) (rest := []) C0 hK hP hS hl (km_X9_note l hI hq) kd_X9_note kq_1208 (kv_s (by decide) (by decide)) rfl rfl rfl ⟨rfl, rfl, Nat.le_of_ble_eq_true rfl, Nat.le_of_ble_eq_true rfl⟩ rfl (Nat.le_of_ble_eq_true rfl) dX9_remove_23 ⟨Nat.zero_le _, Nat.zero_le _⟩ (fun σ5 H locs hq hP hS => ?_)
    refine lv_aload_n hx hb dX9_remove_26 rfl (lv_at hl 0 rfl) ?_
    refine kg_X9_now C0 hK hP (kv_s (by decide) (by decide)) kq_960 dX9_remove_27 ?_
    refine lv_iload_n hx hb dX9_remove_30 rfl (lv_at hl 1 rfl) ?_
    refine kr_Sv (As := [.ref (ka_a G (37, 0, 0)), .int v1]) (rest := []) C0 hK hP hS hl (km_X9_removeOn l hI kl_37 hq) kd_X9_removeOn kq_1216 ⟨rfl, rfl, Nat.le_of_ble_eq_true rfl, Nat.le_of_ble_eq_true rfl⟩ rfl (Nat.le_of_ble_eq_true rfl) dX9_remove_31 ⟨Nat.zero_le _, Nat.zero_le _⟩ (fun σ6 H locs hq hP hS => ?_)
    refine lv_aload_n hx hb dX9_remove_34 rfl (lv_at hl 0 rfl) ?_
    refine kg_X9_now C0 hK hP (kv_s (by decide) (by decide)) kq_960 dX9_remove_35 ?_
    refine kr_Si (As := [.ref (ka_a G (37, 0, 0))]) (rest := []) C0 hK hP hS hl (km_X9_many l hI kl_37 hq) kd_X9_many kq_1077 ⟨rfl, rfl, Nat.le_of_ble_eq_true rfl, Nat.le_of_ble_eq_true rfl⟩ rfl (Nat.le_of_ble_eq_true rfl) dX9_remove_38 ⟨Nat.zero_le _, Nat.zero_le _⟩ (fun r8 σ7 H locs hq hP hS => ?_)
    exact kr_iret C0 hK hP hS hq dX9_remove_41
  · have hq := hq.2 hc
    refine lv_iconst (v := 0) hx hb dX9_remove_20 (by decide) ?_
    exact kr_iret C0 hK hP hS hq dX9_remove_21
set_option maxHeartbeats 4000000 in
set_option maxRecDepth 100000 in
theorem km_X9_remove (l : Launch) {G : ka_G} (hI : ka_I G) {σ : ka_S} {v1 : Int32} {Q : Int32 → ka_S → Prop} (hq : kw_X9_remove σ v1 Q) : kc_i l yX9_remove (kw_ yX9_remove cX9_remove 2 (some .int)) rm_X9_remove G [.ref (ka_a G (25, 0, 0)), .int v1] σ Q := by
  refine ka_of "GlossRowsModel" rfl (by decide) (Nat.le_of_ble_eq_true rfl) ?_
  intro p e s m below meth c C0 hK H locs hP hS ls hl
  obtain ⟨hx, hb, -, hml, hown, hts, -⟩ := id C0
  have hl : lv_has ls 2 [(0, .ref (ka_a G (25, 0, 0))), (1, .int v1)] := hl
  unfold kw_X9_remove at hq
  refine lv_aload_n hx hb dX9_remove_0 rfl (lv_at hl 0 rfl) ?_
  refine lv_aload_n hx hb dX9_remove_1 rfl (lv_at hl 0 rfl) ?_
  refine lv_iload_n hx hb dX9_remove_2 rfl (lv_at hl 1 rfl) ?_
  refine kr_Vi (k := (25, 0, 0)) (As := [.int v1]) (rest := [.ref (ka_a G (25, 0, 0))]) C0 hK hP hS hl (km_X9_isWord l hI hq) kd_X9_isWord kq_1138 (kv_s (by decide) (by decide)) rfl rfl rfl ⟨rfl, rfl, Nat.le_of_ble_eq_true rfl, Nat.le_of_ble_eq_true rfl⟩ rfl (Nat.le_of_ble_eq_true rfl) dX9_remove_3 ⟨Nat.zero_le _, Nat.zero_le _⟩ (fun r2 σ1 H locs hq hP hS => ?_)
  refine lv_if_eq (tgt := 13) hx hb dX9_remove_6 (by decide) (fun hc => ?_) (fun hc => ?_)
  · have hq := hq.1 hc
    refine lv_iconst (v := 1) hx hb dX9_remove_13 (by decide) ?_
    exact kb_X9_remove_14 hI C0 hK σ1 v1 (1 : Int32) hq H locs hP hS ls (lv_sub hl [0, 1] rfl)
  · have hq := hq.2 hc
    refine lv_iconst (v := 0) hx hb dX9_remove_9 (by decide) ?_
    refine lv_goto (tgt := 14) hx hb dX9_remove_10 (by decide) ?_
    exact kb_X9_remove_14 hI C0 hK σ1 v1 (0 : Int32) hq H locs hP hS ls (lv_sub hl [0, 1] rfl)
/-! GlossRowsModel.end(I)I -/
def rm_X9_end : Room := { frames := 6, cells := 0, slots := 0, locals := 148 }
def kw_X9_end_14 (Q : Int32 → ka_S → Prop) (σ : ka_S) (v1 : Int32) (t1 : Int32) : Prop := kw_X9_refused σ t1 (fun r4 σ3 => 
  (r4 = (0 : Int32) → kw_X9_note σ3 (fun σ5 => 
    kw_X9_cell σ5 v1 (1 : Int32) (fun r7 σ6 => 
    vp_in r7 253 ∧
    ∀ σ9 : ka_S, σ9 = ka_wL σ6 (37, 0, 0) r7.toNatClampNeg (1 : Int64) →
    kw_X9_sentencesOf σ9 (37, 0, 0) (fun r11 σ10 => 
    Q r11 σ10)))) ∧
  (¬ r4 = (0 : Int32) → Q (0 : Int32) σ3))
def kw_X9_end (σ : ka_S) (v1 : Int32) (Q : Int32 → ka_S → Prop) : Prop := kw_X9_isWord σ v1 (fun r2 σ1 => 
  (r2 = (0 : Int32) → kw_X9_end_14 Q σ1 v1 (1 : Int32)) ∧
  (¬ r2 = (0 : Int32) → kw_X9_end_14 Q σ1 v1 (0 : Int32)))
set_option maxHeartbeats 4000000 in
set_option maxRecDepth 100000 in
theorem kb_X9_end_14 {p : Program} {l : Launch} {e : Env} {s : State} {m : MethodId} {args : Array Value} {below : List Frame} {meth : Method} {c : Code} {G : ka_G} (hI : ka_I G) (C0 : ka_C p s m args meth c cX9_end 2 "GlossRowsModel" (some .int)) (hK : ka_Kn G s) {Q : Int32 → ka_S → Prop} : ∀ (σ : ka_S) (v1 : Int32) (t1 : Int32), kw_X9_end_14 Q σ v1 t1 → ∀ (H : Heap) (locs : List Loc), ka_P G σ H → va_S (ka_A G) s.heap H locs → ∀ ls : Array Slot, lv_has ls 2 [(0, .ref (ka_a G (25, 0, 0))), (1, .int v1)] → W p l e rm_X9_end s m args below meth c H locs 0 0 (MQ below (va_Qi Q (ka_B G) (ka_A G)) args s 0 0 (ka_A G)) (F0 m 14 ls [.int t1, .ref (ka_a G (25, 0, 0))]) := by
  obtain ⟨hx, hb, -, hml, hown, hts, -⟩ := id C0
  intro σ v1 t1 hq H locs hP hS ls hl
  unfold kw_X9_end_14 at hq
  refine kr_Vi (k := (25, 0, 0)) (As := [.int t1]) (rest := []) C0 hK hP hS hl (km_X9_refused l hI hq) kd_X9_refused kq_1034 (kv_s (by decide) (by decide)) rfl rfl rfl ⟨rfl, rfl, Nat.le_of_ble_eq_true rfl, Nat.le_of_ble_eq_true rfl⟩ rfl (Nat.le_of_ble_eq_true rfl) dX9_end_14 ⟨Nat.zero_le _, Nat.zero_le _⟩ (fun r4 σ3 H locs hq hP hS => ?_)
  refine lv_if_eq (tgt := 22) hx hb dX9_end_17 (by decide) (fun hc => ?_) (fun hc => ?_)
  · have hq := hq.1 hc
    refine lv_aload_n hx hb dX9_end_22 rfl (lv_at hl 0 rfl) ?_
    refine kr_Vv (k := (25, 0, 0)) (As := []) (rest := []) C0 hK hP hS hl (km_X9_note l hI hq) kd_X9_note kq_1208 (kv_s (by decide) (by decide)) rfl rfl rfl ⟨rfl, rfl, Nat.le_of_ble_eq_true rfl, Nat.le_of_ble_eq_true rfl⟩ rfl (Nat.le_of_ble_eq_true rfl) dX9_end_23 ⟨Nat.zero_le _, Nat.zero_le _⟩ (fun σ5 H locs hq hP hS => ?_)
    refine lv_aload_n hx hb dX9_end_26 rfl (lv_at hl 0 rfl) ?_
    refine kg_X9_now C0 hK hP (kv_s (by decide) (by decide)) kq_960 dX9_end_27 ?_
    refine lv_iload_n hx hb dX9_end_30 rfl (lv_at hl 1 rfl) ?_
    refine lv_iconst (v := 1) hx hb dX9_end_31 (by decide) ?_
    refine kr_Si (As := [.int v1, .int (1 : Int32)]) (rest := [.ref (ka_a G (37, 0, 0))]) C0 hK hP hS hl (km_X9_cell l hI hq) kd_X9_cell kq_1102 ⟨rfl, rfl, Nat.le_of_ble_eq_true rfl, Nat.le_of_ble_eq_true rfl⟩ rfl (Nat.le_of_ble_eq_true rfl) dX9_end_32 ⟨Nat.zero_le _, Nat.zero_le _⟩ (fun r7 σ6 H locs hq hP hS => ?_)
    refine lv_lconst (v := 1) hx hb dX9_end_35 (by decide) ?_
    obtain ⟨b8, hq⟩ := hq
    refine kr_last C0 hK hI hP hS (kv_s (by decide) (by decide)) (fun _ => rfl) b8 dX9_end_36 (fun H locs hP hS => ?_)
    obtain ⟨σ9, eσ9⟩ : ∃ z : ka_S, z = ka_wL σ6 (37, 0, 0) r7.toNatClampNeg (1 : Int64) := ⟨_, rfl⟩
    rw [← eσ9] at hP
    have hq := hq σ9 eσ9
    refine lv_aload_n hx hb dX9_end_37 rfl (lv_at hl 0 rfl) ?_
    refine lv_aload_n hx hb dX9_end_38 rfl (lv_at hl 0 rfl) ?_
    refine kg_X9_now C0 hK hP (kv_s (by decide) (by decide)) kq_960 dX9_end_39 ?_
    refine kr_Vi (k := (25, 0, 0)) (As := [.ref (ka_a G (37, 0, 0))]) (rest := []) C0 hK hP hS hl (km_X9_sentencesOf l hI kl_37 hq) kd_X9_sentencesOf kq_1223 (kv_s (by decide) (by decide)) rfl rfl rfl ⟨rfl, rfl, Nat.le_of_ble_eq_true rfl, Nat.le_of_ble_eq_true rfl⟩ rfl (Nat.le_of_ble_eq_true rfl) dX9_end_42 ⟨Nat.zero_le _, Nat.zero_le _⟩ (fun r11 σ10 H locs hq hP hS => ?_)
    exact kr_iret C0 hK hP hS hq dX9_end_45
  · have hq := hq.2 hc
    refine lv_iconst (v := 0) hx hb dX9_end_20 (by decide) ?_
    exact kr_iret C0 hK hP hS hq dX9_end_21
set_option maxHeartbeats 4000000 in
set_option maxRecDepth 100000 in
theorem km_X9_end (l : Launch) {G : ka_G} (hI : ka_I G) {σ : ka_S} {v1 : Int32} {Q : Int32 → ka_S → Prop} (hq : kw_X9_end σ v1 Q) : kc_i l yX9_end (kw_ yX9_end cX9_end 2 (some .int)) rm_X9_end G [.ref (ka_a G (25, 0, 0)), .int v1] σ Q := by
  refine ka_of "GlossRowsModel" rfl (by decide) (Nat.le_of_ble_eq_true rfl) ?_
  intro p e s m below meth c C0 hK H locs hP hS ls hl
  obtain ⟨hx, hb, -, hml, hown, hts, -⟩ := id C0
  have hl : lv_has ls 2 [(0, .ref (ka_a G (25, 0, 0))), (1, .int v1)] := hl
  unfold kw_X9_end at hq
  refine lv_aload_n hx hb dX9_end_0 rfl (lv_at hl 0 rfl) ?_
  refine lv_aload_n hx hb dX9_end_1 rfl (lv_at hl 0 rfl) ?_
  refine lv_iload_n hx hb dX9_end_2 rfl (lv_at hl 1 rfl) ?_
  refine kr_Vi (k := (25, 0, 0)) (As := [.int v1]) (rest := [.ref (ka_a G (25, 0, 0))]) C0 hK hP hS hl (km_X9_isWord l hI hq) kd_X9_isWord kq_1138 (kv_s (by decide) (by decide)) rfl rfl rfl ⟨rfl, rfl, Nat.le_of_ble_eq_true rfl, Nat.le_of_ble_eq_true rfl⟩ rfl (Nat.le_of_ble_eq_true rfl) dX9_end_3 ⟨Nat.zero_le _, Nat.zero_le _⟩ (fun r2 σ1 H locs hq hP hS => ?_)
  refine lv_if_eq (tgt := 13) hx hb dX9_end_6 (by decide) (fun hc => ?_) (fun hc => ?_)
  · have hq := hq.1 hc
    refine lv_iconst (v := 1) hx hb dX9_end_13 (by decide) ?_
    exact kb_X9_end_14 hI C0 hK σ1 v1 (1 : Int32) hq H locs hP hS ls (lv_sub hl [0, 1] rfl)
  · have hq := hq.2 hc
    refine lv_iconst (v := 0) hx hb dX9_end_9 (by decide) ?_
    refine lv_goto (tgt := 14) hx hb dX9_end_10 (by decide) ?_
    exact kb_X9_end_14 hI C0 hK σ1 v1 (0 : Int32) hq H locs hP hS ls (lv_sub hl [0, 1] rfl)
/-! GlossRowsModel.join(I)I -/
def rm_X9_join : Room := { frames := 6, cells := 0, slots := 0, locals := 148 }
def kw_X9_join_14 (Q : Int32 → ka_S → Prop) (σ : ka_S) (v1 : Int32) (t1 : Int32) : Prop := kw_X9_refused σ t1 (fun r4 σ3 => 
  (r4 = (0 : Int32) → kw_X9_note σ3 (fun σ5 => 
    kw_X9_joinOn σ5 (37, 0, 0) v1 (fun σ6 => 
    kw_X9_sentencesOf σ6 (37, 0, 0) (fun r8 σ7 => 
    Q r8 σ7)))) ∧
  (¬ r4 = (0 : Int32) → Q (0 : Int32) σ3))
def kw_X9_join (σ : ka_S) (v1 : Int32) (Q : Int32 → ka_S → Prop) : Prop := kw_X9_isWord σ v1 (fun r2 σ1 => 
  (r2 = (0 : Int32) → kw_X9_join_14 Q σ1 v1 (1 : Int32)) ∧
  (¬ r2 = (0 : Int32) → kw_X9_join_14 Q σ1 v1 (0 : Int32)))
set_option maxHeartbeats 4000000 in
set_option maxRecDepth 100000 in
theorem kb_X9_join_14 {p : Program} {l : Launch} {e : Env} {s : State} {m : MethodId} {args : Array Value} {below : List Frame} {meth : Method} {c : Code} {G : ka_G} (hI : ka_I G) (C0 : ka_C p s m args meth c cX9_join 2 "GlossRowsModel" (some .int)) (hK : ka_Kn G s) {Q : Int32 → ka_S → Prop} : ∀ (σ : ka_S) (v1 : Int32) (t1 : Int32), kw_X9_join_14 Q σ v1 t1 → ∀ (H : Heap) (locs : List Loc), ka_P G σ H → va_S (ka_A G) s.heap H locs → ∀ ls : Array Slot, lv_has ls 2 [(0, .ref (ka_a G (25, 0, 0))), (1, .int v1)] → W p l e rm_X9_join s m args below meth c H locs 0 0 (MQ below (va_Qi Q (ka_B G) (ka_A G)) args s 0 0 (ka_A G)) (F0 m 14 ls [.int t1, .ref (ka_a G (25, 0, 0))]) := by
  obtain ⟨hx, hb, -, hml, hown, hts, -⟩ := id C0
  intro σ v1 t1 hq H locs hP hS ls hl
  unfold kw_X9_join_14 at hq
  refine kr_Vi (k := (25, 0, 0)) (As := [.int t1]) (rest := []) C0 hK hP hS hl (km_X9_refused l hI hq) kd_X9_refused kq_1034 (kv_s (by decide) (by decide)) rfl rfl rfl ⟨rfl, rfl, Nat.le_of_ble_eq_true rfl, Nat.le_of_ble_eq_true rfl⟩ rfl (Nat.le_of_ble_eq_true rfl) dX9_join_14 ⟨Nat.zero_le _, Nat.zero_le _⟩ (fun r4 σ3 H locs hq hP hS => ?_)
  refine lv_if_eq (tgt := 22) hx hb dX9_join_17 (by decide) (fun hc => ?_) (fun hc => ?_)
  · have hq := hq.1 hc
    refine lv_aload_n hx hb dX9_join_22 rfl (lv_at hl 0 rfl) ?_
    refine kr_Vv (k := (25, 0, 0)) (As := []) (rest := []) C0 hK hP hS hl (km_X9_note l hI hq) kd_X9_note kq_1208 (kv_s (by decide) (by decide)) rfl rfl rfl ⟨rfl, rfl, Nat.le_of_ble_eq_true rfl, Nat.le_of_ble_eq_true rfl⟩ rfl (Nat.le_of_ble_eq_true rfl) dX9_join_23 ⟨Nat.zero_le _, Nat.zero_le _⟩ (fun σ5 H locs hq hP hS => ?_)
    refine lv_aload_n hx hb dX9_join_26 rfl (lv_at hl 0 rfl) ?_
    refine kg_X9_now C0 hK hP (kv_s (by decide) (by decide)) kq_960 dX9_join_27 ?_
    refine lv_iload_n hx hb dX9_join_30 rfl (lv_at hl 1 rfl) ?_
    refine kr_Sv (As := [.ref (ka_a G (37, 0, 0)), .int v1]) (rest := []) C0 hK hP hS hl (km_X9_joinOn l hI kl_37 hq) kd_X9_joinOn kq_1231 ⟨rfl, rfl, Nat.le_of_ble_eq_true rfl, Nat.le_of_ble_eq_true rfl⟩ rfl (Nat.le_of_ble_eq_true rfl) dX9_join_31 ⟨Nat.zero_le _, Nat.zero_le _⟩ (fun σ6 H locs hq hP hS => ?_)
    refine lv_aload_n hx hb dX9_join_34 rfl (lv_at hl 0 rfl) ?_
    refine lv_aload_n hx hb dX9_join_35 rfl (lv_at hl 0 rfl) ?_
    refine kg_X9_now C0 hK hP (kv_s (by decide) (by decide)) kq_960 dX9_join_36 ?_
    refine kr_Vi (k := (25, 0, 0)) (As := [.ref (ka_a G (37, 0, 0))]) (rest := []) C0 hK hP hS hl (km_X9_sentencesOf l hI kl_37 hq) kd_X9_sentencesOf kq_1223 (kv_s (by decide) (by decide)) rfl rfl rfl ⟨rfl, rfl, Nat.le_of_ble_eq_true rfl, Nat.le_of_ble_eq_true rfl⟩ rfl (Nat.le_of_ble_eq_true rfl) dX9_join_39 ⟨Nat.zero_le _, Nat.zero_le _⟩ (fun r8 σ7 H locs hq hP hS => ?_)
    exact kr_iret C0 hK hP hS hq dX9_join_42
  · have hq := hq.2 hc
    refine lv_iconst (v := 0) hx hb dX9_join_20 (by decide) ?_
    exact kr_iret C0 hK hP hS hq dX9_join_21
set_option maxHeartbeats 4000000 in
set_option maxRecDepth 100000 in
theorem km_X9_join (l : Launch) {G : ka_G} (hI : ka_I G) {σ : ka_S} {v1 : Int32} {Q : Int32 → ka_S → Prop} (hq : kw_X9_join σ v1 Q) : kc_i l yX9_join (kw_ yX9_join cX9_join 2 (some .int)) rm_X9_join G [.ref (ka_a G (25, 0, 0)), .int v1] σ Q := by
  refine ka_of "GlossRowsModel" rfl (by decide) (Nat.le_of_ble_eq_true rfl) ?_
  intro p e s m below meth c C0 hK H locs hP hS ls hl
  obtain ⟨hx, hb, -, hml, hown, hts, -⟩ := id C0
  have hl : lv_has ls 2 [(0, .ref (ka_a G (25, 0, 0))), (1, .int v1)] := hl
  unfold kw_X9_join at hq
  refine lv_aload_n hx hb dX9_join_0 rfl (lv_at hl 0 rfl) ?_
  refine lv_aload_n hx hb dX9_join_1 rfl (lv_at hl 0 rfl) ?_
  refine lv_iload_n hx hb dX9_join_2 rfl (lv_at hl 1 rfl) ?_
  refine kr_Vi (k := (25, 0, 0)) (As := [.int v1]) (rest := [.ref (ka_a G (25, 0, 0))]) C0 hK hP hS hl (km_X9_isWord l hI hq) kd_X9_isWord kq_1138 (kv_s (by decide) (by decide)) rfl rfl rfl ⟨rfl, rfl, Nat.le_of_ble_eq_true rfl, Nat.le_of_ble_eq_true rfl⟩ rfl (Nat.le_of_ble_eq_true rfl) dX9_join_3 ⟨Nat.zero_le _, Nat.zero_le _⟩ (fun r2 σ1 H locs hq hP hS => ?_)
  refine lv_if_eq (tgt := 13) hx hb dX9_join_6 (by decide) (fun hc => ?_) (fun hc => ?_)
  · have hq := hq.1 hc
    refine lv_iconst (v := 1) hx hb dX9_join_13 (by decide) ?_
    exact kb_X9_join_14 hI C0 hK σ1 v1 (1 : Int32) hq H locs hP hS ls (lv_sub hl [0, 1] rfl)
  · have hq := hq.2 hc
    refine lv_iconst (v := 0) hx hb dX9_join_9 (by decide) ?_
    refine lv_goto (tgt := 14) hx hb dX9_join_10 (by decide) ?_
    exact kb_X9_join_14 hI C0 hK σ1 v1 (0 : Int32) hq H locs hP hS ls (lv_sub hl [0, 1] rfl)
/-! GlossRowsModel.isFree()Z -/
def rm_X9_isFree : Room := { frames := 1, cells := 0, slots := 0, locals := 25 }
def kw_X9_isFree_17 (Q : Int32 → ka_S → Prop) : Nat → ka_S → Int32 → Int32 → Prop
  | 0, _, _, _ => False
  | n + 1, σ, v1, v2 => ((σ.1 (25, 0, 0) 2) ≤ v2 → (v1 = 0 ∨ v1 = 1) ∧
      Q v1 σ) ∧
    (¬ (σ.1 (25, 0, 0) 2) ≤ v2 → (v1 = (0 : Int32) → ∀ x3 : Int32, x3 = v2 + (1 : Int32) →
        (kw_X9_isFree_17 Q n) σ (0 : Int32) x3) ∧
      (¬ v1 = (0 : Int32) → vp_in v2 60 ∧
        kw_X9_in σ ((σ.1 (26, 0, 0) v2.toNatClampNeg).toInt64) (32 : Int64) (126 : Int64) (fun r6 σ5 => 
        (r6 = (0 : Int32) → ∀ x7 : Int32, x7 = v2 + (1 : Int32) →
          (kw_X9_isFree_17 Q n) σ5 (0 : Int32) x7) ∧
        (¬ r6 = (0 : Int32) → ∀ x8 : Int32, x8 = v2 + (1 : Int32) →
          (kw_X9_isFree_17 Q n) σ5 (1 : Int32) x8))))
def kw_X9_isFree (σ : ka_S) (Q : Int32 → ka_S → Prop) : Prop := ((24 : Int32) < (σ.1 (25, 0, 0) 2) → ∃ n1 : Nat, kw_X9_isFree_17 Q n1 σ (0 : Int32) (0 : Int32)) ∧
  (¬ (24 : Int32) < (σ.1 (25, 0, 0) 2) → ∃ n2 : Nat, kw_X9_isFree_17 Q n2 σ (1 : Int32) (0 : Int32))
set_option maxHeartbeats 4000000 in
set_option maxRecDepth 100000 in
theorem kb_X9_isFree_17 {p : Program} {l : Launch} {e : Env} {s : State} {m : MethodId} {args : Array Value} {below : List Frame} {meth : Method} {c : Code} {G : ka_G} (hI : ka_I G) (C0 : ka_C p s m args meth c cX9_isFree 3 "GlossRowsModel" (some .boolean)) (hK : ka_Kn G s) {Q : Int32 → ka_S → Prop} : ∀ (n : Nat) (σ : ka_S) (v1 : Int32) (v2 : Int32), kw_X9_isFree_17 Q n σ v1 v2 → ∀ (H : Heap) (locs : List Loc), ka_P G σ H → va_S (ka_A G) s.heap H locs → ∀ ls : Array Slot, lv_has ls 3 [(0, .ref (ka_a G (25, 0, 0))), (1, .int v1), (2, .int v2)] → W p l e rm_X9_isFree s m args below meth c H locs 0 0 (MQ below (va_Qi Q (ka_B G) (ka_A G)) args s 0 0 (ka_A G)) (F0 m 17 ls []) := by
  obtain ⟨hx, hb, -, hml, hown, hts, -⟩ := id C0
  intro n
  induction n with
  | zero =>
    intro σ v1 v2 hq
    rw [kw_X9_isFree_17] at hq
    exact hq.elim
  | succ n ih =>
    intro σ v1 v2 hq H locs hP hS ls hl
    rw [kw_X9_isFree_17] at hq
    refine lv_iload_n hx hb dX9_isFree_17 rfl (lv_at hl 2 rfl) ?_
    refine lv_aload_n hx hb dX9_isFree_18 rfl (lv_at hl 0 rfl) ?_
    refine kg_X9_scriptSize C0 hK hP (kv_s (by decide) (by decide)) kq_957 dX9_isFree_19 ?_
    refine lv_icmp_ge (tgt := 60) hx hb dX9_isFree_22 (by decide) (fun hc => ?_) (fun hc => ?_)
    · have hq := hq.1 hc
      refine lv_iload_n hx hb dX9_isFree_60 rfl (lv_at hl 1 rfl) ?_
      obtain ⟨hz, hq⟩ := hq
      exact kr_zret C0 hK hP hS (kz_n hz) hq dX9_isFree_61
    · have hq := hq.2 hc
      refine lv_iload_n hx hb dX9_isFree_25 rfl (lv_at hl 1 rfl) ?_
      refine lv_if_eq (tgt := 52) hx hb dX9_isFree_26 (by decide) (fun hc => ?_) (fun hc => ?_)
      · have hq := hq.1 hc
        refine lv_iconst (v := 0) hx hb dX9_isFree_52 (by decide) ?_
        refine lv_istore_n (lv' := [(1, .int (0 : Int32)), (0, .ref (ka_a G (25, 0, 0))), (2, .int v2)]) hx hb dX9_isFree_53 rfl hl (by decide) rfl (fun ls hl => ?_)
        obtain ⟨x3, ex3⟩ : ∃ y : Int32, y = v2 + (1 : Int32) := ⟨_, rfl⟩
        have hq := hq x3 ex3
        refine lv_iinc (v := x3) (lv' := [(2, .int x3), (1, .int (0 : Int32)), (0, .ref (ka_a G (25, 0, 0)))]) hx hb dX9_isFree_54 hl (k := 2) rfl (by rw [ex3]; rfl) (by decide) rfl (fun ls hl => ?_)
        refine lv_goto (tgt := 17) hx hb dX9_isFree_57 (by decide) ?_
        exact ih σ (0 : Int32) x3 hq H locs hP hS ls (lv_sub hl [2, 1, 0] rfl)
      · have hq := hq.2 hc
        refine lv_aload_n hx hb dX9_isFree_29 rfl (lv_at hl 0 rfl) ?_
        refine kg_X9_script C0 hK hP (kv_s (by decide) (by decide)) kq_956 dX9_isFree_30 ?_
        refine lv_iload_n hx hb dX9_isFree_33 rfl (lv_at hl 2 rfl) ?_
        obtain ⟨b4, hq⟩ := hq
        refine kr_iald C0 hK hP (kv_s (by decide) (by decide)) rfl b4 dX9_isFree_34 ?_
        refine lv_i2l hx hb dX9_isFree_35 rfl ?_
        refine lv_ldc2 hx hb hown (hts _ kq_1242) dX9_isFree_36 ?_
        refine lv_ldc2 hx hb hown (hts _ kq_1243) dX9_isFree_39 ?_
        refine kr_Si (As := [.long ((σ.1 (26, 0, 0) v2.toNatClampNeg).toInt64), .long (32 : Int64), .long (126 : Int64)]) (rest := []) C0 hK hP hS hl (km_X9_in l hI hq) kd_X9_in kq_1031 ⟨rfl, rfl, Nat.le_of_ble_eq_true rfl, Nat.le_of_ble_eq_true rfl⟩ rfl (Nat.le_of_ble_eq_true rfl) dX9_isFree_42 ⟨Nat.zero_le _, Nat.zero_le _⟩ (fun r6 σ5 H locs hq hP hS => ?_)
        refine lv_if_eq (tgt := 52) hx hb dX9_isFree_45 (by decide) (fun hc => ?_) (fun hc => ?_)
        · have hq := hq.1 hc
          refine lv_iconst (v := 0) hx hb dX9_isFree_52 (by decide) ?_
          refine lv_istore_n (lv' := [(1, .int (0 : Int32)), (0, .ref (ka_a G (25, 0, 0))), (2, .int v2)]) hx hb dX9_isFree_53 rfl hl (by decide) rfl (fun ls hl => ?_)
          obtain ⟨x7, ex7⟩ : ∃ y : Int32, y = v2 + (1 : Int32) := ⟨_, rfl⟩
          have hq := hq x7 ex7
          refine lv_iinc (v := x7) (lv' := [(2, .int x7), (1, .int (0 : Int32)), (0, .ref (ka_a G (25, 0, 0)))]) hx hb dX9_isFree_54 hl (k := 2) rfl (by rw [ex7]; rfl) (by decide) rfl (fun ls hl => ?_)
          refine lv_goto (tgt := 17) hx hb dX9_isFree_57 (by decide) ?_
          exact ih σ5 (0 : Int32) x7 hq H locs hP hS ls (lv_sub hl [2, 1, 0] rfl)
        · have hq := hq.2 hc
          refine lv_iconst (v := 1) hx hb dX9_isFree_48 (by decide) ?_
          refine lv_goto (tgt := 53) hx hb dX9_isFree_49 (by decide) ?_
          refine lv_istore_n (lv' := [(1, .int (1 : Int32)), (0, .ref (ka_a G (25, 0, 0))), (2, .int v2)]) hx hb dX9_isFree_53 rfl hl (by decide) rfl (fun ls hl => ?_)
          obtain ⟨x8, ex8⟩ : ∃ y : Int32, y = v2 + (1 : Int32) := ⟨_, rfl⟩
          have hq := hq x8 ex8
          refine lv_iinc (v := x8) (lv' := [(2, .int x8), (1, .int (1 : Int32)), (0, .ref (ka_a G (25, 0, 0)))]) hx hb dX9_isFree_54 hl (k := 2) rfl (by rw [ex8]; rfl) (by decide) rfl (fun ls hl => ?_)
          refine lv_goto (tgt := 17) hx hb dX9_isFree_57 (by decide) ?_
          exact ih σ5 (1 : Int32) x8 hq H locs hP hS ls (lv_sub hl [2, 1, 0] rfl)
set_option maxHeartbeats 4000000 in
set_option maxRecDepth 100000 in
theorem km_X9_isFree (l : Launch) {G : ka_G} (hI : ka_I G) {σ : ka_S} {Q : Int32 → ka_S → Prop} (hq : kw_X9_isFree σ Q) : kc_i l yX9_isFree (kw_ yX9_isFree cX9_isFree 3 (some .boolean)) rm_X9_isFree G [.ref (ka_a G (25, 0, 0))] σ Q := by
  refine ka_of "GlossRowsModel" rfl (by decide) (Nat.le_of_ble_eq_true rfl) ?_
  intro p e s m below meth c C0 hK H locs hP hS ls hl
  obtain ⟨hx, hb, -, hml, hown, hts, -⟩ := id C0
  have hl : lv_has ls 3 [(0, .ref (ka_a G (25, 0, 0)))] := hl
  unfold kw_X9_isFree at hq
  refine lv_aload_n hx hb dX9_isFree_0 rfl (lv_at hl 0 rfl) ?_
  refine kg_X9_scriptSize C0 hK hP (kv_s (by decide) (by decide)) kq_957 dX9_isFree_1 ?_
  refine lv_bipush (v := 24) hx hb dX9_isFree_4 (by decide) ?_
  refine lv_icmp_gt (tgt := 13) hx hb dX9_isFree_6 (by decide) (fun hc => ?_) (fun hc => ?_)
  · have hq := hq.1 hc
    refine lv_iconst (v := 0) hx hb dX9_isFree_13 (by decide) ?_
    refine lv_istore_n (lv' := [(1, .int (0 : Int32)), (0, .ref (ka_a G (25, 0, 0)))]) hx hb dX9_isFree_14 rfl hl (by decide) rfl (fun ls hl => ?_)
    refine lv_iconst (v := 0) hx hb dX9_isFree_15 (by decide) ?_
    refine lv_istore_n (lv' := [(2, .int (0 : Int32)), (1, .int (0 : Int32)), (0, .ref (ka_a G (25, 0, 0)))]) hx hb dX9_isFree_16 rfl hl (by decide) rfl (fun ls hl => ?_)
    obtain ⟨n1, hq⟩ := hq
    exact kb_X9_isFree_17 hI C0 hK n1 σ (0 : Int32) (0 : Int32) hq H locs hP hS ls (lv_sub hl [2, 1, 0] rfl)
  · have hq := hq.2 hc
    refine lv_iconst (v := 1) hx hb dX9_isFree_9 (by decide) ?_
    refine lv_goto (tgt := 14) hx hb dX9_isFree_10 (by decide) ?_
    refine lv_istore_n (lv' := [(1, .int (1 : Int32)), (0, .ref (ka_a G (25, 0, 0)))]) hx hb dX9_isFree_14 rfl hl (by decide) rfl (fun ls hl => ?_)
    refine lv_iconst (v := 0) hx hb dX9_isFree_15 (by decide) ?_
    refine lv_istore_n (lv' := [(2, .int (0 : Int32)), (1, .int (1 : Int32)), (0, .ref (ka_a G (25, 0, 0)))]) hx hb dX9_isFree_16 rfl hl (by decide) rfl (fun ls hl => ?_)
    obtain ⟨n2, hq⟩ := hq
    exact kb_X9_isFree_17 hI C0 hK n2 σ (1 : Int32) (0 : Int32) hq H locs hP hS ls (lv_sub hl [2, 1, 0] rfl)
/-! GlossRowsModel.setFree(I)I -/
def rm_X9_setFree : Room := { frames := 3, cells := 0, slots := 0, locals := 67 }
def kw_X9_setFree_110 (Q : Int32 → ka_S → Prop) : Nat → ka_S → Int32 → Int32 → Prop
  | 0, _, _, _ => False
  | n + 1, σ, v1, v2 => ((σ.1 (25, 0, 0) 2) ≤ v2 → Q (σ.1 (25, 0, 0) 2) σ) ∧
    (¬ (σ.1 (25, 0, 0) 2) ≤ v2 → kw_X9_cell σ v1 ((3 : Int32) + (v2 / (8 : Int32))) (fun r27 σ26 => 
      vp_in r27 253 ∧
      vp_in v2 60 ∧
      vp_in r27 253 ∧
      ∀ σ31 : ka_S, σ31 = ka_wL σ26 (37, 0, 0) r27.toNatClampNeg ((σ26.2 (37, 0, 0) r27.toNatClampNeg) ||| (((σ26.1 (26, 0, 0) v2.toNatClampNeg).toInt64) <<< (((7 : Int32) * (v2 - v2 / (8 : Int32) * (8 : Int32))).toInt64 &&& 63))) →
      ∀ x32 : Int32, x32 = v2 + (1 : Int32) →
      (kw_X9_setFree_110 Q n) σ31 v1 x32))
def kw_X9_setFree_107 (Q : Int32 → ka_S → Prop) (σ : ka_S) (v1 : Int32) (t1 : Int32) (t2 : Int64) : Prop := vp_in t1 253 ∧
  ∀ σ24 : ka_S, σ24 = ka_wL σ (37, 0, 0) t1.toNatClampNeg t2 →
  ∃ n25 : Nat, kw_X9_setFree_110 Q n25 σ24 v1 (0 : Int32)
def kw_X9_setFree_39 (Q : Int32 → ka_S → Prop) : Nat → ka_S → Int32 → Int32 → Prop
  | 0, _, _, _ => False
  | n + 1, σ, v1, v2 => ((6 : Int32) ≤ v2 → kw_X9_cell σ v1 (2 : Int32) (fun r10 σ9 => 
      vp_in r10 253 ∧
      ∀ σ12 : ka_S, σ12 = ka_wL σ9 (37, 0, 0) r10.toNatClampNeg ((σ9.1 (25, 0, 0) 2).toInt64) →
      kw_X9_cell σ12 v1 (1 : Int32) (fun r14 σ13 => 
      ((σ13.1 (25, 0, 0) 2) ≤ (0 : Int32) → kw_X9_cell σ13 v1 (1 : Int32) (fun r16 σ15 => 
        vp_in r16 253 ∧
        kw_X9_setFree_107 Q σ15 v1 r14 (σ15.2 (37, 0, 0) r16.toNatClampNeg))) ∧
      (¬ (σ13.1 (25, 0, 0) 2) ≤ (0 : Int32) → kw_X9_setFree_107 Q σ13 v1 r14 (1 : Int64))))) ∧
    (¬ (6 : Int32) ≤ v2 → kw_X9_cell σ v1 v2 (fun r19 σ18 => 
      vp_in r19 253 ∧
      ∀ σ21 : ka_S, σ21 = ka_wL σ18 (37, 0, 0) r19.toNatClampNeg (0 : Int64) →
      ∀ x22 : Int32, x22 = v2 + (1 : Int32) →
      (kw_X9_setFree_39 Q n) σ21 v1 x22))
def kw_X9_setFree_25 (Q : Int32 → ka_S → Prop) (σ : ka_S) (v1 : Int32) (t1 : Int32) : Prop := kw_X9_refused σ t1 (fun r6 σ5 => 
  (r6 = (0 : Int32) → kw_X9_note σ5 (fun σ7 => 
    ∃ n8 : Nat, kw_X9_setFree_39 Q n8 σ7 v1 (2 : Int32))) ∧
  (¬ r6 = (0 : Int32) → Q (0 : Int32) σ5))
def kw_X9_setFree (σ : ka_S) (v1 : Int32) (Q : Int32 → ka_S → Prop) : Prop := kw_X9_isWord σ v1 (fun r2 σ1 => 
  (r2 = (0 : Int32) → kw_X9_setFree_25 Q σ1 v1 (1 : Int32)) ∧
  (¬ r2 = (0 : Int32) → kw_X9_isFree σ1 (fun r4 σ3 => 
    (r4 = (0 : Int32) → kw_X9_setFree_25 Q σ3 v1 (2 : Int32)) ∧
    (¬ r4 = (0 : Int32) → kw_X9_setFree_25 Q σ3 v1 (0 : Int32)))))
set_option maxHeartbeats 4000000 in
set_option maxRecDepth 100000 in
theorem kb_X9_setFree_110 {p : Program} {l : Launch} {e : Env} {s : State} {m : MethodId} {args : Array Value} {below : List Frame} {meth : Method} {c : Code} {G : ka_G} (hI : ka_I G) (C0 : ka_C p s m args meth c cX9_setFree 3 "GlossRowsModel" (some .int)) (hK : ka_Kn G s) {Q : Int32 → ka_S → Prop} : ∀ (n : Nat) (σ : ka_S) (v1 : Int32) (v2 : Int32), kw_X9_setFree_110 Q n σ v1 v2 → ∀ (H : Heap) (locs : List Loc), ka_P G σ H → va_S (ka_A G) s.heap H locs → ∀ ls : Array Slot, lv_has ls 3 [(0, .ref (ka_a G (25, 0, 0))), (1, .int v1), (2, .int v2)] → W p l e rm_X9_setFree s m args below meth c H locs 0 0 (MQ below (va_Qi Q (ka_B G) (ka_A G)) args s 0 0 (ka_A G)) (F0 m 110 ls []) := by
  obtain ⟨hx, hb, -, hml, hown, hts, -⟩ := id C0
  intro n
  induction n with
  | zero =>
    intro σ v1 v2 hq
    rw [kw_X9_setFree_110] at hq
    exact hq.elim
  | succ n ih =>
    intro σ v1 v2 hq H locs hP hS ls hl
    rw [kw_X9_setFree_110] at hq
    refine lv_iload_n hx hb dX9_setFree_110 rfl (lv_at hl 2 rfl) ?_
    refine lv_aload_n hx hb dX9_setFree_111 rfl (lv_at hl 0 rfl) ?_
    refine kg_X9_scriptSize C0 hK hP (kv_s (by decide) (by decide)) kq_957 dX9_setFree_112 ?_
    refine lv_icmp_ge (tgt := 157) hx hb dX9_setFree_115 (by decide) (fun hc => ?_) (fun hc => ?_)
    · have hq := hq.1 hc
      refine lv_aload_n hx hb dX9_setFree_157 rfl (lv_at hl 0 rfl) ?_
      refine kg_X9_scriptSize C0 hK hP (kv_s (by decide) (by decide)) kq_957 dX9_setFree_158 ?_
      exact kr_iret C0 hK hP hS hq dX9_setFree_161
    · have hq := hq.2 hc
      refine lv_aload_n hx hb dX9_setFree_118 rfl (lv_at hl 0 rfl) ?_
      refine kg_X9_now C0 hK hP (kv_s (by decide) (by decide)) kq_960 dX9_setFree_119 ?_
      refine lv_iload_n hx hb dX9_setFree_122 rfl (lv_at hl 1 rfl) ?_
      refine lv_iconst (v := 3) hx hb dX9_setFree_123 (by decide) ?_
      refine lv_iload_n hx hb dX9_setFree_124 rfl (lv_at hl 2 rfl) ?_
      refine lv_bipush (v := 8) hx hb dX9_setFree_125 (by decide) ?_
      refine lv_idiv hx hb dX9_setFree_127 (by decide) ?_
      refine lv_iadd hx hb dX9_setFree_128 ?_
      refine kr_Si (As := [.int v1, .int ((3 : Int32) + (v2 / (8 : Int32)))]) (rest := [.ref (ka_a G (37, 0, 0))]) C0 hK hP hS hl (km_X9_cell l hI hq) kd_X9_cell kq_1102 ⟨rfl, rfl, Nat.le_of_ble_eq_true rfl, Nat.le_of_ble_eq_true rfl⟩ rfl (Nat.le_of_ble_eq_true rfl) dX9_setFree_129 ⟨Nat.zero_le _, Nat.zero_le _⟩ (fun r27 σ26 H locs hq hP hS => ?_)
      refine lv_dup2_11 hx hb dX9_setFree_132 rfl rfl ?_
      obtain ⟨b28, hq⟩ := hq
      refine kr_lald C0 hK hP (kv_s (by decide) (by decide)) rfl b28 dX9_setFree_133 ?_
      refine lv_aload_n hx hb dX9_setFree_134 rfl (lv_at hl 0 rfl) ?_
      refine kg_X9_script C0 hK hP (kv_s (by decide) (by decide)) kq_956 dX9_setFree_135 ?_
      refine lv_iload_n hx hb dX9_setFree_138 rfl (lv_at hl 2 rfl) ?_
      obtain ⟨b29, hq⟩ := hq
      refine kr_iald C0 hK hP (kv_s (by decide) (by decide)) rfl b29 dX9_setFree_139 ?_
      refine lv_i2l hx hb dX9_setFree_140 rfl ?_
      refine lv_bipush (v := 7) hx hb dX9_setFree_141 (by decide) ?_
      refine lv_iload_n hx hb dX9_setFree_143 rfl (lv_at hl 2 rfl) ?_
      refine lv_bipush (v := 8) hx hb dX9_setFree_144 (by decide) ?_
      refine lv_irem hx hb dX9_setFree_146 (by decide) ?_
      refine lv_imul hx hb dX9_setFree_147 ?_
      refine lv_lshl hx hb dX9_setFree_148 rfl ?_
      refine lv_lor hx hb dX9_setFree_149 ?_
      obtain ⟨b30, hq⟩ := hq
      refine kr_last C0 hK hI hP hS (kv_s (by decide) (by decide)) (fun _ => rfl) b30 dX9_setFree_150 (fun H locs hP hS => ?_)
      obtain ⟨σ31, eσ31⟩ : ∃ z : ka_S, z = ka_wL σ26 (37, 0, 0) r27.toNatClampNeg ((σ26.2 (37, 0, 0) r27.toNatClampNeg) ||| (((σ26.1 (26, 0, 0) v2.toNatClampNeg).toInt64) <<< (((7 : Int32) * (v2 - v2 / (8 : Int32) * (8 : Int32))).toInt64 &&& 63))) := ⟨_, rfl⟩
      rw [← eσ31] at hP
      have hq := hq σ31 eσ31
      obtain ⟨x32, ex32⟩ : ∃ y : Int32, y = v2 + (1 : Int32) := ⟨_, rfl⟩
      have hq := hq x32 ex32
      refine lv_iinc (v := x32) (lv' := [(2, .int x32), (0, .ref (ka_a G (25, 0, 0))), (1, .int v1)]) hx hb dX9_setFree_151 hl (k := 2) rfl (by rw [ex32]; rfl) (by decide) rfl (fun ls hl => ?_)
      refine lv_goto (tgt := 110) hx hb dX9_setFree_154 (by decide) ?_
      exact ih σ31 v1 x32 hq H locs hP hS ls (lv_sub hl [1, 2, 0] rfl)
set_option maxHeartbeats 4000000 in
set_option maxRecDepth 100000 in
theorem kb_X9_setFree_107 {p : Program} {l : Launch} {e : Env} {s : State} {m : MethodId} {args : Array Value} {below : List Frame} {meth : Method} {c : Code} {G : ka_G} (hI : ka_I G) (C0 : ka_C p s m args meth c cX9_setFree 3 "GlossRowsModel" (some .int)) (hK : ka_Kn G s) {Q : Int32 → ka_S → Prop} : ∀ (σ : ka_S) (v1 : Int32) (t1 : Int32) (t2 : Int64), kw_X9_setFree_107 Q σ v1 t1 t2 → ∀ (H : Heap) (locs : List Loc), ka_P G σ H → va_S (ka_A G) s.heap H locs → ∀ ls : Array Slot, lv_has ls 3 [(0, .ref (ka_a G (25, 0, 0))), (1, .int v1)] → W p l e rm_X9_setFree s m args below meth c H locs 0 0 (MQ below (va_Qi Q (ka_B G) (ka_A G)) args s 0 0 (ka_A G)) (F0 m 107 ls [.long t2, .int t1, .ref (ka_a G (37, 0, 0))]) := by
  obtain ⟨hx, hb, -, hml, hown, hts, -⟩ := id C0
  intro σ v1 t1 t2 hq H locs hP hS ls hl
  unfold kw_X9_setFree_107 at hq
  obtain ⟨b23, hq⟩ := hq
  refine kr_last C0 hK hI hP hS (kv_s (by decide) (by decide)) (fun _ => rfl) b23 dX9_setFree_107 (fun H locs hP hS => ?_)
  obtain ⟨σ24, eσ24⟩ : ∃ z : ka_S, z = ka_wL σ (37, 0, 0) t1.toNatClampNeg t2 := ⟨_, rfl⟩
  rw [← eσ24] at hP
  have hq := hq σ24 eσ24
  refine lv_iconst (v := 0) hx hb dX9_setFree_108 (by decide) ?_
  refine lv_istore_n (lv' := [(2, .int (0 : Int32)), (0, .ref (ka_a G (25, 0, 0))), (1, .int v1)]) hx hb dX9_setFree_109 rfl hl (by decide) rfl (fun ls hl => ?_)
  obtain ⟨n25, hq⟩ := hq
  exact kb_X9_setFree_110 hI C0 hK n25 σ24 v1 (0 : Int32) hq H locs hP hS ls (lv_sub hl [1, 2, 0] rfl)
set_option maxHeartbeats 4000000 in
set_option maxRecDepth 100000 in
theorem kb_X9_setFree_39 {p : Program} {l : Launch} {e : Env} {s : State} {m : MethodId} {args : Array Value} {below : List Frame} {meth : Method} {c : Code} {G : ka_G} (hI : ka_I G) (C0 : ka_C p s m args meth c cX9_setFree 3 "GlossRowsModel" (some .int)) (hK : ka_Kn G s) {Q : Int32 → ka_S → Prop} : ∀ (n : Nat) (σ : ka_S) (v1 : Int32) (v2 : Int32), kw_X9_setFree_39 Q n σ v1 v2 → ∀ (H : Heap) (locs : List Loc), ka_P G σ H → va_S (ka_A G) s.heap H locs → ∀ ls : Array Slot, lv_has ls 3 [(0, .ref (ka_a G (25, 0, 0))), (1, .int v1), (2, .int v2)] → W p l e rm_X9_setFree s m args below meth c H locs 0 0 (MQ below (va_Qi Q (ka_B G) (ka_A G)) args s 0 0 (ka_A G)) (F0 m 39 ls []) := by
  obtain ⟨hx, hb, -, hml, hown, hts, -⟩ := id C0
  intro n
  induction n with
  | zero =>
    intro σ v1 v2 hq
    rw [kw_X9_setFree_39] at hq
    exact hq.elim
  | succ n ih =>
    intro σ v1 v2 hq H locs hP hS ls hl
    rw [kw_X9_setFree_39] at hq
    refine lv_iload_n hx hb dX9_setFree_39 rfl (lv_at hl 2 rfl) ?_
    refine lv_bipush (v := 6) hx hb dX9_setFree_40 (by decide) ?_
    refine lv_icmp_ge (tgt := 62) hx hb dX9_setFree_42 (by decide) (fun hc => ?_) (fun hc => ?_)
    · have hq := hq.1 hc
      refine lv_aload_n hx hb dX9_setFree_62 rfl (lv_at hl 0 rfl) ?_
      refine kg_X9_now C0 hK hP (kv_s (by decide) (by decide)) kq_960 dX9_setFree_63 ?_
      refine lv_iload_n hx hb dX9_setFree_66 rfl (lv_at hl 1 rfl) ?_
      refine lv_iconst (v := 2) hx hb dX9_setFree_67 (by decide) ?_
      refine kr_Si (As := [.int v1, .int (2 : Int32)]) (rest := [.ref (ka_a G (37, 0, 0))]) C0 hK hP hS hl (km_X9_cell l hI hq) kd_X9_cell kq_1102 ⟨rfl, rfl, Nat.le_of_ble_eq_true rfl, Nat.le_of_ble_eq_true rfl⟩ rfl (Nat.le_of_ble_eq_true rfl) dX9_setFree_68 ⟨Nat.zero_le _, Nat.zero_le _⟩ (fun r10 σ9 H locs hq hP hS => ?_)
      refine lv_aload_n hx hb dX9_setFree_71 rfl (lv_at hl 0 rfl) ?_
      refine kg_X9_scriptSize C0 hK hP (kv_s (by decide) (by decide)) kq_957 dX9_setFree_72 ?_
      refine lv_i2l hx hb dX9_setFree_75 rfl ?_
      obtain ⟨b11, hq⟩ := hq
      refine kr_last C0 hK hI hP hS (kv_s (by decide) (by decide)) (fun _ => rfl) b11 dX9_setFree_76 (fun H locs hP hS => ?_)
      obtain ⟨σ12, eσ12⟩ : ∃ z : ka_S, z = ka_wL σ9 (37, 0, 0) r10.toNatClampNeg ((σ9.1 (25, 0, 0) 2).toInt64) := ⟨_, rfl⟩
      rw [← eσ12] at hP
      have hq := hq σ12 eσ12
      refine lv_aload_n hx hb dX9_setFree_77 rfl (lv_at hl 0 rfl) ?_
      refine kg_X9_now C0 hK hP (kv_s (by decide) (by decide)) kq_960 dX9_setFree_78 ?_
      refine lv_iload_n hx hb dX9_setFree_81 rfl (lv_at hl 1 rfl) ?_
      refine lv_iconst (v := 1) hx hb dX9_setFree_82 (by decide) ?_
      refine kr_Si (As := [.int v1, .int (1 : Int32)]) (rest := [.ref (ka_a G (37, 0, 0))]) C0 hK hP hS hl (km_X9_cell l hI hq) kd_X9_cell kq_1102 ⟨rfl, rfl, Nat.le_of_ble_eq_true rfl, Nat.le_of_ble_eq_true rfl⟩ rfl (Nat.le_of_ble_eq_true rfl) dX9_setFree_83 ⟨Nat.zero_le _, Nat.zero_le _⟩ (fun r14 σ13 H locs hq hP hS => ?_)
      refine lv_aload_n hx hb dX9_setFree_86 rfl (lv_at hl 0 rfl) ?_
      refine kg_X9_scriptSize C0 hK hP (kv_s (by decide) (by decide)) kq_957 dX9_setFree_87 ?_
      refine lv_if_le (tgt := 97) hx hb dX9_setFree_90 (by decide) (fun hc => ?_) (fun hc => ?_)
      · have hq := hq.1 hc
        refine lv_aload_n hx hb dX9_setFree_97 rfl (lv_at hl 0 rfl) ?_
        refine kg_X9_now C0 hK hP (kv_s (by decide) (by decide)) kq_960 dX9_setFree_98 ?_
        refine lv_iload_n hx hb dX9_setFree_101 rfl (lv_at hl 1 rfl) ?_
        refine lv_iconst (v := 1) hx hb dX9_setFree_102 (by decide) ?_
        refine kr_Si (As := [.int v1, .int (1 : Int32)]) (rest := [.ref (ka_a G (37, 0, 0)), .int r14, .ref (ka_a G (37, 0, 0))]) C0 hK hP hS hl (km_X9_cell l hI hq) kd_X9_cell kq_1102 ⟨rfl, rfl, Nat.le_of_ble_eq_true rfl, Nat.le_of_ble_eq_true rfl⟩ rfl (Nat.le_of_ble_eq_true rfl) dX9_setFree_103 ⟨Nat.zero_le _, Nat.zero_le _⟩ (fun r16 σ15 H locs hq hP hS => ?_)
        obtain ⟨b17, hq⟩ := hq
        refine kr_lald C0 hK hP (kv_s (by decide) (by decide)) rfl b17 dX9_setFree_106 ?_
        exact kb_X9_setFree_107 hI C0 hK σ15 v1 r14 (σ15.2 (37, 0, 0) r16.toNatClampNeg) hq H locs hP hS ls (lv_sub hl [0, 1] rfl)
      · have hq := hq.2 hc
        refine lv_lconst (v := 1) hx hb dX9_setFree_93 (by decide) ?_
        refine lv_goto (tgt := 107) hx hb dX9_setFree_94 (by decide) ?_
        exact kb_X9_setFree_107 hI C0 hK σ13 v1 r14 (1 : Int64) hq H locs hP hS ls (lv_sub hl [0, 1] rfl)
    · have hq := hq.2 hc
      refine lv_aload_n hx hb dX9_setFree_45 rfl (lv_at hl 0 rfl) ?_
      refine kg_X9_now C0 hK hP (kv_s (by decide) (by decide)) kq_960 dX9_setFree_46 ?_
      refine lv_iload_n hx hb dX9_setFree_49 rfl (lv_at hl 1 rfl) ?_
      refine lv_iload_n hx hb dX9_setFree_50 rfl (lv_at hl 2 rfl) ?_
      refine kr_Si (As := [.int v1, .int v2]) (rest := [.ref (ka_a G (37, 0, 0))]) C0 hK hP hS hl (km_X9_cell l hI hq) kd_X9_cell kq_1102 ⟨rfl, rfl, Nat.le_of_ble_eq_true rfl, Nat.le_of_ble_eq_true rfl⟩ rfl (Nat.le_of_ble_eq_true rfl) dX9_setFree_51 ⟨Nat.zero_le _, Nat.zero_le _⟩ (fun r19 σ18 H locs hq hP hS => ?_)
      refine lv_lconst (v := 0) hx hb dX9_setFree_54 (by decide) ?_
      obtain ⟨b20, hq⟩ := hq
      refine kr_last C0 hK hI hP hS (kv_s (by decide) (by decide)) (fun _ => rfl) b20 dX9_setFree_55 (fun H locs hP hS => ?_)
      obtain ⟨σ21, eσ21⟩ : ∃ z : ka_S, z = ka_wL σ18 (37, 0, 0) r19.toNatClampNeg (0 : Int64) := ⟨_, rfl⟩
      rw [← eσ21] at hP
      have hq := hq σ21 eσ21
      obtain ⟨x22, ex22⟩ : ∃ y : Int32, y = v2 + (1 : Int32) := ⟨_, rfl⟩
      have hq := hq x22 ex22
      refine lv_iinc (v := x22) (lv' := [(2, .int x22), (0, .ref (ka_a G (25, 0, 0))), (1, .int v1)]) hx hb dX9_setFree_56 hl (k := 2) rfl (by rw [ex22]; rfl) (by decide) rfl (fun ls hl => ?_)
      refine lv_goto (tgt := 39) hx hb dX9_setFree_59 (by decide) ?_
      exact ih σ21 v1 x22 hq H locs hP hS ls (lv_sub hl [1, 2, 0] rfl)
set_option maxHeartbeats 4000000 in
set_option maxRecDepth 100000 in
theorem kb_X9_setFree_25 {p : Program} {l : Launch} {e : Env} {s : State} {m : MethodId} {args : Array Value} {below : List Frame} {meth : Method} {c : Code} {G : ka_G} (hI : ka_I G) (C0 : ka_C p s m args meth c cX9_setFree 3 "GlossRowsModel" (some .int)) (hK : ka_Kn G s) {Q : Int32 → ka_S → Prop} : ∀ (σ : ka_S) (v1 : Int32) (t1 : Int32), kw_X9_setFree_25 Q σ v1 t1 → ∀ (H : Heap) (locs : List Loc), ka_P G σ H → va_S (ka_A G) s.heap H locs → ∀ ls : Array Slot, lv_has ls 3 [(0, .ref (ka_a G (25, 0, 0))), (1, .int v1)] → W p l e rm_X9_setFree s m args below meth c H locs 0 0 (MQ below (va_Qi Q (ka_B G) (ka_A G)) args s 0 0 (ka_A G)) (F0 m 25 ls [.int t1, .ref (ka_a G (25, 0, 0))]) := by
  obtain ⟨hx, hb, -, hml, hown, hts, -⟩ := id C0
  intro σ v1 t1 hq H locs hP hS ls hl
  unfold kw_X9_setFree_25 at hq
  refine kr_Vi (k := (25, 0, 0)) (As := [.int t1]) (rest := []) C0 hK hP hS hl (km_X9_refused l hI hq) kd_X9_refused kq_1034 (kv_s (by decide) (by decide)) rfl rfl rfl ⟨rfl, rfl, Nat.le_of_ble_eq_true rfl, Nat.le_of_ble_eq_true rfl⟩ rfl (Nat.le_of_ble_eq_true rfl) dX9_setFree_25 ⟨Nat.zero_le _, Nat.zero_le _⟩ (fun r6 σ5 H locs hq hP hS => ?_)
  refine lv_if_eq (tgt := 33) hx hb dX9_setFree_28 (by decide) (fun hc => ?_) (fun hc => ?_)
  · have hq := hq.1 hc
    refine lv_aload_n hx hb dX9_setFree_33 rfl (lv_at hl 0 rfl) ?_
    refine kr_Vv (k := (25, 0, 0)) (As := []) (rest := []) C0 hK hP hS hl (km_X9_note l hI hq) kd_X9_note kq_1208 (kv_s (by decide) (by decide)) rfl rfl rfl ⟨rfl, rfl, Nat.le_of_ble_eq_true rfl, Nat.le_of_ble_eq_true rfl⟩ rfl (Nat.le_of_ble_eq_true rfl) dX9_setFree_34 ⟨Nat.zero_le _, Nat.zero_le _⟩ (fun σ7 H locs hq hP hS => ?_)
    refine lv_iconst (v := 2) hx hb dX9_setFree_37 (by decide) ?_
    refine lv_istore_n (lv' := [(2, .int (2 : Int32)), (0, .ref (ka_a G (25, 0, 0))), (1, .int v1)]) hx hb dX9_setFree_38 rfl hl (by decide) rfl (fun ls hl => ?_)
    obtain ⟨n8, hq⟩ := hq
    exact kb_X9_setFree_39 hI C0 hK n8 σ7 v1 (2 : Int32) hq H locs hP hS ls (lv_sub hl [1, 2, 0] rfl)
  · have hq := hq.2 hc
    refine lv_iconst (v := 0) hx hb dX9_setFree_31 (by decide) ?_
    exact kr_iret C0 hK hP hS hq dX9_setFree_32
set_option maxHeartbeats 4000000 in
set_option maxRecDepth 100000 in
theorem km_X9_setFree (l : Launch) {G : ka_G} (hI : ka_I G) {σ : ka_S} {v1 : Int32} {Q : Int32 → ka_S → Prop} (hq : kw_X9_setFree σ v1 Q) : kc_i l yX9_setFree (kw_ yX9_setFree cX9_setFree 3 (some .int)) rm_X9_setFree G [.ref (ka_a G (25, 0, 0)), .int v1] σ Q := by
  refine ka_of "GlossRowsModel" rfl (by decide) (Nat.le_of_ble_eq_true rfl) ?_
  intro p e s m below meth c C0 hK H locs hP hS ls hl
  obtain ⟨hx, hb, -, hml, hown, hts, -⟩ := id C0
  have hl : lv_has ls 3 [(0, .ref (ka_a G (25, 0, 0))), (1, .int v1)] := hl
  unfold kw_X9_setFree at hq
  refine lv_aload_n hx hb dX9_setFree_0 rfl (lv_at hl 0 rfl) ?_
  refine lv_aload_n hx hb dX9_setFree_1 rfl (lv_at hl 0 rfl) ?_
  refine lv_iload_n hx hb dX9_setFree_2 rfl (lv_at hl 1 rfl) ?_
  refine kr_Vi (k := (25, 0, 0)) (As := [.int v1]) (rest := [.ref (ka_a G (25, 0, 0))]) C0 hK hP hS hl (km_X9_isWord l hI hq) kd_X9_isWord kq_1138 (kv_s (by decide) (by decide)) rfl rfl rfl ⟨rfl, rfl, Nat.le_of_ble_eq_true rfl, Nat.le_of_ble_eq_true rfl⟩ rfl (Nat.le_of_ble_eq_true rfl) dX9_setFree_3 ⟨Nat.zero_le _, Nat.zero_le _⟩ (fun r2 σ1 H locs hq hP hS => ?_)
  refine lv_if_ne (tgt := 13) hx hb dX9_setFree_6 (by decide) (fun hc => ?_) (fun hc => ?_)
  · have hq := hq.2 hc
    refine lv_aload_n hx hb dX9_setFree_13 rfl (lv_at hl 0 rfl) ?_
    refine kr_Vi (k := (25, 0, 0)) (As := []) (rest := [.ref (ka_a G (25, 0, 0))]) C0 hK hP hS hl (km_X9_isFree l hI hq) kd_X9_isFree kq_1238 (kv_s (by decide) (by decide)) rfl rfl rfl ⟨rfl, rfl, Nat.le_of_ble_eq_true rfl, Nat.le_of_ble_eq_true rfl⟩ rfl (Nat.le_of_ble_eq_true rfl) dX9_setFree_14 ⟨Nat.zero_le _, Nat.zero_le _⟩ (fun r4 σ3 H locs hq hP hS => ?_)
    refine lv_if_eq (tgt := 24) hx hb dX9_setFree_17 (by decide) (fun hc => ?_) (fun hc => ?_)
    · have hq := hq.1 hc
      refine lv_iconst (v := 2) hx hb dX9_setFree_24 (by decide) ?_
      exact kb_X9_setFree_25 hI C0 hK σ3 v1 (2 : Int32) hq H locs hP hS ls (lv_sub hl [0, 1] rfl)
    · have hq := hq.2 hc
      refine lv_iconst (v := 0) hx hb dX9_setFree_20 (by decide) ?_
      refine lv_goto (tgt := 25) hx hb dX9_setFree_21 (by decide) ?_
      exact kb_X9_setFree_25 hI C0 hK σ3 v1 (0 : Int32) hq H locs hP hS ls (lv_sub hl [0, 1] rfl)
  · have hq := hq.1 hc
    refine lv_iconst (v := 1) hx hb dX9_setFree_9 (by decide) ?_
    refine lv_goto (tgt := 25) hx hb dX9_setFree_10 (by decide) ?_
    exact kb_X9_setFree_25 hI C0 hK σ1 v1 (1 : Int32) hq H locs hP hS ls (lv_sub hl [0, 1] rfl)
/-! GlossRowsModel.isGloss()Z -/
def rm_X9_isGloss : Room := { frames := 3, cells := 0, slots := 0, locals := 65 }
def kw_X9_isGloss_17 (Q : Int32 → ka_S → Prop) : Nat → ka_S → Int32 → Int32 → Prop
  | 0, _, _, _ => False
  | n + 1, σ, v1, v2 => ((σ.1 (25, 0, 0) 2) ≤ v2 → (v1 = 0 ∨ v1 = 1) ∧
      Q v1 σ) ∧
    (¬ (σ.1 (25, 0, 0) 2) ≤ v2 → (v1 = (0 : Int32) → ∀ x3 : Int32, x3 = v2 + (1 : Int32) →
        (kw_X9_isGloss_17 Q n) σ (0 : Int32) x3) ∧
      (¬ v1 = (0 : Int32) → vp_in v2 60 ∧
        kw_X9_isGlossLetter σ (σ.1 (26, 0, 0) v2.toNatClampNeg) (fun r6 σ5 => 
        (r6 = (0 : Int32) → ∀ x7 : Int32, x7 = v2 + (1 : Int32) →
          (kw_X9_isGloss_17 Q n) σ5 (0 : Int32) x7) ∧
        (¬ r6 = (0 : Int32) → ∀ x8 : Int32, x8 = v2 + (1 : Int32) →
          (kw_X9_isGloss_17 Q n) σ5 (1 : Int32) x8))))
def kw_X9_isGloss (σ : ka_S) (Q : Int32 → ka_S → Prop) : Prop := ((8 : Int32) < (σ.1 (25, 0, 0) 2) → ∃ n1 : Nat, kw_X9_isGloss_17 Q n1 σ (0 : Int32) (0 : Int32)) ∧
  (¬ (8 : Int32) < (σ.1 (25, 0, 0) 2) → ∃ n2 : Nat, kw_X9_isGloss_17 Q n2 σ (1 : Int32) (0 : Int32))
set_option maxHeartbeats 4000000 in
set_option maxRecDepth 100000 in
theorem kb_X9_isGloss_17 {p : Program} {l : Launch} {e : Env} {s : State} {m : MethodId} {args : Array Value} {below : List Frame} {meth : Method} {c : Code} {G : ka_G} (hI : ka_I G) (C0 : ka_C p s m args meth c cX9_isGloss 3 "GlossRowsModel" (some .boolean)) (hK : ka_Kn G s) {Q : Int32 → ka_S → Prop} : ∀ (n : Nat) (σ : ka_S) (v1 : Int32) (v2 : Int32), kw_X9_isGloss_17 Q n σ v1 v2 → ∀ (H : Heap) (locs : List Loc), ka_P G σ H → va_S (ka_A G) s.heap H locs → ∀ ls : Array Slot, lv_has ls 3 [(0, .ref (ka_a G (25, 0, 0))), (1, .int v1), (2, .int v2)] → W p l e rm_X9_isGloss s m args below meth c H locs 0 0 (MQ below (va_Qi Q (ka_B G) (ka_A G)) args s 0 0 (ka_A G)) (F0 m 17 ls []) := by
  obtain ⟨hx, hb, -, hml, hown, hts, -⟩ := id C0
  intro n
  induction n with
  | zero =>
    intro σ v1 v2 hq
    rw [kw_X9_isGloss_17] at hq
    exact hq.elim
  | succ n ih =>
    intro σ v1 v2 hq H locs hP hS ls hl
    rw [kw_X9_isGloss_17] at hq
    refine lv_iload_n hx hb dX9_isGloss_17 rfl (lv_at hl 2 rfl) ?_
    refine lv_aload_n hx hb dX9_isGloss_18 rfl (lv_at hl 0 rfl) ?_
    refine kg_X9_scriptSize C0 hK hP (kv_s (by decide) (by decide)) kq_957 dX9_isGloss_19 ?_
    refine lv_icmp_ge (tgt := 53) hx hb dX9_isGloss_22 (by decide) (fun hc => ?_) (fun hc => ?_)
    · have hq := hq.1 hc
      refine lv_iload_n hx hb dX9_isGloss_53 rfl (lv_at hl 1 rfl) ?_
      obtain ⟨hz, hq⟩ := hq
      exact kr_zret C0 hK hP hS (kz_n hz) hq dX9_isGloss_54
    · have hq := hq.2 hc
      refine lv_iload_n hx hb dX9_isGloss_25 rfl (lv_at hl 1 rfl) ?_
      refine lv_if_eq (tgt := 45) hx hb dX9_isGloss_26 (by decide) (fun hc => ?_) (fun hc => ?_)
      · have hq := hq.1 hc
        refine lv_iconst (v := 0) hx hb dX9_isGloss_45 (by decide) ?_
        refine lv_istore_n (lv' := [(1, .int (0 : Int32)), (0, .ref (ka_a G (25, 0, 0))), (2, .int v2)]) hx hb dX9_isGloss_46 rfl hl (by decide) rfl (fun ls hl => ?_)
        obtain ⟨x3, ex3⟩ : ∃ y : Int32, y = v2 + (1 : Int32) := ⟨_, rfl⟩
        have hq := hq x3 ex3
        refine lv_iinc (v := x3) (lv' := [(2, .int x3), (1, .int (0 : Int32)), (0, .ref (ka_a G (25, 0, 0)))]) hx hb dX9_isGloss_47 hl (k := 2) rfl (by rw [ex3]; rfl) (by decide) rfl (fun ls hl => ?_)
        refine lv_goto (tgt := 17) hx hb dX9_isGloss_50 (by decide) ?_
        exact ih σ (0 : Int32) x3 hq H locs hP hS ls (lv_sub hl [2, 1, 0] rfl)
      · have hq := hq.2 hc
        refine lv_aload_n hx hb dX9_isGloss_29 rfl (lv_at hl 0 rfl) ?_
        refine kg_X9_script C0 hK hP (kv_s (by decide) (by decide)) kq_956 dX9_isGloss_30 ?_
        refine lv_iload_n hx hb dX9_isGloss_33 rfl (lv_at hl 2 rfl) ?_
        obtain ⟨b4, hq⟩ := hq
        refine kr_iald C0 hK hP (kv_s (by decide) (by decide)) rfl b4 dX9_isGloss_34 ?_
        refine kr_Si (As := [.int (σ.1 (26, 0, 0) v2.toNatClampNeg)]) (rest := []) C0 hK hP hS hl (km_X9_isGlossLetter l hI hq) kd_X9_isGlossLetter kq_1054 ⟨rfl, rfl, Nat.le_of_ble_eq_true rfl, Nat.le_of_ble_eq_true rfl⟩ rfl (Nat.le_of_ble_eq_true rfl) dX9_isGloss_35 ⟨Nat.zero_le _, Nat.zero_le _⟩ (fun r6 σ5 H locs hq hP hS => ?_)
        refine lv_if_eq (tgt := 45) hx hb dX9_isGloss_38 (by decide) (fun hc => ?_) (fun hc => ?_)
        · have hq := hq.1 hc
          refine lv_iconst (v := 0) hx hb dX9_isGloss_45 (by decide) ?_
          refine lv_istore_n (lv' := [(1, .int (0 : Int32)), (0, .ref (ka_a G (25, 0, 0))), (2, .int v2)]) hx hb dX9_isGloss_46 rfl hl (by decide) rfl (fun ls hl => ?_)
          obtain ⟨x7, ex7⟩ : ∃ y : Int32, y = v2 + (1 : Int32) := ⟨_, rfl⟩
          have hq := hq x7 ex7
          refine lv_iinc (v := x7) (lv' := [(2, .int x7), (1, .int (0 : Int32)), (0, .ref (ka_a G (25, 0, 0)))]) hx hb dX9_isGloss_47 hl (k := 2) rfl (by rw [ex7]; rfl) (by decide) rfl (fun ls hl => ?_)
          refine lv_goto (tgt := 17) hx hb dX9_isGloss_50 (by decide) ?_
          exact ih σ5 (0 : Int32) x7 hq H locs hP hS ls (lv_sub hl [2, 1, 0] rfl)
        · have hq := hq.2 hc
          refine lv_iconst (v := 1) hx hb dX9_isGloss_41 (by decide) ?_
          refine lv_goto (tgt := 46) hx hb dX9_isGloss_42 (by decide) ?_
          refine lv_istore_n (lv' := [(1, .int (1 : Int32)), (0, .ref (ka_a G (25, 0, 0))), (2, .int v2)]) hx hb dX9_isGloss_46 rfl hl (by decide) rfl (fun ls hl => ?_)
          obtain ⟨x8, ex8⟩ : ∃ y : Int32, y = v2 + (1 : Int32) := ⟨_, rfl⟩
          have hq := hq x8 ex8
          refine lv_iinc (v := x8) (lv' := [(2, .int x8), (1, .int (1 : Int32)), (0, .ref (ka_a G (25, 0, 0)))]) hx hb dX9_isGloss_47 hl (k := 2) rfl (by rw [ex8]; rfl) (by decide) rfl (fun ls hl => ?_)
          refine lv_goto (tgt := 17) hx hb dX9_isGloss_50 (by decide) ?_
          exact ih σ5 (1 : Int32) x8 hq H locs hP hS ls (lv_sub hl [2, 1, 0] rfl)
set_option maxHeartbeats 4000000 in
set_option maxRecDepth 100000 in
theorem km_X9_isGloss (l : Launch) {G : ka_G} (hI : ka_I G) {σ : ka_S} {Q : Int32 → ka_S → Prop} (hq : kw_X9_isGloss σ Q) : kc_i l yX9_isGloss (kw_ yX9_isGloss cX9_isGloss 3 (some .boolean)) rm_X9_isGloss G [.ref (ka_a G (25, 0, 0))] σ Q := by
  refine ka_of "GlossRowsModel" rfl (by decide) (Nat.le_of_ble_eq_true rfl) ?_
  intro p e s m below meth c C0 hK H locs hP hS ls hl
  obtain ⟨hx, hb, -, hml, hown, hts, -⟩ := id C0
  have hl : lv_has ls 3 [(0, .ref (ka_a G (25, 0, 0)))] := hl
  unfold kw_X9_isGloss at hq
  refine lv_aload_n hx hb dX9_isGloss_0 rfl (lv_at hl 0 rfl) ?_
  refine kg_X9_scriptSize C0 hK hP (kv_s (by decide) (by decide)) kq_957 dX9_isGloss_1 ?_
  refine lv_bipush (v := 8) hx hb dX9_isGloss_4 (by decide) ?_
  refine lv_icmp_gt (tgt := 13) hx hb dX9_isGloss_6 (by decide) (fun hc => ?_) (fun hc => ?_)
  · have hq := hq.1 hc
    refine lv_iconst (v := 0) hx hb dX9_isGloss_13 (by decide) ?_
    refine lv_istore_n (lv' := [(1, .int (0 : Int32)), (0, .ref (ka_a G (25, 0, 0)))]) hx hb dX9_isGloss_14 rfl hl (by decide) rfl (fun ls hl => ?_)
    refine lv_iconst (v := 0) hx hb dX9_isGloss_15 (by decide) ?_
    refine lv_istore_n (lv' := [(2, .int (0 : Int32)), (1, .int (0 : Int32)), (0, .ref (ka_a G (25, 0, 0)))]) hx hb dX9_isGloss_16 rfl hl (by decide) rfl (fun ls hl => ?_)
    obtain ⟨n1, hq⟩ := hq
    exact kb_X9_isGloss_17 hI C0 hK n1 σ (0 : Int32) (0 : Int32) hq H locs hP hS ls (lv_sub hl [2, 1, 0] rfl)
  · have hq := hq.2 hc
    refine lv_iconst (v := 1) hx hb dX9_isGloss_9 (by decide) ?_
    refine lv_goto (tgt := 14) hx hb dX9_isGloss_10 (by decide) ?_
    refine lv_istore_n (lv' := [(1, .int (1 : Int32)), (0, .ref (ka_a G (25, 0, 0)))]) hx hb dX9_isGloss_14 rfl hl (by decide) rfl (fun ls hl => ?_)
    refine lv_iconst (v := 0) hx hb dX9_isGloss_15 (by decide) ?_
    refine lv_istore_n (lv' := [(2, .int (0 : Int32)), (1, .int (1 : Int32)), (0, .ref (ka_a G (25, 0, 0)))]) hx hb dX9_isGloss_16 rfl hl (by decide) rfl (fun ls hl => ?_)
    obtain ⟨n2, hq⟩ := hq
    exact kb_X9_isGloss_17 hI C0 hK n2 σ (1 : Int32) (0 : Int32) hq H locs hP hS ls (lv_sub hl [2, 1, 0] rfl)
/-! GlossRowsModel.setGloss(II)I -/
def rm_X9_setGloss : Room := { frames := 4, cells := 0, slots := 0, locals := 90 }
def kw_X9_setGloss_43 (Q : Int32 → ka_S → Prop) : Nat → ka_S → Int32 → Int32 → Int64 → Int32 → Prop
  | 0, _, _, _, _, _ => False
  | n + 1, σ, v1, v2, v3, v5 => ((σ.1 (25, 0, 0) 2) ≤ v5 → kw_X9_glossAt σ v1 v2 (fun r10 σ9 => 
      vp_in r10 253 ∧
      ∀ σ12 : ka_S, σ12 = ka_wL σ9 (37, 0, 0) r10.toNatClampNeg v3 →
      kw_X9_gaps σ12 (37, 0, 0) (fun r14 σ13 => 
      Q r14 σ13))) ∧
    (¬ (σ.1 (25, 0, 0) 2) ≤ v5 → vp_in v5 60 ∧
      kw_X9_withLetter σ v3 v5 (σ.1 (26, 0, 0) v5.toNatClampNeg) (fun r17 σ16 => 
      ∀ x18 : Int32, x18 = v5 + (1 : Int32) →
      (kw_X9_setGloss_43 Q n) σ16 v1 v2 r17 x18))
def kw_X9_setGloss_26 (Q : Int32 → ka_S → Prop) (σ : ka_S) (v1 : Int32) (v2 : Int32) (t1 : Int32) : Prop := kw_X9_refused σ t1 (fun r6 σ5 => 
  (r6 = (0 : Int32) → kw_X9_note σ5 (fun σ7 => 
    ∃ n8 : Nat, kw_X9_setGloss_43 Q n8 σ7 v1 v2 (0 : Int64) (0 : Int32))) ∧
  (¬ r6 = (0 : Int32) → Q (0 : Int32) σ5))
def kw_X9_setGloss (σ : ka_S) (v1 : Int32) (v2 : Int32) (Q : Int32 → ka_S → Prop) : Prop := kw_X9_isPart σ v1 v2 (fun r2 σ1 => 
  (r2 = (0 : Int32) → kw_X9_setGloss_26 Q σ1 v1 v2 (1 : Int32)) ∧
  (¬ r2 = (0 : Int32) → kw_X9_isGloss σ1 (fun r4 σ3 => 
    (r4 = (0 : Int32) → kw_X9_setGloss_26 Q σ3 v1 v2 (2 : Int32)) ∧
    (¬ r4 = (0 : Int32) → kw_X9_setGloss_26 Q σ3 v1 v2 (0 : Int32)))))
set_option maxHeartbeats 4000000 in
set_option maxRecDepth 100000 in
theorem kb_X9_setGloss_43 {p : Program} {l : Launch} {e : Env} {s : State} {m : MethodId} {args : Array Value} {below : List Frame} {meth : Method} {c : Code} {G : ka_G} (hI : ka_I G) (C0 : ka_C p s m args meth c cX9_setGloss 6 "GlossRowsModel" (some .int)) (hK : ka_Kn G s) {Q : Int32 → ka_S → Prop} : ∀ (n : Nat) (σ : ka_S) (v1 : Int32) (v2 : Int32) (v3 : Int64) (v5 : Int32), kw_X9_setGloss_43 Q n σ v1 v2 v3 v5 → ∀ (H : Heap) (locs : List Loc), ka_P G σ H → va_S (ka_A G) s.heap H locs → ∀ ls : Array Slot, lv_has ls 6 [(0, .ref (ka_a G (25, 0, 0))), (1, .int v1), (2, .int v2), (3, .long v3), (5, .int v5)] → W p l e rm_X9_setGloss s m args below meth c H locs 0 0 (MQ below (va_Qi Q (ka_B G) (ka_A G)) args s 0 0 (ka_A G)) (F0 m 43 ls []) := by
  obtain ⟨hx, hb, -, hml, hown, hts, -⟩ := id C0
  intro n
  induction n with
  | zero =>
    intro σ v1 v2 v3 v5 hq
    rw [kw_X9_setGloss_43] at hq
    exact hq.elim
  | succ n ih =>
    intro σ v1 v2 v3 v5 hq H locs hP hS ls hl
    rw [kw_X9_setGloss_43] at hq
    refine lv_iload hx hb dX9_setGloss_43 (lv_at hl 4 rfl) ?_
    refine lv_aload_n hx hb dX9_setGloss_45 rfl (lv_at hl 0 rfl) ?_
    refine kg_X9_scriptSize C0 hK hP (kv_s (by decide) (by decide)) kq_957 dX9_setGloss_46 ?_
    refine lv_icmp_ge (tgt := 72) hx hb dX9_setGloss_49 (by decide) (fun hc => ?_) (fun hc => ?_)
    · have hq := hq.1 hc
      refine lv_aload_n hx hb dX9_setGloss_72 rfl (lv_at hl 0 rfl) ?_
      refine kg_X9_now C0 hK hP (kv_s (by decide) (by decide)) kq_960 dX9_setGloss_73 ?_
      refine lv_iload_n hx hb dX9_setGloss_76 rfl (lv_at hl 1 rfl) ?_
      refine lv_iload_n hx hb dX9_setGloss_77 rfl (lv_at hl 2 rfl) ?_
      refine kr_Si (As := [.int v1, .int v2]) (rest := [.ref (ka_a G (37, 0, 0))]) C0 hK hP hS hl (km_X9_glossAt l hI hq) kd_X9_glossAt kq_1115 ⟨rfl, rfl, Nat.le_of_ble_eq_true rfl, Nat.le_of_ble_eq_true rfl⟩ rfl (Nat.le_of_ble_eq_true rfl) dX9_setGloss_78 ⟨Nat.zero_le _, Nat.zero_le _⟩ (fun r10 σ9 H locs hq hP hS => ?_)
      refine lv_lload_n hx hb dX9_setGloss_81 rfl (lv_at hl 3 rfl) ?_
      obtain ⟨b11, hq⟩ := hq
      refine kr_last C0 hK hI hP hS (kv_s (by decide) (by decide)) (fun _ => rfl) b11 dX9_setGloss_82 (fun H locs hP hS => ?_)
      obtain ⟨σ12, eσ12⟩ : ∃ z : ka_S, z = ka_wL σ9 (37, 0, 0) r10.toNatClampNeg v3 := ⟨_, rfl⟩
      rw [← eσ12] at hP
      have hq := hq σ12 eσ12
      refine lv_aload_n hx hb dX9_setGloss_83 rfl (lv_at hl 0 rfl) ?_
      refine kg_X9_now C0 hK hP (kv_s (by decide) (by decide)) kq_960 dX9_setGloss_84 ?_
      refine kr_Si (As := [.ref (ka_a G (37, 0, 0))]) (rest := []) C0 hK hP hS hl (km_X9_gaps l hI kl_37 hq) kd_X9_gaps kq_1122 ⟨rfl, rfl, Nat.le_of_ble_eq_true rfl, Nat.le_of_ble_eq_true rfl⟩ rfl (Nat.le_of_ble_eq_true rfl) dX9_setGloss_87 ⟨Nat.zero_le _, Nat.zero_le _⟩ (fun r14 σ13 H locs hq hP hS => ?_)
      exact kr_iret C0 hK hP hS hq dX9_setGloss_90
    · have hq := hq.2 hc
      refine lv_lload_n hx hb dX9_setGloss_52 rfl (lv_at hl 3 rfl) ?_
      refine lv_iload hx hb dX9_setGloss_53 (lv_at hl 4 rfl) ?_
      refine lv_aload_n hx hb dX9_setGloss_55 rfl (lv_at hl 0 rfl) ?_
      refine kg_X9_script C0 hK hP (kv_s (by decide) (by decide)) kq_956 dX9_setGloss_56 ?_
      refine lv_iload hx hb dX9_setGloss_59 (lv_at hl 4 rfl) ?_
      obtain ⟨b15, hq⟩ := hq
      refine kr_iald C0 hK hP (kv_s (by decide) (by decide)) rfl b15 dX9_setGloss_61 ?_
      refine kr_Sl (As := [.long v3, .int v5, .int (σ.1 (26, 0, 0) v5.toNatClampNeg)]) (rest := []) C0 hK hP hS hl (km_X9_withLetter l hI hq) kd_X9_withLetter kq_1062 ⟨rfl, rfl, Nat.le_of_ble_eq_true rfl, Nat.le_of_ble_eq_true rfl⟩ rfl (Nat.le_of_ble_eq_true rfl) dX9_setGloss_62 ⟨Nat.zero_le _, Nat.zero_le _⟩ (fun r17 σ16 H locs hq hP hS => ?_)
      refine lv_lstore_n (lv' := [(3, .long r17), (0, .ref (ka_a G (25, 0, 0))), (1, .int v1), (2, .int v2), (5, .int v5)]) hx hb dX9_setGloss_65 rfl hl (by decide) rfl (fun ls hl => ?_)
      obtain ⟨x18, ex18⟩ : ∃ y : Int32, y = v5 + (1 : Int32) := ⟨_, rfl⟩
      have hq := hq x18 ex18
      refine lv_iinc (v := x18) (lv' := [(5, .int x18), (3, .long r17), (0, .ref (ka_a G (25, 0, 0))), (1, .int v1), (2, .int v2)]) hx hb dX9_setGloss_66 hl (k := 4) rfl (by rw [ex18]; rfl) (by decide) rfl (fun ls hl => ?_)
      refine lv_goto (tgt := 43) hx hb dX9_setGloss_69 (by decide) ?_
      exact ih σ16 v1 v2 r17 x18 hq H locs hP hS ls (lv_sub hl [2, 3, 4, 1, 0] rfl)
set_option maxHeartbeats 4000000 in
set_option maxRecDepth 100000 in
theorem kb_X9_setGloss_26 {p : Program} {l : Launch} {e : Env} {s : State} {m : MethodId} {args : Array Value} {below : List Frame} {meth : Method} {c : Code} {G : ka_G} (hI : ka_I G) (C0 : ka_C p s m args meth c cX9_setGloss 6 "GlossRowsModel" (some .int)) (hK : ka_Kn G s) {Q : Int32 → ka_S → Prop} : ∀ (σ : ka_S) (v1 : Int32) (v2 : Int32) (t1 : Int32), kw_X9_setGloss_26 Q σ v1 v2 t1 → ∀ (H : Heap) (locs : List Loc), ka_P G σ H → va_S (ka_A G) s.heap H locs → ∀ ls : Array Slot, lv_has ls 6 [(0, .ref (ka_a G (25, 0, 0))), (1, .int v1), (2, .int v2)] → W p l e rm_X9_setGloss s m args below meth c H locs 0 0 (MQ below (va_Qi Q (ka_B G) (ka_A G)) args s 0 0 (ka_A G)) (F0 m 26 ls [.int t1, .ref (ka_a G (25, 0, 0))]) := by
  obtain ⟨hx, hb, -, hml, hown, hts, -⟩ := id C0
  intro σ v1 v2 t1 hq H locs hP hS ls hl
  unfold kw_X9_setGloss_26 at hq
  refine kr_Vi (k := (25, 0, 0)) (As := [.int t1]) (rest := []) C0 hK hP hS hl (km_X9_refused l hI hq) kd_X9_refused kq_1034 (kv_s (by decide) (by decide)) rfl rfl rfl ⟨rfl, rfl, Nat.le_of_ble_eq_true rfl, Nat.le_of_ble_eq_true rfl⟩ rfl (Nat.le_of_ble_eq_true rfl) dX9_setGloss_26 ⟨Nat.zero_le _, Nat.zero_le _⟩ (fun r6 σ5 H locs hq hP hS => ?_)
  refine lv_if_eq (tgt := 34) hx hb dX9_setGloss_29 (by decide) (fun hc => ?_) (fun hc => ?_)
  · have hq := hq.1 hc
    refine lv_aload_n hx hb dX9_setGloss_34 rfl (lv_at hl 0 rfl) ?_
    refine kr_Vv (k := (25, 0, 0)) (As := []) (rest := []) C0 hK hP hS hl (km_X9_note l hI hq) kd_X9_note kq_1208 (kv_s (by decide) (by decide)) rfl rfl rfl ⟨rfl, rfl, Nat.le_of_ble_eq_true rfl, Nat.le_of_ble_eq_true rfl⟩ rfl (Nat.le_of_ble_eq_true rfl) dX9_setGloss_35 ⟨Nat.zero_le _, Nat.zero_le _⟩ (fun σ7 H locs hq hP hS => ?_)
    refine lv_lconst (v := 0) hx hb dX9_setGloss_38 (by decide) ?_
    refine lv_lstore_n (lv' := [(3, .long (0 : Int64)), (0, .ref (ka_a G (25, 0, 0))), (1, .int v1), (2, .int v2)]) hx hb dX9_setGloss_39 rfl hl (by decide) rfl (fun ls hl => ?_)
    refine lv_iconst (v := 0) hx hb dX9_setGloss_40 (by decide) ?_
    refine lv_istore (lv' := [(5, .int (0 : Int32)), (3, .long (0 : Int64)), (0, .ref (ka_a G (25, 0, 0))), (1, .int v1), (2, .int v2)]) hx hb dX9_setGloss_41 hl (by decide) rfl (fun ls hl => ?_)
    obtain ⟨n8, hq⟩ := hq
    exact kb_X9_setGloss_43 hI C0 hK n8 σ7 v1 v2 (0 : Int64) (0 : Int32) hq H locs hP hS ls (lv_sub hl [2, 3, 4, 1, 0] rfl)
  · have hq := hq.2 hc
    refine lv_iconst (v := 0) hx hb dX9_setGloss_32 (by decide) ?_
    exact kr_iret C0 hK hP hS hq dX9_setGloss_33
set_option maxHeartbeats 4000000 in
set_option maxRecDepth 100000 in
theorem km_X9_setGloss (l : Launch) {G : ka_G} (hI : ka_I G) {σ : ka_S} {v1 : Int32} {v2 : Int32} {Q : Int32 → ka_S → Prop} (hq : kw_X9_setGloss σ v1 v2 Q) : kc_i l yX9_setGloss (kw_ yX9_setGloss cX9_setGloss 6 (some .int)) rm_X9_setGloss G [.ref (ka_a G (25, 0, 0)), .int v1, .int v2] σ Q := by
  refine ka_of "GlossRowsModel" rfl (by decide) (Nat.le_of_ble_eq_true rfl) ?_
  intro p e s m below meth c C0 hK H locs hP hS ls hl
  obtain ⟨hx, hb, -, hml, hown, hts, -⟩ := id C0
  have hl : lv_has ls 6 [(0, .ref (ka_a G (25, 0, 0))), (1, .int v1), (2, .int v2)] := hl
  unfold kw_X9_setGloss at hq
  refine lv_aload_n hx hb dX9_setGloss_0 rfl (lv_at hl 0 rfl) ?_
  refine lv_aload_n hx hb dX9_setGloss_1 rfl (lv_at hl 0 rfl) ?_
  refine lv_iload_n hx hb dX9_setGloss_2 rfl (lv_at hl 1 rfl) ?_
  refine lv_iload_n hx hb dX9_setGloss_3 rfl (lv_at hl 2 rfl) ?_
  refine kr_Vi (k := (25, 0, 0)) (As := [.int v1, .int v2]) (rest := [.ref (ka_a G (25, 0, 0))]) C0 hK hP hS hl (km_X9_isPart l hI hq) kd_X9_isPart kq_1150 (kv_s (by decide) (by decide)) rfl rfl rfl ⟨rfl, rfl, Nat.le_of_ble_eq_true rfl, Nat.le_of_ble_eq_true rfl⟩ rfl (Nat.le_of_ble_eq_true rfl) dX9_setGloss_4 ⟨Nat.zero_le _, Nat.zero_le _⟩ (fun r2 σ1 H locs hq hP hS => ?_)
  refine lv_if_ne (tgt := 14) hx hb dX9_setGloss_7 (by decide) (fun hc => ?_) (fun hc => ?_)
  · have hq := hq.2 hc
    refine lv_aload_n hx hb dX9_setGloss_14 rfl (lv_at hl 0 rfl) ?_
    refine kr_Vi (k := (25, 0, 0)) (As := []) (rest := [.ref (ka_a G (25, 0, 0))]) C0 hK hP hS hl (km_X9_isGloss l hI hq) kd_X9_isGloss kq_1248 (kv_s (by decide) (by decide)) rfl rfl rfl ⟨rfl, rfl, Nat.le_of_ble_eq_true rfl, Nat.le_of_ble_eq_true rfl⟩ rfl (Nat.le_of_ble_eq_true rfl) dX9_setGloss_15 ⟨Nat.zero_le _, Nat.zero_le _⟩ (fun r4 σ3 H locs hq hP hS => ?_)
    refine lv_if_eq (tgt := 25) hx hb dX9_setGloss_18 (by decide) (fun hc => ?_) (fun hc => ?_)
    · have hq := hq.1 hc
      refine lv_iconst (v := 2) hx hb dX9_setGloss_25 (by decide) ?_
      exact kb_X9_setGloss_26 hI C0 hK σ3 v1 v2 (2 : Int32) hq H locs hP hS ls (lv_sub hl [0, 1, 2] rfl)
    · have hq := hq.2 hc
      refine lv_iconst (v := 0) hx hb dX9_setGloss_21 (by decide) ?_
      refine lv_goto (tgt := 26) hx hb dX9_setGloss_22 (by decide) ?_
      exact kb_X9_setGloss_26 hI C0 hK σ3 v1 v2 (0 : Int32) hq H locs hP hS ls (lv_sub hl [0, 1, 2] rfl)
  · have hq := hq.1 hc
    refine lv_iconst (v := 1) hx hb dX9_setGloss_10 (by decide) ?_
    refine lv_goto (tgt := 26) hx hb dX9_setGloss_11 (by decide) ?_
    exact kb_X9_setGloss_26 hI C0 hK σ1 v1 v2 (1 : Int32) hq H locs hP hS ls (lv_sub hl [0, 1, 2] rfl)
/-! GlossRowsModel.isSetting(II)Z -/
def rm_X9_isSetting : Room := { frames := 1, cells := 0, slots := 0, locals := 25 }
def kw_X9_isSetting (σ : ka_S) (v0 : Int32) (v1 : Int32) (Q : Int32 → ka_S → Prop) : Prop := (v0 = (9 : Int32) → kw_X9_in σ v1.toInt64 (10 : Int64) (60 : Int64) (fun r6 σ5 => 
    (r6 = 0 ∨ r6 = 1) ∧
    Q r6 σ5)) ∧
  (¬ v0 = (9 : Int32) → (v0 = (10 : Int32) → kw_X9_in σ v1.toInt64 (1 : Int64) (3 : Int64) (fun r4 σ3 => 
      (r4 = 0 ∨ r4 = 1) ∧
      Q r4 σ3)) ∧
    (¬ v0 = (10 : Int32) → (v0 = (11 : Int32) → kw_X9_in σ v1.toInt64 (0 : Int64) (1 : Int64) (fun r2 σ1 => 
        (r2 = (0 : Int32) → Q (0 : Int32) σ1) ∧
        (¬ r2 = (0 : Int32) → Q (1 : Int32) σ1))) ∧
      (¬ v0 = (11 : Int32) → Q (0 : Int32) σ)))
set_option maxHeartbeats 4000000 in
set_option maxRecDepth 100000 in
theorem km_X9_isSetting (l : Launch) {G : ka_G} (hI : ka_I G) {σ : ka_S} {v0 : Int32} {v1 : Int32} {Q : Int32 → ka_S → Prop} (hq : kw_X9_isSetting σ v0 v1 Q) : kc_i l yX9_isSetting (kw_ yX9_isSetting cX9_isSetting 2 (some .boolean)) rm_X9_isSetting G [.int v0, .int v1] σ Q := by
  refine ka_of "GlossRowsModel" rfl (by decide) (Nat.le_of_ble_eq_true rfl) ?_
  intro p e s m below meth c C0 hK H locs hP hS ls hl
  obtain ⟨hx, hb, -, hml, hown, hts, -⟩ := id C0
  have hl : lv_has ls 2 [(0, .int v0), (1, .int v1)] := hl
  unfold kw_X9_isSetting at hq
  refine lv_iload_n hx hb dX9_isSetting_0 rfl (lv_at hl 0 rfl) ?_
  refine lv_bipush (v := 9) hx hb dX9_isSetting_1 (by decide) ?_
  refine lv_icmp_ne (tgt := 20) hx hb dX9_isSetting_3 (by decide) (fun hc => ?_) (fun hc => ?_)
  · have hq := hq.2 hc
    refine lv_iload_n hx hb dX9_isSetting_20 rfl (lv_at hl 0 rfl) ?_
    refine lv_bipush (v := 10) hx hb dX9_isSetting_21 (by decide) ?_
    refine lv_icmp_ne (tgt := 38) hx hb dX9_isSetting_23 (by decide) (fun hc => ?_) (fun hc => ?_)
    · have hq := hq.2 hc
      refine lv_iload_n hx hb dX9_isSetting_38 rfl (lv_at hl 0 rfl) ?_
      refine lv_bipush (v := 11) hx hb dX9_isSetting_39 (by decide) ?_
      refine lv_icmp_ne (tgt := 58) hx hb dX9_isSetting_41 (by decide) (fun hc => ?_) (fun hc => ?_)
      · have hq := hq.2 hc
        refine lv_iconst (v := 0) hx hb dX9_isSetting_58 (by decide) ?_
        exact kr_zret C0 hK hP hS rfl hq dX9_isSetting_59
      · have hq := hq.1 hc
        refine lv_iload_n hx hb dX9_isSetting_44 rfl (lv_at hl 1 rfl) ?_
        refine lv_i2l hx hb dX9_isSetting_45 rfl ?_
        refine lv_lconst (v := 0) hx hb dX9_isSetting_46 (by decide) ?_
        refine lv_lconst (v := 1) hx hb dX9_isSetting_47 (by decide) ?_
        refine kr_Si (As := [.long v1.toInt64, .long (0 : Int64), .long (1 : Int64)]) (rest := []) C0 hK hP hS hl (km_X9_in l hI hq) kd_X9_in kq_1031 ⟨rfl, rfl, Nat.le_of_ble_eq_true rfl, Nat.le_of_ble_eq_true rfl⟩ rfl (Nat.le_of_ble_eq_true rfl) dX9_isSetting_48 ⟨Nat.zero_le _, Nat.zero_le _⟩ (fun r2 σ1 H locs hq hP hS => ?_)
        refine lv_if_eq (tgt := 58) hx hb dX9_isSetting_51 (by decide) (fun hc => ?_) (fun hc => ?_)
        · have hq := hq.1 hc
          refine lv_iconst (v := 0) hx hb dX9_isSetting_58 (by decide) ?_
          exact kr_zret C0 hK hP hS rfl hq dX9_isSetting_59
        · have hq := hq.2 hc
          refine lv_iconst (v := 1) hx hb dX9_isSetting_54 (by decide) ?_
          refine lv_goto (tgt := 59) hx hb dX9_isSetting_55 (by decide) ?_
          exact kr_zret C0 hK hP hS rfl hq dX9_isSetting_59
    · have hq := hq.1 hc
      refine lv_iload_n hx hb dX9_isSetting_26 rfl (lv_at hl 1 rfl) ?_
      refine lv_i2l hx hb dX9_isSetting_27 rfl ?_
      refine lv_lconst (v := 1) hx hb dX9_isSetting_28 (by decide) ?_
      refine lv_ldc2 hx hb hown (hts _ kq_1157) dX9_isSetting_29 ?_
      refine kr_Si (As := [.long v1.toInt64, .long (1 : Int64), .long (3 : Int64)]) (rest := []) C0 hK hP hS hl (km_X9_in l hI hq) kd_X9_in kq_1031 ⟨rfl, rfl, Nat.le_of_ble_eq_true rfl, Nat.le_of_ble_eq_true rfl⟩ rfl (Nat.le_of_ble_eq_true rfl) dX9_isSetting_32 ⟨Nat.zero_le _, Nat.zero_le _⟩ (fun r4 σ3 H locs hq hP hS => ?_)
      refine lv_goto (tgt := 59) hx hb dX9_isSetting_35 (by decide) ?_
      obtain ⟨hz, hq⟩ := hq
      exact kr_zret C0 hK hP hS (kz_n hz) hq dX9_isSetting_59
  · have hq := hq.1 hc
    refine lv_iload_n hx hb dX9_isSetting_6 rfl (lv_at hl 1 rfl) ?_
    refine lv_i2l hx hb dX9_isSetting_7 rfl ?_
    refine lv_ldc2 hx hb hown (hts _ kq_1259) dX9_isSetting_8 ?_
    refine lv_ldc2 hx hb hown (hts _ kq_1260) dX9_isSetting_11 ?_
    refine kr_Si (As := [.long v1.toInt64, .long (10 : Int64), .long (60 : Int64)]) (rest := []) C0 hK hP hS hl (km_X9_in l hI hq) kd_X9_in kq_1031 ⟨rfl, rfl, Nat.le_of_ble_eq_true rfl, Nat.le_of_ble_eq_true rfl⟩ rfl (Nat.le_of_ble_eq_true rfl) dX9_isSetting_14 ⟨Nat.zero_le _, Nat.zero_le _⟩ (fun r6 σ5 H locs hq hP hS => ?_)
    refine lv_goto (tgt := 59) hx hb dX9_isSetting_17 (by decide) ?_
    obtain ⟨hz, hq⟩ := hq
    exact kr_zret C0 hK hP hS (kz_n hz) hq dX9_isSetting_59
/-! GlossRowsModel.set(II)I -/
def rm_X9_set : Room := { frames := 2, cells := 0, slots := 0, locals := 46 }
def kw_X9_set_14 (Q : Int32 → ka_S → Prop) (σ : ka_S) (v1 : Int32) (v2 : Int32) (t1 : Int32) : Prop := kw_X9_refused σ t1 (fun r4 σ3 => 
  (r4 = (0 : Int32) → kw_X9_note σ3 (fun σ5 => 
    vp_in (((2 : Int32) + v1) - (9 : Int32)) 253 ∧
    ∀ x7 : Int32, x7 = ((σ5.2 (37, 0, 0) (((2 : Int32) + v1) - (9 : Int32)).toNatClampNeg).toInt32) → 
    vp_in (((2 : Int32) + v1) - (9 : Int32)) 253 ∧
    ∀ σ9 : ka_S, σ9 = ka_wL σ5 (37, 0, 0) (((2 : Int32) + v1) - (9 : Int32)).toNatClampNeg v2.toInt64 →
    Q x7 σ9)) ∧
  (¬ r4 = (0 : Int32) → Q (0 : Int32) σ3))
def kw_X9_set (σ : ka_S) (v1 : Int32) (v2 : Int32) (Q : Int32 → ka_S → Prop) : Prop := kw_X9_isSetting σ v1 v2 (fun r2 σ1 => 
  (r2 = (0 : Int32) → kw_X9_set_14 Q σ1 v1 v2 (1 : Int32)) ∧
  (¬ r2 = (0 : Int32) → kw_X9_set_14 Q σ1 v1 v2 (0 : Int32)))
set_option maxHeartbeats 4000000 in
set_option maxRecDepth 100000 in
theorem kb_X9_set_14 {p : Program} {l : Launch} {e : Env} {s : State} {m : MethodId} {args : Array Value} {below : List Frame} {meth : Method} {c : Code} {G : ka_G} (hI : ka_I G) (C0 : ka_C p s m args meth c cX9_set 4 "GlossRowsModel" (some .int)) (hK : ka_Kn G s) {Q : Int32 → ka_S → Prop} : ∀ (σ : ka_S) (v1 : Int32) (v2 : Int32) (t1 : Int32), kw_X9_set_14 Q σ v1 v2 t1 → ∀ (H : Heap) (locs : List Loc), ka_P G σ H → va_S (ka_A G) s.heap H locs → ∀ ls : Array Slot, lv_has ls 4 [(0, .ref (ka_a G (25, 0, 0))), (1, .int v1), (2, .int v2)] → W p l e rm_X9_set s m args below meth c H locs 0 0 (MQ below (va_Qi Q (ka_B G) (ka_A G)) args s 0 0 (ka_A G)) (F0 m 14 ls [.int t1, .ref (ka_a G (25, 0, 0))]) := by
  obtain ⟨hx, hb, -, hml, hown, hts, -⟩ := id C0
  intro σ v1 v2 t1 hq H locs hP hS ls hl
  unfold kw_X9_set_14 at hq
  refine kr_Vi (k := (25, 0, 0)) (As := [.int t1]) (rest := []) C0 hK hP hS hl (km_X9_refused l hI hq) kd_X9_refused kq_1034 (kv_s (by decide) (by decide)) rfl rfl rfl ⟨rfl, rfl, Nat.le_of_ble_eq_true rfl, Nat.le_of_ble_eq_true rfl⟩ rfl (Nat.le_of_ble_eq_true rfl) dX9_set_14 ⟨Nat.zero_le _, Nat.zero_le _⟩ (fun r4 σ3 H locs hq hP hS => ?_)
  refine lv_if_eq (tgt := 22) hx hb dX9_set_17 (by decide) (fun hc => ?_) (fun hc => ?_)
  · have hq := hq.1 hc
    refine lv_aload_n hx hb dX9_set_22 rfl (lv_at hl 0 rfl) ?_
    refine kr_Vv (k := (25, 0, 0)) (As := []) (rest := []) C0 hK hP hS hl (km_X9_note l hI hq) kd_X9_note kq_1208 (kv_s (by decide) (by decide)) rfl rfl rfl ⟨rfl, rfl, Nat.le_of_ble_eq_true rfl, Nat.le_of_ble_eq_true rfl⟩ rfl (Nat.le_of_ble_eq_true rfl) dX9_set_23 ⟨Nat.zero_le _, Nat.zero_le _⟩ (fun σ5 H locs hq hP hS => ?_)
    refine lv_aload_n hx hb dX9_set_26 rfl (lv_at hl 0 rfl) ?_
    refine kg_X9_now C0 hK hP (kv_s (by decide) (by decide)) kq_960 dX9_set_27 ?_
    refine lv_iconst (v := 2) hx hb dX9_set_30 (by decide) ?_
    refine lv_iload_n hx hb dX9_set_31 rfl (lv_at hl 1 rfl) ?_
    refine lv_iadd hx hb dX9_set_32 ?_
    refine lv_bipush (v := 9) hx hb dX9_set_33 (by decide) ?_
    refine lv_isub hx hb dX9_set_35 ?_
    obtain ⟨b6, hq⟩ := hq
    refine kr_lald C0 hK hP (kv_s (by decide) (by decide)) rfl b6 dX9_set_36 ?_
    refine lv_l2i hx hb dX9_set_37 rfl ?_
    refine lv_topi (fun x7 ex7 => ?_)
    have hq := hq x7 ex7
    refine lv_istore_n (lv' := [(3, .int x7), (0, .ref (ka_a G (25, 0, 0))), (1, .int v1), (2, .int v2)]) hx hb dX9_set_38 rfl hl (by decide) rfl (fun ls hl => ?_)
    refine lv_aload_n hx hb dX9_set_39 rfl (lv_at hl 1 rfl) ?_
    refine kg_X9_now C0 hK hP (kv_s (by decide) (by decide)) kq_960 dX9_set_40 ?_
    refine lv_iconst (v := 2) hx hb dX9_set_43 (by decide) ?_
    refine lv_iload_n hx hb dX9_set_44 rfl (lv_at hl 2 rfl) ?_
    refine lv_iadd hx hb dX9_set_45 ?_
    refine lv_bipush (v := 9) hx hb dX9_set_46 (by decide) ?_
    refine lv_isub hx hb dX9_set_48 ?_
    refine lv_iload_n hx hb dX9_set_49 rfl (lv_at hl 3 rfl) ?_
    refine lv_i2l hx hb dX9_set_50 rfl ?_
    obtain ⟨b8, hq⟩ := hq
    refine kr_last C0 hK hI hP hS (kv_s (by decide) (by decide)) (fun _ => rfl) b8 dX9_set_51 (fun H locs hP hS => ?_)
    obtain ⟨σ9, eσ9⟩ : ∃ z : ka_S, z = ka_wL σ5 (37, 0, 0) (((2 : Int32) + v1) - (9 : Int32)).toNatClampNeg v2.toInt64 := ⟨_, rfl⟩
    rw [← eσ9] at hP
    have hq := hq σ9 eσ9
    refine lv_iload_n hx hb dX9_set_52 rfl (lv_at hl 0 rfl) ?_
    exact kr_iret C0 hK hP hS hq dX9_set_53
  · have hq := hq.2 hc
    refine lv_iconst (v := 0) hx hb dX9_set_20 (by decide) ?_
    exact kr_iret C0 hK hP hS hq dX9_set_21
set_option maxHeartbeats 4000000 in
set_option maxRecDepth 100000 in
theorem km_X9_set (l : Launch) {G : ka_G} (hI : ka_I G) {σ : ka_S} {v1 : Int32} {v2 : Int32} {Q : Int32 → ka_S → Prop} (hq : kw_X9_set σ v1 v2 Q) : kc_i l yX9_set (kw_ yX9_set cX9_set 4 (some .int)) rm_X9_set G [.ref (ka_a G (25, 0, 0)), .int v1, .int v2] σ Q := by
  refine ka_of "GlossRowsModel" rfl (by decide) (Nat.le_of_ble_eq_true rfl) ?_
  intro p e s m below meth c C0 hK H locs hP hS ls hl
  obtain ⟨hx, hb, -, hml, hown, hts, -⟩ := id C0
  have hl : lv_has ls 4 [(0, .ref (ka_a G (25, 0, 0))), (1, .int v1), (2, .int v2)] := hl
  unfold kw_X9_set at hq
  refine lv_aload_n hx hb dX9_set_0 rfl (lv_at hl 0 rfl) ?_
  refine lv_iload_n hx hb dX9_set_1 rfl (lv_at hl 1 rfl) ?_
  refine lv_iload_n hx hb dX9_set_2 rfl (lv_at hl 2 rfl) ?_
  refine kr_Si (As := [.int v1, .int v2]) (rest := [.ref (ka_a G (25, 0, 0))]) C0 hK hP hS hl (km_X9_isSetting l hI hq) kd_X9_isSetting kq_1256 ⟨rfl, rfl, Nat.le_of_ble_eq_true rfl, Nat.le_of_ble_eq_true rfl⟩ rfl (Nat.le_of_ble_eq_true rfl) dX9_set_3 ⟨Nat.zero_le _, Nat.zero_le _⟩ (fun r2 σ1 H locs hq hP hS => ?_)
  refine lv_if_eq (tgt := 13) hx hb dX9_set_6 (by decide) (fun hc => ?_) (fun hc => ?_)
  · have hq := hq.1 hc
    refine lv_iconst (v := 1) hx hb dX9_set_13 (by decide) ?_
    exact kb_X9_set_14 hI C0 hK σ1 v1 v2 (1 : Int32) hq H locs hP hS ls (lv_sub hl [0, 1, 2] rfl)
  · have hq := hq.2 hc
    refine lv_iconst (v := 0) hx hb dX9_set_9 (by decide) ?_
    refine lv_goto (tgt := 14) hx hb dX9_set_10 (by decide) ?_
    exact kb_X9_set_14 hI C0 hK σ1 v1 v2 (0 : Int32) hq H locs hP hS ls (lv_sub hl [0, 1, 2] rfl)
/-! GlossRowsModel.learn(II)I -/
def rm_X9_learn : Room := { frames := 4, cells := 0, slots := 0, locals := 90 }
def kw_X9_learn_31 (Q : Int32 → ka_S → Prop) (σ : ka_S) (v1 : Int32) (v2 : Int32) (t1 : Int32) : Prop := kw_X9_refused σ t1 (fun r6 σ5 => 
  (r6 = (0 : Int32) → kw_X9_note σ5 (fun σ7 => 
    kw_X9_learnOn σ7 (37, 0, 0) v1 v2 (fun σ8 => 
    vp_in (1 : Int32) 253 ∧
    Q ((σ8.2 (37, 0, 0) (1 : Int32).toNatClampNeg).toInt32) σ8))) ∧
  (¬ r6 = (0 : Int32) → Q (0 : Int32) σ5))
def kw_X9_learn (σ : ka_S) (v1 : Int32) (v2 : Int32) (Q : Int32 → ka_S → Prop) : Prop := kw_X9_isPart σ v1 v2 (fun r2 σ1 => 
  (r2 = (0 : Int32) → kw_X9_learn_31 Q σ1 v1 v2 (1 : Int32)) ∧
  (¬ r2 = (0 : Int32) → kw_X9_canLearn σ1 (37, 0, 0) v1 v2 (fun r4 σ3 => 
    (r4 = (0 : Int32) → kw_X9_learn_31 Q σ3 v1 v2 (2 : Int32)) ∧
    (¬ r4 = (0 : Int32) → kw_X9_learn_31 Q σ3 v1 v2 (0 : Int32)))))
set_option maxHeartbeats 4000000 in
set_option maxRecDepth 100000 in
theorem kb_X9_learn_31 {p : Program} {l : Launch} {e : Env} {s : State} {m : MethodId} {args : Array Value} {below : List Frame} {meth : Method} {c : Code} {G : ka_G} (hI : ka_I G) (C0 : ka_C p s m args meth c cX9_learn 3 "GlossRowsModel" (some .int)) (hK : ka_Kn G s) {Q : Int32 → ka_S → Prop} : ∀ (σ : ka_S) (v1 : Int32) (v2 : Int32) (t1 : Int32), kw_X9_learn_31 Q σ v1 v2 t1 → ∀ (H : Heap) (locs : List Loc), ka_P G σ H → va_S (ka_A G) s.heap H locs → ∀ ls : Array Slot, lv_has ls 3 [(0, .ref (ka_a G (25, 0, 0))), (1, .int v1), (2, .int v2)] → W p l e rm_X9_learn s m args below meth c H locs 0 0 (MQ below (va_Qi Q (ka_B G) (ka_A G)) args s 0 0 (ka_A G)) (F0 m 31 ls [.int t1, .ref (ka_a G (25, 0, 0))]) := by
  obtain ⟨hx, hb, -, hml, hown, hts, -⟩ := id C0
  intro σ v1 v2 t1 hq H locs hP hS ls hl
  unfold kw_X9_learn_31 at hq
  refine kr_Vi (k := (25, 0, 0)) (As := [.int t1]) (rest := []) C0 hK hP hS hl (km_X9_refused l hI hq) kd_X9_refused kq_1034 (kv_s (by decide) (by decide)) rfl rfl rfl ⟨rfl, rfl, Nat.le_of_ble_eq_true rfl, Nat.le_of_ble_eq_true rfl⟩ rfl (Nat.le_of_ble_eq_true rfl) dX9_learn_31 ⟨Nat.zero_le _, Nat.zero_le _⟩ (fun r6 σ5 H locs hq hP hS => ?_)
  refine lv_if_eq (tgt := 39) hx hb dX9_learn_34 (by decide) (fun hc => ?_) (fun hc => ?_)
  · have hq := hq.1 hc
    refine lv_aload_n hx hb dX9_learn_39 rfl (lv_at hl 0 rfl) ?_
    refine kr_Vv (k := (25, 0, 0)) (As := []) (rest := []) C0 hK hP hS hl (km_X9_note l hI hq) kd_X9_note kq_1208 (kv_s (by decide) (by decide)) rfl rfl rfl ⟨rfl, rfl, Nat.le_of_ble_eq_true rfl, Nat.le_of_ble_eq_true rfl⟩ rfl (Nat.le_of_ble_eq_true rfl) dX9_learn_40 ⟨Nat.zero_le _, Nat.zero_le _⟩ (fun σ7 H locs hq hP hS => ?_)
    refine lv_aload_n hx hb dX9_learn_43 rfl (lv_at hl 0 rfl) ?_
    refine kg_X9_now C0 hK hP (kv_s (by decide) (by decide)) kq_960 dX9_learn_44 ?_
    refine lv_iload_n hx hb dX9_learn_47 rfl (lv_at hl 1 rfl) ?_
    refine lv_iload_n hx hb dX9_learn_48 rfl (lv_at hl 2 rfl) ?_
    refine kr_Sv (As := [.ref (ka_a G (37, 0, 0)), .int v1, .int v2]) (rest := []) C0 hK hP hS hl (km_X9_learnOn l hI kl_37 hq) kd_X9_learnOn kq_1269 ⟨rfl, rfl, Nat.le_of_ble_eq_true rfl, Nat.le_of_ble_eq_true rfl⟩ rfl (Nat.le_of_ble_eq_true rfl) dX9_learn_49 ⟨Nat.zero_le _, Nat.zero_le _⟩ (fun σ8 H locs hq hP hS => ?_)
    refine lv_aload_n hx hb dX9_learn_52 rfl (lv_at hl 0 rfl) ?_
    refine kg_X9_now C0 hK hP (kv_s (by decide) (by decide)) kq_960 dX9_learn_53 ?_
    refine lv_iconst (v := 1) hx hb dX9_learn_56 (by decide) ?_
    obtain ⟨b9, hq⟩ := hq
    refine kr_lald C0 hK hP (kv_s (by decide) (by decide)) rfl b9 dX9_learn_57 ?_
    refine lv_l2i hx hb dX9_learn_58 rfl ?_
    exact kr_iret C0 hK hP hS hq dX9_learn_59
  · have hq := hq.2 hc
    refine lv_iconst (v := 0) hx hb dX9_learn_37 (by decide) ?_
    exact kr_iret C0 hK hP hS hq dX9_learn_38
set_option maxHeartbeats 4000000 in
set_option maxRecDepth 100000 in
theorem km_X9_learn (l : Launch) {G : ka_G} (hI : ka_I G) {σ : ka_S} {v1 : Int32} {v2 : Int32} {Q : Int32 → ka_S → Prop} (hq : kw_X9_learn σ v1 v2 Q) : kc_i l yX9_learn (kw_ yX9_learn cX9_learn 3 (some .int)) rm_X9_learn G [.ref (ka_a G (25, 0, 0)), .int v1, .int v2] σ Q := by
  refine ka_of "GlossRowsModel" rfl (by decide) (Nat.le_of_ble_eq_true rfl) ?_
  intro p e s m below meth c C0 hK H locs hP hS ls hl
  obtain ⟨hx, hb, -, hml, hown, hts, -⟩ := id C0
  have hl : lv_has ls 3 [(0, .ref (ka_a G (25, 0, 0))), (1, .int v1), (2, .int v2)] := hl
  unfold kw_X9_learn at hq
  refine lv_aload_n hx hb dX9_learn_0 rfl (lv_at hl 0 rfl) ?_
  refine lv_aload_n hx hb dX9_learn_1 rfl (lv_at hl 0 rfl) ?_
  refine lv_iload_n hx hb dX9_learn_2 rfl (lv_at hl 1 rfl) ?_
  refine lv_iload_n hx hb dX9_learn_3 rfl (lv_at hl 2 rfl) ?_
  refine kr_Vi (k := (25, 0, 0)) (As := [.int v1, .int v2]) (rest := [.ref (ka_a G (25, 0, 0))]) C0 hK hP hS hl (km_X9_isPart l hI hq) kd_X9_isPart kq_1150 (kv_s (by decide) (by decide)) rfl rfl rfl ⟨rfl, rfl, Nat.le_of_ble_eq_true rfl, Nat.le_of_ble_eq_true rfl⟩ rfl (Nat.le_of_ble_eq_true rfl) dX9_learn_4 ⟨Nat.zero_le _, Nat.zero_le _⟩ (fun r2 σ1 H locs hq hP hS => ?_)
  refine lv_if_ne (tgt := 14) hx hb dX9_learn_7 (by decide) (fun hc => ?_) (fun hc => ?_)
  · have hq := hq.2 hc
    refine lv_aload_n hx hb dX9_learn_14 rfl (lv_at hl 0 rfl) ?_
    refine kg_X9_now C0 hK hP (kv_s (by decide) (by decide)) kq_960 dX9_learn_15 ?_
    refine lv_iload_n hx hb dX9_learn_18 rfl (lv_at hl 1 rfl) ?_
    refine lv_iload_n hx hb dX9_learn_19 rfl (lv_at hl 2 rfl) ?_
    refine kr_Si (As := [.ref (ka_a G (37, 0, 0)), .int v1, .int v2]) (rest := [.ref (ka_a G (25, 0, 0))]) C0 hK hP hS hl (km_X9_canLearn l hI kl_37 hq) kd_X9_canLearn kq_1265 ⟨rfl, rfl, Nat.le_of_ble_eq_true rfl, Nat.le_of_ble_eq_true rfl⟩ rfl (Nat.le_of_ble_eq_true rfl) dX9_learn_20 ⟨Nat.zero_le _, Nat.zero_le _⟩ (fun r4 σ3 H locs hq hP hS => ?_)
    refine lv_if_eq (tgt := 30) hx hb dX9_learn_23 (by decide) (fun hc => ?_) (fun hc => ?_)
    · have hq := hq.1 hc
      refine lv_iconst (v := 2) hx hb dX9_learn_30 (by decide) ?_
      exact kb_X9_learn_31 hI C0 hK σ3 v1 v2 (2 : Int32) hq H locs hP hS ls (lv_sub hl [0, 1, 2] rfl)
    · have hq := hq.2 hc
      refine lv_iconst (v := 0) hx hb dX9_learn_26 (by decide) ?_
      refine lv_goto (tgt := 31) hx hb dX9_learn_27 (by decide) ?_
      exact kb_X9_learn_31 hI C0 hK σ3 v1 v2 (0 : Int32) hq H locs hP hS ls (lv_sub hl [0, 1, 2] rfl)
  · have hq := hq.1 hc
    refine lv_iconst (v := 1) hx hb dX9_learn_10 (by decide) ?_
    refine lv_goto (tgt := 31) hx hb dX9_learn_11 (by decide) ?_
    exact kb_X9_learn_31 hI C0 hK σ1 v1 v2 (1 : Int32) hq H locs hP hS ls (lv_sub hl [0, 1, 2] rfl)
/-! GlossRowsModel.forget(I)I -/
def rm_X9_forget : Room := { frames := 2, cells := 0, slots := 0, locals := 46 }
def kw_X9_forget_14 (Q : Int32 → ka_S → Prop) (σ : ka_S) (v1 : Int32) (t1 : Int32) : Prop := kw_X9_refused σ t1 (fun r4 σ3 => 
  (r4 = (0 : Int32) → kw_X9_note σ3 (fun σ5 => 
    vp_in (1 : Int32) 253 ∧
    kw_X9_copy σ5 (37, 0, 0) (37, 0, 0) (((221 : Int32) + ((2 : Int32) * v1)) + (2 : Int32)) ((221 : Int32) + ((2 : Int32) * v1)) ((2 : Int32) * ((((σ5.2 (37, 0, 0) (1 : Int32).toNatClampNeg).toInt32) - (1 : Int32)) - v1)) (fun σ7 => 
    vp_in (1 : Int32) 253 ∧
    vp_in (1 : Int32) 253 ∧
    ∀ σ10 : ka_S, σ10 = ka_wL σ7 (37, 0, 0) (1 : Int32).toNatClampNeg ((σ7.2 (37, 0, 0) (1 : Int32).toNatClampNeg) - (1 : Int64)) →
    vp_in (1 : Int32) 253 ∧
    Q ((σ10.2 (37, 0, 0) (1 : Int32).toNatClampNeg).toInt32) σ10))) ∧
  (¬ r4 = (0 : Int32) → Q (0 : Int32) σ3))
def kw_X9_forget (σ : ka_S) (v1 : Int32) (Q : Int32 → ka_S → Prop) : Prop := kw_X9_isEntry σ v1 (fun r2 σ1 => 
  (r2 = (0 : Int32) → kw_X9_forget_14 Q σ1 v1 (1 : Int32)) ∧
  (¬ r2 = (0 : Int32) → kw_X9_forget_14 Q σ1 v1 (0 : Int32)))
set_option maxHeartbeats 4000000 in
set_option maxRecDepth 100000 in
theorem kb_X9_forget_14 {p : Program} {l : Launch} {e : Env} {s : State} {m : MethodId} {args : Array Value} {below : List Frame} {meth : Method} {c : Code} {G : ka_G} (hI : ka_I G) (C0 : ka_C p s m args meth c cX9_forget 2 "GlossRowsModel" (some .int)) (hK : ka_Kn G s) {Q : Int32 → ka_S → Prop} : ∀ (σ : ka_S) (v1 : Int32) (t1 : Int32), kw_X9_forget_14 Q σ v1 t1 → ∀ (H : Heap) (locs : List Loc), ka_P G σ H → va_S (ka_A G) s.heap H locs → ∀ ls : Array Slot, lv_has ls 2 [(0, .ref (ka_a G (25, 0, 0))), (1, .int v1)] → W p l e rm_X9_forget s m args below meth c H locs 0 0 (MQ below (va_Qi Q (ka_B G) (ka_A G)) args s 0 0 (ka_A G)) (F0 m 14 ls [.int t1, .ref (ka_a G (25, 0, 0))]) := by
  obtain ⟨hx, hb, -, hml, hown, hts, -⟩ := id C0
  intro σ v1 t1 hq H locs hP hS ls hl
  unfold kw_X9_forget_14 at hq
  refine kr_Vi (k := (25, 0, 0)) (As := [.int t1]) (rest := []) C0 hK hP hS hl (km_X9_refused l hI hq) kd_X9_refused kq_1034 (kv_s (by decide) (by decide)) rfl rfl rfl ⟨rfl, rfl, Nat.le_of_ble_eq_true rfl, Nat.le_of_ble_eq_true rfl⟩ rfl (Nat.le_of_ble_eq_true rfl) dX9_forget_14 ⟨Nat.zero_le _, Nat.zero_le _⟩ (fun r4 σ3 H locs hq hP hS => ?_)
  refine lv_if_eq (tgt := 22) hx hb dX9_forget_17 (by decide) (fun hc => ?_) (fun hc => ?_)
  · have hq := hq.1 hc
    refine lv_aload_n hx hb dX9_forget_22 rfl (lv_at hl 0 rfl) ?_
    refine kr_Vv (k := (25, 0, 0)) (As := []) (rest := []) C0 hK hP hS hl (km_X9_note l hI hq) kd_X9_note kq_1208 (kv_s (by decide) (by decide)) rfl rfl rfl ⟨rfl, rfl, Nat.le_of_ble_eq_true rfl, Nat.le_of_ble_eq_true rfl⟩ rfl (Nat.le_of_ble_eq_true rfl) dX9_forget_23 ⟨Nat.zero_le _, Nat.zero_le _⟩ (fun σ5 H locs hq hP hS => ?_)
    refine lv_aload_n hx hb dX9_forget_26 rfl (lv_at hl 0 rfl) ?_
    refine kg_X9_now C0 hK hP (kv_s (by decide) (by decide)) kq_960 dX9_forget_27 ?_
    refine lv_sipush (v := 221) hx hb dX9_forget_30 (by decide) ?_
    refine lv_iconst (v := 2) hx hb dX9_forget_33 (by decide) ?_
    refine lv_iload_n hx hb dX9_forget_34 rfl (lv_at hl 1 rfl) ?_
    refine lv_imul hx hb dX9_forget_35 ?_
    refine lv_iadd hx hb dX9_forget_36 ?_
    refine lv_iconst (v := 2) hx hb dX9_forget_37 (by decide) ?_
    refine lv_iadd hx hb dX9_forget_38 ?_
    refine lv_aload_n hx hb dX9_forget_39 rfl (lv_at hl 0 rfl) ?_
    refine kg_X9_now C0 hK hP (kv_s (by decide) (by decide)) kq_960 dX9_forget_40 ?_
    refine lv_sipush (v := 221) hx hb dX9_forget_43 (by decide) ?_
    refine lv_iconst (v := 2) hx hb dX9_forget_46 (by decide) ?_
    refine lv_iload_n hx hb dX9_forget_47 rfl (lv_at hl 1 rfl) ?_
    refine lv_imul hx hb dX9_forget_48 ?_
    refine lv_iadd hx hb dX9_forget_49 ?_
    refine lv_iconst (v := 2) hx hb dX9_forget_50 (by decide) ?_
    refine lv_aload_n hx hb dX9_forget_51 rfl (lv_at hl 0 rfl) ?_
    refine kg_X9_now C0 hK hP (kv_s (by decide) (by decide)) kq_960 dX9_forget_52 ?_
    refine lv_iconst (v := 1) hx hb dX9_forget_55 (by decide) ?_
    obtain ⟨b6, hq⟩ := hq
    refine kr_lald C0 hK hP (kv_s (by decide) (by decide)) rfl b6 dX9_forget_56 ?_
    refine lv_l2i hx hb dX9_forget_57 rfl ?_
    refine lv_iconst (v := 1) hx hb dX9_forget_58 (by decide) ?_
    refine lv_isub hx hb dX9_forget_59 ?_
    refine lv_iload_n hx hb dX9_forget_60 rfl (lv_at hl 1 rfl) ?_
    refine lv_isub hx hb dX9_forget_61 ?_
    refine lv_imul hx hb dX9_forget_62 ?_
    refine kr_Sv (As := [.ref (ka_a G (37, 0, 0)), .int (((221 : Int32) + ((2 : Int32) * v1)) + (2 : Int32)), .ref (ka_a G (37, 0, 0)), .int ((221 : Int32) + ((2 : Int32) * v1)), .int ((2 : Int32) * ((((σ5.2 (37, 0, 0) (1 : Int32).toNatClampNeg).toInt32) - (1 : Int32)) - v1))]) (rest := []) C0 hK hP hS hl (km_X9_copy l hI kl_37 kl_37 hq) kd_X9_copy kq_1080 ⟨rfl, rfl, Nat.le_of_ble_eq_true rfl, Nat.le_of_ble_eq_true rfl⟩ rfl (Nat.le_of_ble_eq_true rfl) dX9_forget_63 ⟨Nat.zero_le _, Nat.zero_le _⟩ (fun σ7 H locs hq hP hS => ?_)
    refine lv_aload_n hx hb dX9_forget_66 rfl (lv_at hl 0 rfl) ?_
    refine kg_X9_now C0 hK hP (kv_s (by decide) (by decide)) kq_960 dX9_forget_67 ?_
    refine lv_iconst (v := 1) hx hb dX9_forget_70 (by decide) ?_
    refine lv_dup2_11 hx hb dX9_forget_71 rfl rfl ?_
    obtain ⟨b8, hq⟩ := hq
    refine kr_lald C0 hK hP (kv_s (by decide) (by decide)) rfl b8 dX9_forget_72 ?_
    refine lv_lconst (v := 1) hx hb dX9_forget_73 (by decide) ?_
    refine lv_lsub hx hb dX9_forget_74 ?_
    obtain ⟨b9, hq⟩ := hq
    refine kr_last C0 hK hI hP hS (kv_s (by decide) (by decide)) (fun _ => rfl) b9 dX9_forget_75 (fun H locs hP hS => ?_)
    obtain ⟨σ10, eσ10⟩ : ∃ z : ka_S, z = ka_wL σ7 (37, 0, 0) (1 : Int32).toNatClampNeg ((σ7.2 (37, 0, 0) (1 : Int32).toNatClampNeg) - (1 : Int64)) := ⟨_, rfl⟩
    rw [← eσ10] at hP
    have hq := hq σ10 eσ10
    refine lv_aload_n hx hb dX9_forget_76 rfl (lv_at hl 0 rfl) ?_
    refine kg_X9_now C0 hK hP (kv_s (by decide) (by decide)) kq_960 dX9_forget_77 ?_
    refine lv_iconst (v := 1) hx hb dX9_forget_80 (by decide) ?_
    obtain ⟨b11, hq⟩ := hq
    refine kr_lald C0 hK hP (kv_s (by decide) (by decide)) rfl b11 dX9_forget_81 ?_
    refine lv_l2i hx hb dX9_forget_82 rfl ?_
    exact kr_iret C0 hK hP hS hq dX9_forget_83
  · have hq := hq.2 hc
    refine lv_iconst (v := 0) hx hb dX9_forget_20 (by decide) ?_
    exact kr_iret C0 hK hP hS hq dX9_forget_21
set_option maxHeartbeats 4000000 in
set_option maxRecDepth 100000 in
theorem km_X9_forget (l : Launch) {G : ka_G} (hI : ka_I G) {σ : ka_S} {v1 : Int32} {Q : Int32 → ka_S → Prop} (hq : kw_X9_forget σ v1 Q) : kc_i l yX9_forget (kw_ yX9_forget cX9_forget 2 (some .int)) rm_X9_forget G [.ref (ka_a G (25, 0, 0)), .int v1] σ Q := by
  refine ka_of "GlossRowsModel" rfl (by decide) (Nat.le_of_ble_eq_true rfl) ?_
  intro p e s m below meth c C0 hK H locs hP hS ls hl
  obtain ⟨hx, hb, -, hml, hown, hts, -⟩ := id C0
  have hl : lv_has ls 2 [(0, .ref (ka_a G (25, 0, 0))), (1, .int v1)] := hl
  unfold kw_X9_forget at hq
  refine lv_aload_n hx hb dX9_forget_0 rfl (lv_at hl 0 rfl) ?_
  refine lv_aload_n hx hb dX9_forget_1 rfl (lv_at hl 0 rfl) ?_
  refine lv_iload_n hx hb dX9_forget_2 rfl (lv_at hl 1 rfl) ?_
  refine kr_Vi (k := (25, 0, 0)) (As := [.int v1]) (rest := [.ref (ka_a G (25, 0, 0))]) C0 hK hP hS hl (km_X9_isEntry l hI hq) kd_X9_isEntry kq_1172 (kv_s (by decide) (by decide)) rfl rfl rfl ⟨rfl, rfl, Nat.le_of_ble_eq_true rfl, Nat.le_of_ble_eq_true rfl⟩ rfl (Nat.le_of_ble_eq_true rfl) dX9_forget_3 ⟨Nat.zero_le _, Nat.zero_le _⟩ (fun r2 σ1 H locs hq hP hS => ?_)
  refine lv_if_eq (tgt := 13) hx hb dX9_forget_6 (by decide) (fun hc => ?_) (fun hc => ?_)
  · have hq := hq.1 hc
    refine lv_iconst (v := 1) hx hb dX9_forget_13 (by decide) ?_
    exact kb_X9_forget_14 hI C0 hK σ1 v1 (1 : Int32) hq H locs hP hS ls (lv_sub hl [0, 1] rfl)
  · have hq := hq.2 hc
    refine lv_iconst (v := 0) hx hb dX9_forget_9 (by decide) ?_
    refine lv_goto (tgt := 14) hx hb dX9_forget_10 (by decide) ?_
    exact kb_X9_forget_14 hI C0 hK σ1 v1 (0 : Int32) hq H locs hP hS ls (lv_sub hl [0, 1] rfl)
/-! GlossRowsModel.fillGaps()I -/
def rm_X9_fillGaps : Room := { frames := 3, cells := 0, slots := 0, locals := 66 }
def kw_X9_fillGaps (σ : ka_S) (Q : Int32 → ka_S → Prop) : Prop := ∀ σ1 : ka_S, σ1 = ka_wI σ (25, 0, 0) 0 (0 : Int32) →
  kw_X9_note σ1 (fun σ2 => 
  kw_X9_fillOn σ2 (37, 0, 0) (fun r4 σ3 => 
  Q r4 σ3))
set_option maxHeartbeats 4000000 in
set_option maxRecDepth 100000 in
theorem km_X9_fillGaps (l : Launch) {G : ka_G} (hI : ka_I G) {σ : ka_S} {Q : Int32 → ka_S → Prop} (hq : kw_X9_fillGaps σ Q) : kc_i l yX9_fillGaps (kw_ yX9_fillGaps cX9_fillGaps 1 (some .int)) rm_X9_fillGaps G [.ref (ka_a G (25, 0, 0))] σ Q := by
  refine ka_of "GlossRowsModel" rfl (by decide) (Nat.le_of_ble_eq_true rfl) ?_
  intro p e s m below meth c C0 hK H locs hP hS ls hl
  obtain ⟨hx, hb, -, hml, hown, hts, -⟩ := id C0
  have hl : lv_has ls 1 [(0, .ref (ka_a G (25, 0, 0)))] := hl
  unfold kw_X9_fillGaps at hq
  refine lv_aload_n hx hb dX9_fillGaps_0 rfl (lv_at hl 0 rfl) ?_
  refine lv_iconst (v := 0) hx hb dX9_fillGaps_1 (by decide) ?_
  refine kp_X9_refusal C0 hK hI hP hS (kv_s (by decide) (by decide)) kq_955 dX9_fillGaps_2 (fun H locs hP hS => ?_)
  obtain ⟨σ1, eσ1⟩ : ∃ z : ka_S, z = ka_wI σ (25, 0, 0) 0 (0 : Int32) := ⟨_, rfl⟩
  rw [← eσ1] at hP
  have hq := hq σ1 eσ1
  refine lv_aload_n hx hb dX9_fillGaps_5 rfl (lv_at hl 0 rfl) ?_
  refine kr_Vv (k := (25, 0, 0)) (As := []) (rest := []) C0 hK hP hS hl (km_X9_note l hI hq) kd_X9_note kq_1208 (kv_s (by decide) (by decide)) rfl rfl rfl ⟨rfl, rfl, Nat.le_of_ble_eq_true rfl, Nat.le_of_ble_eq_true rfl⟩ rfl (Nat.le_of_ble_eq_true rfl) dX9_fillGaps_6 ⟨Nat.zero_le _, Nat.zero_le _⟩ (fun σ2 H locs hq hP hS => ?_)
  refine lv_aload_n hx hb dX9_fillGaps_9 rfl (lv_at hl 0 rfl) ?_
  refine kg_X9_now C0 hK hP (kv_s (by decide) (by decide)) kq_960 dX9_fillGaps_10 ?_
  refine kr_Si (As := [.ref (ka_a G (37, 0, 0))]) (rest := []) C0 hK hP hS hl (km_X9_fillOn l hI kl_37 hq) kd_X9_fillOn kq_1280 ⟨rfl, rfl, Nat.le_of_ble_eq_true rfl, Nat.le_of_ble_eq_true rfl⟩ rfl (Nat.le_of_ble_eq_true rfl) dX9_fillGaps_13 ⟨Nat.zero_le _, Nat.zero_le _⟩ (fun r4 σ3 H locs hq hP hS => ?_)
  exact kr_iret C0 hK hP hS hq dX9_fillGaps_16
/-! GlossRowsModel.undo()I -/
def rm_X9_undo : Room := { frames := 1, cells := 0, slots := 0, locals := 25 }
def kw_X9_undo_13 (Q : Int32 → ka_S → Prop) (σ : ka_S) (t1 : Int32) : Prop := kw_X9_refused σ t1 (fun r2 σ1 => 
  (r2 = (0 : Int32) → ∀ σ3 : ka_S, σ3 = ka_wI σ1 (25, 0, 0) 8 ((σ1.1 (25, 0, 0) 8) - (1 : Int32)) →
    kw_X9_copy σ3 (39, 0, 0) (37, 0, 0) ((253 : Int32) * (σ3.1 (25, 0, 0) 8)) (0 : Int32) (253 : Int32) (fun σ4 => 
    Q (σ4.1 (25, 0, 0) 8) σ4)) ∧
  (¬ r2 = (0 : Int32) → Q (0 : Int32) σ1))
def kw_X9_undo (σ : ka_S) (Q : Int32 → ka_S → Prop) : Prop := ((σ.1 (25, 0, 0) 8) = (0 : Int32) → kw_X9_undo_13 Q σ (1 : Int32)) ∧
  (¬ (σ.1 (25, 0, 0) 8) = (0 : Int32) → kw_X9_undo_13 Q σ (0 : Int32))
set_option maxHeartbeats 4000000 in
set_option maxRecDepth 100000 in
theorem kb_X9_undo_13 {p : Program} {l : Launch} {e : Env} {s : State} {m : MethodId} {args : Array Value} {below : List Frame} {meth : Method} {c : Code} {G : ka_G} (hI : ka_I G) (C0 : ka_C p s m args meth c cX9_undo 1 "GlossRowsModel" (some .int)) (hK : ka_Kn G s) {Q : Int32 → ka_S → Prop} : ∀ (σ : ka_S) (t1 : Int32), kw_X9_undo_13 Q σ t1 → ∀ (H : Heap) (locs : List Loc), ka_P G σ H → va_S (ka_A G) s.heap H locs → ∀ ls : Array Slot, lv_has ls 1 [(0, .ref (ka_a G (25, 0, 0)))] → W p l e rm_X9_undo s m args below meth c H locs 0 0 (MQ below (va_Qi Q (ka_B G) (ka_A G)) args s 0 0 (ka_A G)) (F0 m 13 ls [.int t1, .ref (ka_a G (25, 0, 0))]) := by
  obtain ⟨hx, hb, -, hml, hown, hts, -⟩ := id C0
  intro σ t1 hq H locs hP hS ls hl
  unfold kw_X9_undo_13 at hq
  refine kr_Vi (k := (25, 0, 0)) (As := [.int t1]) (rest := []) C0 hK hP hS hl (km_X9_refused l hI hq) kd_X9_refused kq_1034 (kv_s (by decide) (by decide)) rfl rfl rfl ⟨rfl, rfl, Nat.le_of_ble_eq_true rfl, Nat.le_of_ble_eq_true rfl⟩ rfl (Nat.le_of_ble_eq_true rfl) dX9_undo_13 ⟨Nat.zero_le _, Nat.zero_le _⟩ (fun r2 σ1 H locs hq hP hS => ?_)
  refine lv_if_eq (tgt := 21) hx hb dX9_undo_16 (by decide) (fun hc => ?_) (fun hc => ?_)
  · have hq := hq.1 hc
    refine lv_aload_n hx hb dX9_undo_21 rfl (lv_at hl 0 rfl) ?_
    refine lv_dup hx hb dX9_undo_22 rfl ?_
    refine kg_X9_acts C0 hK hP (kv_s (by decide) (by decide)) kq_963 dX9_undo_23 ?_
    refine lv_iconst (v := 1) hx hb dX9_undo_26 (by decide) ?_
    refine lv_isub hx hb dX9_undo_27 ?_
    refine kp_X9_acts C0 hK hI hP hS (kv_s (by decide) (by decide)) kq_963 dX9_undo_28 (fun H locs hP hS => ?_)
    obtain ⟨σ3, eσ3⟩ : ∃ z : ka_S, z = ka_wI σ1 (25, 0, 0) 8 ((σ1.1 (25, 0, 0) 8) - (1 : Int32)) := ⟨_, rfl⟩
    rw [← eσ3] at hP
    have hq := hq σ3 eσ3
    refine lv_aload_n hx hb dX9_undo_31 rfl (lv_at hl 0 rfl) ?_
    refine kg_X9_diary C0 hK hP (kv_s (by decide) (by decide)) kq_962 dX9_undo_32 ?_
    refine lv_sipush (v := 253) hx hb dX9_undo_35 (by decide) ?_
    refine lv_aload_n hx hb dX9_undo_38 rfl (lv_at hl 0 rfl) ?_
    refine kg_X9_acts C0 hK hP (kv_s (by decide) (by decide)) kq_963 dX9_undo_39 ?_
    refine lv_imul hx hb dX9_undo_42 ?_
    refine lv_aload_n hx hb dX9_undo_43 rfl (lv_at hl 0 rfl) ?_
    refine kg_X9_now C0 hK hP (kv_s (by decide) (by decide)) kq_960 dX9_undo_44 ?_
    refine lv_iconst (v := 0) hx hb dX9_undo_47 (by decide) ?_
    refine lv_sipush (v := 253) hx hb dX9_undo_48 (by decide) ?_
    refine kr_Sv (As := [.ref (ka_a G (39, 0, 0)), .int ((253 : Int32) * (σ3.1 (25, 0, 0) 8)), .ref (ka_a G (37, 0, 0)), .int (0 : Int32), .int (253 : Int32)]) (rest := []) C0 hK hP hS hl (km_X9_copy l hI kl_39 kl_37 hq) kd_X9_copy kq_1080 ⟨rfl, rfl, Nat.le_of_ble_eq_true rfl, Nat.le_of_ble_eq_true rfl⟩ rfl (Nat.le_of_ble_eq_true rfl) dX9_undo_51 ⟨Nat.zero_le _, Nat.zero_le _⟩ (fun σ4 H locs hq hP hS => ?_)
    refine lv_aload_n hx hb dX9_undo_54 rfl (lv_at hl 0 rfl) ?_
    refine kg_X9_acts C0 hK hP (kv_s (by decide) (by decide)) kq_963 dX9_undo_55 ?_
    exact kr_iret C0 hK hP hS hq dX9_undo_58
  · have hq := hq.2 hc
    refine lv_iconst (v := 0) hx hb dX9_undo_19 (by decide) ?_
    exact kr_iret C0 hK hP hS hq dX9_undo_20
set_option maxHeartbeats 4000000 in
set_option maxRecDepth 100000 in
theorem km_X9_undo (l : Launch) {G : ka_G} (hI : ka_I G) {σ : ka_S} {Q : Int32 → ka_S → Prop} (hq : kw_X9_undo σ Q) : kc_i l yX9_undo (kw_ yX9_undo cX9_undo 1 (some .int)) rm_X9_undo G [.ref (ka_a G (25, 0, 0))] σ Q := by
  refine ka_of "GlossRowsModel" rfl (by decide) (Nat.le_of_ble_eq_true rfl) ?_
  intro p e s m below meth c C0 hK H locs hP hS ls hl
  obtain ⟨hx, hb, -, hml, hown, hts, -⟩ := id C0
  have hl : lv_has ls 1 [(0, .ref (ka_a G (25, 0, 0)))] := hl
  unfold kw_X9_undo at hq
  refine lv_aload_n hx hb dX9_undo_0 rfl (lv_at hl 0 rfl) ?_
  refine lv_aload_n hx hb dX9_undo_1 rfl (lv_at hl 0 rfl) ?_
  refine kg_X9_acts C0 hK hP (kv_s (by decide) (by decide)) kq_963 dX9_undo_2 ?_
  refine lv_if_ne (tgt := 12) hx hb dX9_undo_5 (by decide) (fun hc => ?_) (fun hc => ?_)
  · have hq := hq.2 hc
    refine lv_iconst (v := 0) hx hb dX9_undo_12 (by decide) ?_
    exact kb_X9_undo_13 hI C0 hK σ (0 : Int32) hq H locs hP hS ls (lv_sub hl [0] rfl)
  · have hq := hq.1 hc
    refine lv_iconst (v := 1) hx hb dX9_undo_8 (by decide) ?_
    refine lv_goto (tgt := 13) hx hb dX9_undo_9 (by decide) ?_
    exact kb_X9_undo_13 hI C0 hK σ (1 : Int32) hq H locs hP hS ls (lv_sub hl [0] rfl)
/-! GlossRowsModel.gap(I)I -/
def rm_X9_gap : Room := { frames := 2, cells := 0, slots := 0, locals := 42 }
def kw_X9_gap_36 (K22 : ka_S → Int32 → Int32 → Prop) (Q : Int32 → ka_S → Prop) : Nat → ka_S → Int32 → Int32 → Int32 → Prop
  | 0, _, _, _, _ => False
  | n + 1, σ, v2, v3, v4 => kw_X9_parts σ (37, 0, 0) v3 (fun r8 σ7 => 
    (r8 ≤ v4 → ∀ x9 : Int32, x9 = v3 + (1 : Int32) →
      K22 σ7 v2 x9) ∧
    (¬ r8 ≤ v4 → kw_X9_glossAt σ7 v3 v4 (fun r11 σ10 => 
      vp_in r11 253 ∧
      ((σ10.2 (37, 0, 0) r11.toNatClampNeg) = (0 : Int64) → (v2 = (0 : Int32) → Q (((10 : Int32) * v3) + v4) σ10) ∧
        (¬ v2 = (0 : Int32) → ∀ x14 : Int32, x14 = v2 + (-1 : Int32) →
          ∀ x15 : Int32, x15 = v4 + (1 : Int32) →
          (kw_X9_gap_36 K22 Q n) σ10 x14 v3 x15)) ∧
      (¬ (σ10.2 (37, 0, 0) r11.toNatClampNeg) = (0 : Int64) → ∀ x13 : Int32, x13 = v4 + (1 : Int32) →
        (kw_X9_gap_36 K22 Q n) σ10 v2 v3 x13))))
def kw_X9_gap_22 (Q : Int32 → ka_S → Prop) : Nat → ka_S → Int32 → Int32 → Prop
  | 0, _, _, _ => False
  | n + 1, σ, v2, v3 => kw_X9_many σ (37, 0, 0) (fun r5 σ4 => 
    (r5 ≤ v3 → Q (-9 : Int32) σ4) ∧
    (¬ r5 ≤ v3 → ∃ n6 : Nat, kw_X9_gap_36 (kw_X9_gap_22 Q n) Q n6 σ4 v2 v3 (0 : Int32)))
def kw_X9_gap_10 (Q : Int32 → ka_S → Prop) (σ : ka_S) (v1 : Int32) (t1 : Int32) : Prop := kw_X9_refused σ t1 (fun r2 σ1 => 
  (r2 = (0 : Int32) → ∃ n3 : Nat, kw_X9_gap_22 Q n3 σ1 v1 (0 : Int32)) ∧
  (¬ r2 = (0 : Int32) → Q (0 : Int32) σ1))
def kw_X9_gap (σ : ka_S) (v1 : Int32) (Q : Int32 → ka_S → Prop) : Prop := ((0 : Int32) ≤ v1 → kw_X9_gap_10 Q σ v1 (0 : Int32)) ∧
  (¬ (0 : Int32) ≤ v1 → kw_X9_gap_10 Q σ v1 (1 : Int32))
set_option maxHeartbeats 4000000 in
set_option maxRecDepth 100000 in
theorem kb_X9_gap_36 {p : Program} {l : Launch} {e : Env} {s : State} {m : MethodId} {args : Array Value} {below : List Frame} {meth : Method} {c : Code} {G : ka_G} (hI : ka_I G) (C0 : ka_C p s m args meth c cX9_gap 5 "GlossRowsModel" (some .int)) (hK : ka_Kn G s) {Q : Int32 → ka_S → Prop} {K22 : ka_S → Int32 → Int32 → Prop} (hk22 : ∀ (σ : ka_S) (v2 : Int32) (v3 : Int32), K22 σ v2 v3 → ∀ (H : Heap) (locs : List Loc), ka_P G σ H → va_S (ka_A G) s.heap H locs → ∀ ls : Array Slot, lv_has ls 5 [(0, .ref (ka_a G (25, 0, 0))), (2, .int v2), (3, .int v3)] → W p l e rm_X9_gap s m args below meth c H locs 0 0 (MQ below (va_Qi Q (ka_B G) (ka_A G)) args s 0 0 (ka_A G)) (F0 m 22 ls [])) : ∀ (n : Nat) (σ : ka_S) (v2 : Int32) (v3 : Int32) (v4 : Int32), kw_X9_gap_36 K22 Q n σ v2 v3 v4 → ∀ (H : Heap) (locs : List Loc), ka_P G σ H → va_S (ka_A G) s.heap H locs → ∀ ls : Array Slot, lv_has ls 5 [(0, .ref (ka_a G (25, 0, 0))), (2, .int v2), (3, .int v3), (4, .int v4)] → W p l e rm_X9_gap s m args below meth c H locs 0 0 (MQ below (va_Qi Q (ka_B G) (ka_A G)) args s 0 0 (ka_A G)) (F0 m 36 ls []) := by
  obtain ⟨hx, hb, -, hml, hown, hts, -⟩ := id C0
  intro n
  induction n with
  | zero =>
    intro σ v2 v3 v4 hq
    rw [kw_X9_gap_36] at hq
    exact hq.elim
  | succ n ih =>
    intro σ v2 v3 v4 hq H locs hP hS ls hl
    rw [kw_X9_gap_36] at hq
    refine lv_iload hx hb dX9_gap_36 (lv_at hl 3 rfl) ?_
    refine lv_aload_n hx hb dX9_gap_38 rfl (lv_at hl 0 rfl) ?_
    refine kg_X9_now C0 hK hP (kv_s (by decide) (by decide)) kq_960 dX9_gap_39 ?_
    refine lv_iload_n hx hb dX9_gap_42 rfl (lv_at hl 2 rfl) ?_
    refine kr_Si (As := [.ref (ka_a G (37, 0, 0)), .int v3]) (rest := [.int v4]) C0 hK hP hS hl (km_X9_parts l hI kl_37 hq) kd_X9_parts kq_1099 ⟨rfl, rfl, Nat.le_of_ble_eq_true rfl, Nat.le_of_ble_eq_true rfl⟩ rfl (Nat.le_of_ble_eq_true rfl) dX9_gap_43 ⟨Nat.zero_le _, Nat.zero_le _⟩ (fun r8 σ7 H locs hq hP hS => ?_)
    refine lv_icmp_ge (tgt := 86) hx hb dX9_gap_46 (by decide) (fun hc => ?_) (fun hc => ?_)
    · have hq := hq.1 hc
      obtain ⟨x9, ex9⟩ : ∃ y : Int32, y = v3 + (1 : Int32) := ⟨_, rfl⟩
      have hq := hq x9 ex9
      refine lv_iinc (v := x9) (lv' := [(3, .int x9), (0, .ref (ka_a G (25, 0, 0))), (2, .int v2), (4, .int v4)]) hx hb dX9_gap_86 hl (k := 2) rfl (by rw [ex9]; rfl) (by decide) rfl (fun ls hl => ?_)
      refine lv_goto (tgt := 22) hx hb dX9_gap_89 (by decide) ?_
      exact hk22 σ7 v2 x9 hq H locs hP hS ls (lv_sub hl [1, 2, 0] rfl)
    · have hq := hq.2 hc
      refine lv_aload_n hx hb dX9_gap_49 rfl (lv_at hl 0 rfl) ?_
      refine kg_X9_now C0 hK hP (kv_s (by decide) (by decide)) kq_960 dX9_gap_50 ?_
      refine lv_iload_n hx hb dX9_gap_53 rfl (lv_at hl 2 rfl) ?_
      refine lv_iload hx hb dX9_gap_54 (lv_at hl 3 rfl) ?_
      refine kr_Si (As := [.int v3, .int v4]) (rest := [.ref (ka_a G (37, 0, 0))]) C0 hK hP hS hl (km_X9_glossAt l hI hq) kd_X9_glossAt kq_1115 ⟨rfl, rfl, Nat.le_of_ble_eq_true rfl, Nat.le_of_ble_eq_true rfl⟩ rfl (Nat.le_of_ble_eq_true rfl) dX9_gap_56 ⟨Nat.zero_le _, Nat.zero_le _⟩ (fun r11 σ10 H locs hq hP hS => ?_)
      obtain ⟨b12, hq⟩ := hq
      refine kr_lald C0 hK hP (kv_s (by decide) (by decide)) rfl b12 dX9_gap_59 ?_
      refine lv_lconst (v := 0) hx hb dX9_gap_60 (by decide) ?_
      refine kr_cne (tgt := 80) C0 dX9_gap_61 dX9_gap_62 (by decide) (fun hc => ?_) (fun hc => ?_)
      · have hq := hq.2 hc
        obtain ⟨x13, ex13⟩ : ∃ y : Int32, y = v4 + (1 : Int32) := ⟨_, rfl⟩
        have hq := hq x13 ex13
        refine lv_iinc (v := x13) (lv' := [(4, .int x13), (0, .ref (ka_a G (25, 0, 0))), (2, .int v2), (3, .int v3)]) hx hb dX9_gap_80 hl (k := 3) rfl (by rw [ex13]; rfl) (by decide) rfl (fun ls hl => ?_)
        refine lv_goto (tgt := 36) hx hb dX9_gap_83 (by decide) ?_
        exact ih σ10 v2 v3 x13 hq H locs hP hS ls (lv_sub hl [1, 2, 3, 0] rfl)
      · have hq := hq.1 hc
        refine lv_iload_n hx hb dX9_gap_65 rfl (lv_at hl 1 rfl) ?_
        refine lv_if_ne (tgt := 77) hx hb dX9_gap_66 (by decide) (fun hc => ?_) (fun hc => ?_)
        · have hq := hq.2 hc
          obtain ⟨x14, ex14⟩ : ∃ y : Int32, y = v2 + (-1 : Int32) := ⟨_, rfl⟩
          have hq := hq x14 ex14
          refine lv_iinc (v := x14) (lv' := [(2, .int x14), (0, .ref (ka_a G (25, 0, 0))), (3, .int v3), (4, .int v4)]) hx hb dX9_gap_77 hl (k := 1) rfl (by rw [ex14]; rfl) (by decide) rfl (fun ls hl => ?_)
          obtain ⟨x15, ex15⟩ : ∃ y : Int32, y = v4 + (1 : Int32) := ⟨_, rfl⟩
          have hq := hq x15 ex15
          refine lv_iinc (v := x15) (lv' := [(4, .int x15), (2, .int x14), (0, .ref (ka_a G (25, 0, 0))), (3, .int v3)]) hx hb dX9_gap_80 hl (k := 3) rfl (by rw [ex15]; rfl) (by decide) rfl (fun ls hl => ?_)
          refine lv_goto (tgt := 36) hx hb dX9_gap_83 (by decide) ?_
          exact ih σ10 x14 v3 x15 hq H locs hP hS ls (lv_sub hl [2, 1, 3, 0] rfl)
        · have hq := hq.1 hc
          refine lv_bipush (v := 10) hx hb dX9_gap_69 (by decide) ?_
          refine lv_iload_n hx hb dX9_gap_71 rfl (lv_at hl 2 rfl) ?_
          refine lv_imul hx hb dX9_gap_72 ?_
          refine lv_iload hx hb dX9_gap_73 (lv_at hl 3 rfl) ?_
          refine lv_iadd hx hb dX9_gap_75 ?_
          exact kr_iret C0 hK hP hS hq dX9_gap_76
set_option maxHeartbeats 4000000 in
set_option maxRecDepth 100000 in
theorem kb_X9_gap_22 {p : Program} {l : Launch} {e : Env} {s : State} {m : MethodId} {args : Array Value} {below : List Frame} {meth : Method} {c : Code} {G : ka_G} (hI : ka_I G) (C0 : ka_C p s m args meth c cX9_gap 5 "GlossRowsModel" (some .int)) (hK : ka_Kn G s) {Q : Int32 → ka_S → Prop} : ∀ (n : Nat) (σ : ka_S) (v2 : Int32) (v3 : Int32), kw_X9_gap_22 Q n σ v2 v3 → ∀ (H : Heap) (locs : List Loc), ka_P G σ H → va_S (ka_A G) s.heap H locs → ∀ ls : Array Slot, lv_has ls 5 [(0, .ref (ka_a G (25, 0, 0))), (2, .int v2), (3, .int v3)] → W p l e rm_X9_gap s m args below meth c H locs 0 0 (MQ below (va_Qi Q (ka_B G) (ka_A G)) args s 0 0 (ka_A G)) (F0 m 22 ls []) := by
  obtain ⟨hx, hb, -, hml, hown, hts, -⟩ := id C0
  intro n
  induction n with
  | zero =>
    intro σ v2 v3 hq
    rw [kw_X9_gap_22] at hq
    exact hq.elim
  | succ n ih =>
    intro σ v2 v3 hq H locs hP hS ls hl
    rw [kw_X9_gap_22] at hq
    refine lv_iload_n hx hb dX9_gap_22 rfl (lv_at hl 2 rfl) ?_
    refine lv_aload_n hx hb dX9_gap_23 rfl (lv_at hl 0 rfl) ?_
    refine kg_X9_now C0 hK hP (kv_s (by decide) (by decide)) kq_960 dX9_gap_24 ?_
    refine kr_Si (As := [.ref (ka_a G (37, 0, 0))]) (rest := [.int v3]) C0 hK hP hS hl (km_X9_many l hI kl_37 hq) kd_X9_many kq_1077 ⟨rfl, rfl, Nat.le_of_ble_eq_true rfl, Nat.le_of_ble_eq_true rfl⟩ rfl (Nat.le_of_ble_eq_true rfl) dX9_gap_27 ⟨Nat.zero_le _, Nat.zero_le _⟩ (fun r5 σ4 H locs hq hP hS => ?_)
    refine lv_icmp_ge (tgt := 92) hx hb dX9_gap_30 (by decide) (fun hc => ?_) (fun hc => ?_)
    · have hq := hq.1 hc
      refine lv_bipush (v := -9) hx hb dX9_gap_92 (by decide) ?_
      exact kr_iret C0 hK hP hS hq dX9_gap_94
    · have hq := hq.2 hc
      refine lv_iconst (v := 0) hx hb dX9_gap_33 (by decide) ?_
      refine lv_istore (lv' := [(4, .int (0 : Int32)), (0, .ref (ka_a G (25, 0, 0))), (2, .int v2), (3, .int v3)]) hx hb dX9_gap_34 hl (by decide) rfl (fun ls hl => ?_)
      obtain ⟨n6, hq⟩ := hq
      exact kb_X9_gap_36 hI C0 hK ih n6 σ4 v2 v3 (0 : Int32) hq H locs hP hS ls (lv_sub hl [1, 2, 3, 0] rfl)
set_option maxHeartbeats 4000000 in
set_option maxRecDepth 100000 in
theorem kb_X9_gap_10 {p : Program} {l : Launch} {e : Env} {s : State} {m : MethodId} {args : Array Value} {below : List Frame} {meth : Method} {c : Code} {G : ka_G} (hI : ka_I G) (C0 : ka_C p s m args meth c cX9_gap 5 "GlossRowsModel" (some .int)) (hK : ka_Kn G s) {Q : Int32 → ka_S → Prop} : ∀ (σ : ka_S) (v1 : Int32) (t1 : Int32), kw_X9_gap_10 Q σ v1 t1 → ∀ (H : Heap) (locs : List Loc), ka_P G σ H → va_S (ka_A G) s.heap H locs → ∀ ls : Array Slot, lv_has ls 5 [(0, .ref (ka_a G (25, 0, 0))), (1, .int v1)] → W p l e rm_X9_gap s m args below meth c H locs 0 0 (MQ below (va_Qi Q (ka_B G) (ka_A G)) args s 0 0 (ka_A G)) (F0 m 10 ls [.int t1, .ref (ka_a G (25, 0, 0))]) := by
  obtain ⟨hx, hb, -, hml, hown, hts, -⟩ := id C0
  intro σ v1 t1 hq H locs hP hS ls hl
  unfold kw_X9_gap_10 at hq
  refine kr_Vi (k := (25, 0, 0)) (As := [.int t1]) (rest := []) C0 hK hP hS hl (km_X9_refused l hI hq) kd_X9_refused kq_1034 (kv_s (by decide) (by decide)) rfl rfl rfl ⟨rfl, rfl, Nat.le_of_ble_eq_true rfl, Nat.le_of_ble_eq_true rfl⟩ rfl (Nat.le_of_ble_eq_true rfl) dX9_gap_10 ⟨Nat.zero_le _, Nat.zero_le _⟩ (fun r2 σ1 H locs hq hP hS => ?_)
  refine lv_if_eq (tgt := 18) hx hb dX9_gap_13 (by decide) (fun hc => ?_) (fun hc => ?_)
  · have hq := hq.1 hc
    refine lv_iload_n hx hb dX9_gap_18 rfl (lv_at hl 1 rfl) ?_
    refine lv_istore_n (lv' := [(2, .int v1), (0, .ref (ka_a G (25, 0, 0))), (1, .int v1)]) hx hb dX9_gap_19 rfl hl (by decide) rfl (fun ls hl => ?_)
    refine lv_iconst (v := 0) hx hb dX9_gap_20 (by decide) ?_
    refine lv_istore_n (lv' := [(3, .int (0 : Int32)), (2, .int v1), (0, .ref (ka_a G (25, 0, 0))), (1, .int v1)]) hx hb dX9_gap_21 rfl hl (by decide) rfl (fun ls hl => ?_)
    obtain ⟨n3, hq⟩ := hq
    exact kb_X9_gap_22 hI C0 hK n3 σ1 v1 (0 : Int32) hq H locs hP hS ls (lv_sub hl [2, 1, 0] rfl)
  · have hq := hq.2 hc
    refine lv_iconst (v := 0) hx hb dX9_gap_16 (by decide) ?_
    exact kr_iret C0 hK hP hS hq dX9_gap_17
set_option maxHeartbeats 4000000 in
set_option maxRecDepth 100000 in
theorem km_X9_gap (l : Launch) {G : ka_G} (hI : ka_I G) {σ : ka_S} {v1 : Int32} {Q : Int32 → ka_S → Prop} (hq : kw_X9_gap σ v1 Q) : kc_i l yX9_gap (kw_ yX9_gap cX9_gap 5 (some .int)) rm_X9_gap G [.ref (ka_a G (25, 0, 0)), .int v1] σ Q := by
  refine ka_of "GlossRowsModel" rfl (by decide) (Nat.le_of_ble_eq_true rfl) ?_
  intro p e s m below meth c C0 hK H locs hP hS ls hl
  obtain ⟨hx, hb, -, hml, hown, hts, -⟩ := id C0
  have hl : lv_has ls 5 [(0, .ref (ka_a G (25, 0, 0))), (1, .int v1)] := hl
  unfold kw_X9_gap at hq
  refine lv_aload_n hx hb dX9_gap_0 rfl (lv_at hl 0 rfl) ?_
  refine lv_iload_n hx hb dX9_gap_1 rfl (lv_at hl 1 rfl) ?_
  refine lv_if_ge (tgt := 9) hx hb dX9_gap_2 (by decide) (fun hc => ?_) (fun hc => ?_)
  · have hq := hq.1 hc
    refine lv_iconst (v := 0) hx hb dX9_gap_9 (by decide) ?_
    exact kb_X9_gap_10 hI C0 hK σ v1 (0 : Int32) hq H locs hP hS ls (lv_sub hl [0, 1] rfl)
  · have hq := hq.2 hc
    refine lv_iconst (v := 1) hx hb dX9_gap_5 (by decide) ?_
    refine lv_goto (tgt := 10) hx hb dX9_gap_6 (by decide) ?_
    exact kb_X9_gap_10 hI C0 hK σ v1 (1 : Int32) hq H locs hP hS ls (lv_sub hl [0, 1] rfl)
/-! GlossRowsModel.uses(J)I -/
def rm_X9_uses : Room := { frames := 2, cells := 0, slots := 0, locals := 42 }
def kw_X9_uses_20 (K5 : ka_S → Int64 → Int32 → Int32 → Prop) (Q : Int32 → ka_S → Prop) : Nat → ka_S → Int64 → Int32 → Int32 → Int32 → Prop
  | 0, _, _, _, _, _ => False
  | n + 1, σ, v1, v3, v4, v5 => kw_X9_parts σ (37, 0, 0) v4 (fun r6 σ5 => 
    (r6 ≤ v5 → ∀ x7 : Int32, x7 = v4 + (1 : Int32) →
      K5 σ5 v1 v3 x7) ∧
    (¬ r6 ≤ v5 → kw_X9_partAt σ5 v4 v5 (fun r9 σ8 => 
      vp_in r9 253 ∧
      ((σ8.2 (37, 0, 0) r9.toNatClampNeg) = v1 → ∀ x13 : Int32, x13 = (v3 + (1 : Int32)) → 
        ∀ x14 : Int32, x14 = v5 + (1 : Int32) →
        (kw_X9_uses_20 K5 Q n) σ8 v1 x13 v4 x14) ∧
      (¬ (σ8.2 (37, 0, 0) r9.toNatClampNeg) = v1 → ∀ x11 : Int32, x11 = (v3 + (0 : Int32)) → 
        ∀ x12 : Int32, x12 = v5 + (1 : Int32) →
        (kw_X9_uses_20 K5 Q n) σ8 v1 x11 v4 x12))))
def kw_X9_uses_5 (Q : Int32 → ka_S → Prop) : Nat → ka_S → Int64 → Int32 → Int32 → Prop
  | 0, _, _, _, _ => False
  | n + 1, σ, v1, v3, v4 => kw_X9_many σ (37, 0, 0) (fun r3 σ2 => 
    (r3 ≤ v4 → Q v3 σ2) ∧
    (¬ r3 ≤ v4 → ∃ n4 : Nat, kw_X9_uses_20 (kw_X9_uses_5 Q n) Q n4 σ2 v1 v3 v4 (0 : Int32)))
def kw_X9_uses (σ : ka_S) (v1 : Int64) (Q : Int32 → ka_S → Prop) : Prop := ∃ n1 : Nat, kw_X9_uses_5 Q n1 σ v1 (0 : Int32) (0 : Int32)
set_option maxHeartbeats 4000000 in
set_option maxRecDepth 100000 in
theorem kb_X9_uses_20 {p : Program} {l : Launch} {e : Env} {s : State} {m : MethodId} {args : Array Value} {below : List Frame} {meth : Method} {c : Code} {G : ka_G} (hI : ka_I G) (C0 : ka_C p s m args meth c cX9_uses 6 "GlossRowsModel" (some .int)) (hK : ka_Kn G s) {Q : Int32 → ka_S → Prop} {K5 : ka_S → Int64 → Int32 → Int32 → Prop} (hk5 : ∀ (σ : ka_S) (v1 : Int64) (v3 : Int32) (v4 : Int32), K5 σ v1 v3 v4 → ∀ (H : Heap) (locs : List Loc), ka_P G σ H → va_S (ka_A G) s.heap H locs → ∀ ls : Array Slot, lv_has ls 6 [(0, .ref (ka_a G (25, 0, 0))), (1, .long v1), (3, .int v3), (4, .int v4)] → W p l e rm_X9_uses s m args below meth c H locs 0 0 (MQ below (va_Qi Q (ka_B G) (ka_A G)) args s 0 0 (ka_A G)) (F0 m 5 ls [])) : ∀ (n : Nat) (σ : ka_S) (v1 : Int64) (v3 : Int32) (v4 : Int32) (v5 : Int32), kw_X9_uses_20 K5 Q n σ v1 v3 v4 v5 → ∀ (H : Heap) (locs : List Loc), ka_P G σ H → va_S (ka_A G) s.heap H locs → ∀ ls : Array Slot, lv_has ls 6 [(0, .ref (ka_a G (25, 0, 0))), (1, .long v1), (3, .int v3), (4, .int v4), (5, .int v5)] → W p l e rm_X9_uses s m args below meth c H locs 0 0 (MQ below (va_Qi Q (ka_B G) (ka_A G)) args s 0 0 (ka_A G)) (F0 m 20 ls []) := by
  obtain ⟨hx, hb, -, hml, hown, hts, -⟩ := id C0
  intro n
  induction n with
  | zero =>
    intro σ v1 v3 v4 v5 hq
    rw [kw_X9_uses_20] at hq
    exact hq.elim
  | succ n ih =>
    intro σ v1 v3 v4 v5 hq H locs hP hS ls hl
    rw [kw_X9_uses_20] at hq
    refine lv_iload hx hb dX9_uses_20 (lv_at hl 4 rfl) ?_
    refine lv_aload_n hx hb dX9_uses_22 rfl (lv_at hl 0 rfl) ?_
    refine kg_X9_now C0 hK hP (kv_s (by decide) (by decide)) kq_960 dX9_uses_23 ?_
    refine lv_iload hx hb dX9_uses_26 (lv_at hl 3 rfl) ?_
    refine kr_Si (As := [.ref (ka_a G (37, 0, 0)), .int v4]) (rest := [.int v5]) C0 hK hP hS hl (km_X9_parts l hI kl_37 hq) kd_X9_parts kq_1099 ⟨rfl, rfl, Nat.le_of_ble_eq_true rfl, Nat.le_of_ble_eq_true rfl⟩ rfl (Nat.le_of_ble_eq_true rfl) dX9_uses_28 ⟨Nat.zero_le _, Nat.zero_le _⟩ (fun r6 σ5 H locs hq hP hS => ?_)
    refine lv_icmp_ge (tgt := 65) hx hb dX9_uses_31 (by decide) (fun hc => ?_) (fun hc => ?_)
    · have hq := hq.1 hc
      obtain ⟨x7, ex7⟩ : ∃ y : Int32, y = v4 + (1 : Int32) := ⟨_, rfl⟩
      have hq := hq x7 ex7
      refine lv_iinc (v := x7) (lv' := [(4, .int x7), (0, .ref (ka_a G (25, 0, 0))), (1, .long v1), (3, .int v3), (5, .int v5)]) hx hb dX9_uses_65 hl (k := 3) rfl (by rw [ex7]; rfl) (by decide) rfl (fun ls hl => ?_)
      refine lv_goto (tgt := 5) hx hb dX9_uses_68 (by decide) ?_
      exact hk5 σ5 v1 v3 x7 hq H locs hP hS ls (lv_sub hl [1, 2, 3, 0] rfl)
    · have hq := hq.2 hc
      refine lv_iload_n hx hb dX9_uses_34 rfl (lv_at hl 2 rfl) ?_
      refine lv_aload_n hx hb dX9_uses_35 rfl (lv_at hl 0 rfl) ?_
      refine kg_X9_now C0 hK hP (kv_s (by decide) (by decide)) kq_960 dX9_uses_36 ?_
      refine lv_iload hx hb dX9_uses_39 (lv_at hl 3 rfl) ?_
      refine lv_iload hx hb dX9_uses_41 (lv_at hl 4 rfl) ?_
      refine kr_Si (As := [.int v4, .int v5]) (rest := [.ref (ka_a G (37, 0, 0)), .int v3]) C0 hK hP hS hl (km_X9_partAt l hI hq) kd_X9_partAt kq_1105 ⟨rfl, rfl, Nat.le_of_ble_eq_true rfl, Nat.le_of_ble_eq_true rfl⟩ rfl (Nat.le_of_ble_eq_true rfl) dX9_uses_43 ⟨Nat.zero_le _, Nat.zero_le _⟩ (fun r9 σ8 H locs hq hP hS => ?_)
      obtain ⟨b10, hq⟩ := hq
      refine kr_lald C0 hK hP (kv_s (by decide) (by decide)) rfl b10 dX9_uses_46 ?_
      refine lv_lload_n hx hb dX9_uses_47 rfl (lv_at hl 1 rfl) ?_
      refine kr_cne (tgt := 56) C0 dX9_uses_48 dX9_uses_49 (by decide) (fun hc => ?_) (fun hc => ?_)
      · have hq := hq.2 hc
        refine lv_iconst (v := 0) hx hb dX9_uses_56 (by decide) ?_
        refine lv_iadd hx hb dX9_uses_57 ?_
        refine lv_topi (fun x11 ex11 => ?_)
        have hq := hq x11 ex11
        refine lv_istore_n (lv' := [(3, .int x11), (0, .ref (ka_a G (25, 0, 0))), (1, .long v1), (4, .int v4), (5, .int v5)]) hx hb dX9_uses_58 rfl hl (by decide) rfl (fun ls hl => ?_)
        obtain ⟨x12, ex12⟩ : ∃ y : Int32, y = v5 + (1 : Int32) := ⟨_, rfl⟩
        have hq := hq x12 ex12
        refine lv_iinc (v := x12) (lv' := [(5, .int x12), (3, .int x11), (0, .ref (ka_a G (25, 0, 0))), (1, .long v1), (4, .int v4)]) hx hb dX9_uses_59 hl (k := 4) rfl (by rw [ex12]; rfl) (by decide) rfl (fun ls hl => ?_)
        refine lv_goto (tgt := 20) hx hb dX9_uses_62 (by decide) ?_
        exact ih σ8 v1 x11 v4 x12 hq H locs hP hS ls (lv_sub hl [2, 3, 1, 4, 0] rfl)
      · have hq := hq.1 hc
        refine lv_iconst (v := 1) hx hb dX9_uses_52 (by decide) ?_
        refine lv_goto (tgt := 57) hx hb dX9_uses_53 (by decide) ?_
        refine lv_iadd hx hb dX9_uses_57 ?_
        refine lv_topi (fun x13 ex13 => ?_)
        have hq := hq x13 ex13
        refine lv_istore_n (lv' := [(3, .int x13), (0, .ref (ka_a G (25, 0, 0))), (1, .long v1), (4, .int v4), (5, .int v5)]) hx hb dX9_uses_58 rfl hl (by decide) rfl (fun ls hl => ?_)
        obtain ⟨x14, ex14⟩ : ∃ y : Int32, y = v5 + (1 : Int32) := ⟨_, rfl⟩
        have hq := hq x14 ex14
        refine lv_iinc (v := x14) (lv' := [(5, .int x14), (3, .int x13), (0, .ref (ka_a G (25, 0, 0))), (1, .long v1), (4, .int v4)]) hx hb dX9_uses_59 hl (k := 4) rfl (by rw [ex14]; rfl) (by decide) rfl (fun ls hl => ?_)
        refine lv_goto (tgt := 20) hx hb dX9_uses_62 (by decide) ?_
        exact ih σ8 v1 x13 v4 x14 hq H locs hP hS ls (lv_sub hl [2, 3, 1, 4, 0] rfl)
set_option maxHeartbeats 4000000 in
set_option maxRecDepth 100000 in
theorem kb_X9_uses_5 {p : Program} {l : Launch} {e : Env} {s : State} {m : MethodId} {args : Array Value} {below : List Frame} {meth : Method} {c : Code} {G : ka_G} (hI : ka_I G) (C0 : ka_C p s m args meth c cX9_uses 6 "GlossRowsModel" (some .int)) (hK : ka_Kn G s) {Q : Int32 → ka_S → Prop} : ∀ (n : Nat) (σ : ka_S) (v1 : Int64) (v3 : Int32) (v4 : Int32), kw_X9_uses_5 Q n σ v1 v3 v4 → ∀ (H : Heap) (locs : List Loc), ka_P G σ H → va_S (ka_A G) s.heap H locs → ∀ ls : Array Slot, lv_has ls 6 [(0, .ref (ka_a G (25, 0, 0))), (1, .long v1), (3, .int v3), (4, .int v4)] → W p l e rm_X9_uses s m args below meth c H locs 0 0 (MQ below (va_Qi Q (ka_B G) (ka_A G)) args s 0 0 (ka_A G)) (F0 m 5 ls []) := by
  obtain ⟨hx, hb, -, hml, hown, hts, -⟩ := id C0
  intro n
  induction n with
  | zero =>
    intro σ v1 v3 v4 hq
    rw [kw_X9_uses_5] at hq
    exact hq.elim
  | succ n ih =>
    intro σ v1 v3 v4 hq H locs hP hS ls hl
    rw [kw_X9_uses_5] at hq
    refine lv_iload hx hb dX9_uses_5 (lv_at hl 3 rfl) ?_
    refine lv_aload_n hx hb dX9_uses_7 rfl (lv_at hl 0 rfl) ?_
    refine kg_X9_now C0 hK hP (kv_s (by decide) (by decide)) kq_960 dX9_uses_8 ?_
    refine kr_Si (As := [.ref (ka_a G (37, 0, 0))]) (rest := [.int v4]) C0 hK hP hS hl (km_X9_many l hI kl_37 hq) kd_X9_many kq_1077 ⟨rfl, rfl, Nat.le_of_ble_eq_true rfl, Nat.le_of_ble_eq_true rfl⟩ rfl (Nat.le_of_ble_eq_true rfl) dX9_uses_11 ⟨Nat.zero_le _, Nat.zero_le _⟩ (fun r3 σ2 H locs hq hP hS => ?_)
    refine lv_icmp_ge (tgt := 71) hx hb dX9_uses_14 (by decide) (fun hc => ?_) (fun hc => ?_)
    · have hq := hq.1 hc
      refine lv_iload_n hx hb dX9_uses_71 rfl (lv_at hl 2 rfl) ?_
      exact kr_iret C0 hK hP hS hq dX9_uses_72
    · have hq := hq.2 hc
      refine lv_iconst (v := 0) hx hb dX9_uses_17 (by decide) ?_
      refine lv_istore (lv' := [(5, .int (0 : Int32)), (0, .ref (ka_a G (25, 0, 0))), (1, .long v1), (3, .int v3), (4, .int v4)]) hx hb dX9_uses_18 hl (by decide) rfl (fun ls hl => ?_)
      obtain ⟨n4, hq⟩ := hq
      exact kb_X9_uses_20 hI C0 hK ih n4 σ2 v1 v3 v4 (0 : Int32) hq H locs hP hS ls (lv_sub hl [1, 2, 3, 4, 0] rfl)
set_option maxHeartbeats 4000000 in
set_option maxRecDepth 100000 in
theorem km_X9_uses (l : Launch) {G : ka_G} (hI : ka_I G) {σ : ka_S} {v1 : Int64} {Q : Int32 → ka_S → Prop} (hq : kw_X9_uses σ v1 Q) : kc_i l yX9_uses (kw_ yX9_uses cX9_uses 6 (some .int)) rm_X9_uses G [.ref (ka_a G (25, 0, 0)), .long v1] σ Q := by
  refine ka_of "GlossRowsModel" rfl (by decide) (Nat.le_of_ble_eq_true rfl) ?_
  intro p e s m below meth c C0 hK H locs hP hS ls hl
  obtain ⟨hx, hb, -, hml, hown, hts, -⟩ := id C0
  have hl : lv_has ls 6 [(0, .ref (ka_a G (25, 0, 0))), (1, .long v1)] := hl
  unfold kw_X9_uses at hq
  refine lv_iconst (v := 0) hx hb dX9_uses_0 (by decide) ?_
  refine lv_istore_n (lv' := [(3, .int (0 : Int32)), (0, .ref (ka_a G (25, 0, 0))), (1, .long v1)]) hx hb dX9_uses_1 rfl hl (by decide) rfl (fun ls hl => ?_)
  refine lv_iconst (v := 0) hx hb dX9_uses_2 (by decide) ?_
  refine lv_istore (lv' := [(4, .int (0 : Int32)), (3, .int (0 : Int32)), (0, .ref (ka_a G (25, 0, 0))), (1, .long v1)]) hx hb dX9_uses_3 hl (by decide) rfl (fun ls hl => ?_)
  obtain ⟨n1, hq⟩ := hq
  exact kb_X9_uses_5 hI C0 hK n1 σ v1 (0 : Int32) (0 : Int32) hq H locs hP hS ls (lv_sub hl [2, 3, 1, 0] rfl)
/-! GlossRowsModel.mostUsed()I -/
def rm_X9_mostUsed : Room := { frames := 3, cells := 0, slots := 0, locals := 67 }
def kw_X9_mostUsed_85 (K15 : ka_S → Int32 → Int32 → Int64 → Int32 → Prop) (K30 : ka_S → Int32 → Int32 → Int64 → Int32 → Int32 → Prop) (Q : Int32 → ka_S → Prop) (σ : ka_S) (v5 : Int32) (v6 : Int32) (v7 : Int64) (v9 : Int32) : Prop := ∀ x17 : Int32, x17 = (((10 : Int32) * v5) + v6) → 
  ∀ x18 : Int32, x18 = v6 + (1 : Int32) →
  K30 σ x17 v9 v7 v5 x18
def kw_X9_mostUsed_30 (K15 : ka_S → Int32 → Int32 → Int64 → Int32 → Prop) (Q : Int32 → ka_S → Prop) : Nat → ka_S → Int32 → Int32 → Int64 → Int32 → Int32 → Prop
  | 0, _, _, _, _, _, _ => False
  | n + 1, σ, v1, v2, v3, v5, v6 => kw_X9_parts σ (37, 0, 0) v5 (fun r7 σ6 => 
    (r7 ≤ v6 → ∀ x8 : Int32, x8 = v5 + (1 : Int32) →
      K15 σ6 v1 v2 v3 x8) ∧
    (¬ r7 ≤ v6 → kw_X9_partAt σ6 v5 v6 (fun r10 σ9 => 
      vp_in r10 253 ∧
      ∀ x12 : Int64, x12 = (σ9.2 (37, 0, 0) r10.toNatClampNeg) → 
      kw_X9_uses σ9 x12 (fun r14 σ13 => 
      (v2 < r14 → kw_X9_mostUsed_85 K15 (kw_X9_mostUsed_30 K15 Q n) Q σ13 v5 v6 x12 r14) ∧
      (¬ v2 < r14 → (r14 = v2 → (v3 ≤ x12 → ∀ x16 : Int32, x16 = v6 + (1 : Int32) →
            (kw_X9_mostUsed_30 K15 Q n) σ13 v1 v2 v3 v5 x16) ∧
          (¬ v3 ≤ x12 → kw_X9_mostUsed_85 K15 (kw_X9_mostUsed_30 K15 Q n) Q σ13 v5 v6 x12 r14)) ∧
        (¬ r14 = v2 → ∀ x15 : Int32, x15 = v6 + (1 : Int32) →
          (kw_X9_mostUsed_30 K15 Q n) σ13 v1 v2 v3 v5 x15))))))
def kw_X9_mostUsed_15 (Q : Int32 → ka_S → Prop) : Nat → ka_S → Int32 → Int32 → Int64 → Int32 → Prop
  | 0, _, _, _, _, _ => False
  | n + 1, σ, v1, v2, v3, v5 => kw_X9_many σ (37, 0, 0) (fun r4 σ3 => 
    (r4 ≤ v5 → Q v1 σ3) ∧
    (¬ r4 ≤ v5 → ∃ n5 : Nat, kw_X9_mostUsed_30 (kw_X9_mostUsed_15 Q n) Q n5 σ3 v1 v2 v3 v5 (0 : Int32)))
def kw_X9_mostUsed (σ : ka_S) (Q : Int32 → ka_S → Prop) : Prop := ∀ σ1 : ka_S, σ1 = ka_wI σ (25, 0, 0) 0 (0 : Int32) →
  ∃ n2 : Nat, kw_X9_mostUsed_15 Q n2 σ1 (-9 : Int32) (0 : Int32) (0 : Int64) (0 : Int32)
set_option maxHeartbeats 4000000 in
set_option maxRecDepth 100000 in
theorem kb_X9_mostUsed_85 {p : Program} {l : Launch} {e : Env} {s : State} {m : MethodId} {args : Array Value} {below : List Frame} {meth : Method} {c : Code} {G : ka_G} (hI : ka_I G) (C0 : ka_C p s m args meth c cX9_mostUsed 10 "GlossRowsModel" (some .int)) (hK : ka_Kn G s) {Q : Int32 → ka_S → Prop} {K15 : ka_S → Int32 → Int32 → Int64 → Int32 → Prop} {K30 : ka_S → Int32 → Int32 → Int64 → Int32 → Int32 → Prop} (hk15 : ∀ (σ : ka_S) (v1 : Int32) (v2 : Int32) (v3 : Int64) (v5 : Int32), K15 σ v1 v2 v3 v5 → ∀ (H : Heap) (locs : List Loc), ka_P G σ H → va_S (ka_A G) s.heap H locs → ∀ ls : Array Slot, lv_has ls 10 [(0, .ref (ka_a G (25, 0, 0))), (1, .int v1), (2, .int v2), (3, .long v3), (5, .int v5)] → W p l e rm_X9_mostUsed s m args below meth c H locs 0 0 (MQ below (va_Qi Q (ka_B G) (ka_A G)) args s 0 0 (ka_A G)) (F0 m 15 ls [])) (hk30 : ∀ (σ : ka_S) (v1 : Int32) (v2 : Int32) (v3 : Int64) (v5 : Int32) (v6 : Int32), K30 σ v1 v2 v3 v5 v6 → ∀ (H : Heap) (locs : List Loc), ka_P G σ H → va_S (ka_A G) s.heap H locs → ∀ ls : Array Slot, lv_has ls 10 [(0, .ref (ka_a G (25, 0, 0))), (1, .int v1), (2, .int v2), (3, .long v3), (5, .int v5), (6, .int v6)] → W p l e rm_X9_mostUsed s m args below meth c H locs 0 0 (MQ below (va_Qi Q (ka_B G) (ka_A G)) args s 0 0 (ka_A G)) (F0 m 30 ls [])) : ∀ (σ : ka_S) (v5 : Int32) (v6 : Int32) (v7 : Int64) (v9 : Int32), kw_X9_mostUsed_85 K15 K30 Q σ v5 v6 v7 v9 → ∀ (H : Heap) (locs : List Loc), ka_P G σ H → va_S (ka_A G) s.heap H locs → ∀ ls : Array Slot, lv_has ls 10 [(0, .ref (ka_a G (25, 0, 0))), (5, .int v5), (6, .int v6), (7, .long v7), (9, .int v9)] → W p l e rm_X9_mostUsed s m args below meth c H locs 0 0 (MQ below (va_Qi Q (ka_B G) (ka_A G)) args s 0 0 (ka_A G)) (F0 m 85 ls []) := by
  obtain ⟨hx, hb, -, hml, hown, hts, -⟩ := id C0
  intro σ v5 v6 v7 v9 hq H locs hP hS ls hl
  unfold kw_X9_mostUsed_85 at hq
  refine lv_bipush (v := 10) hx hb dX9_mostUsed_85 (by decide) ?_
  refine lv_iload hx hb dX9_mostUsed_87 (lv_at hl 1 rfl) ?_
  refine lv_imul hx hb dX9_mostUsed_89 ?_
  refine lv_iload hx hb dX9_mostUsed_90 (lv_at hl 2 rfl) ?_
  refine lv_iadd hx hb dX9_mostUsed_92 ?_
  refine lv_topi (fun x17 ex17 => ?_)
  have hq := hq x17 ex17
  refine lv_istore_n (lv' := [(1, .int x17), (0, .ref (ka_a G (25, 0, 0))), (5, .int v5), (6, .int v6), (7, .long v7), (9, .int v9)]) hx hb dX9_mostUsed_93 rfl hl (by decide) rfl (fun ls hl => ?_)
  refine lv_iload hx hb dX9_mostUsed_94 (lv_at hl 5 rfl) ?_
  refine lv_istore_n (lv' := [(2, .int v9), (1, .int x17), (0, .ref (ka_a G (25, 0, 0))), (5, .int v5), (6, .int v6), (7, .long v7), (9, .int v9)]) hx hb dX9_mostUsed_96 rfl hl (by decide) rfl (fun ls hl => ?_)
  refine lv_lload hx hb dX9_mostUsed_97 (lv_at hl 5 rfl) ?_
  refine lv_lstore_n (lv' := [(3, .long v7), (2, .int v9), (1, .int x17), (0, .ref (ka_a G (25, 0, 0))), (5, .int v5), (6, .int v6), (7, .long v7), (9, .int v9)]) hx hb dX9_mostUsed_99 rfl hl (by decide) rfl (fun ls hl => ?_)
  obtain ⟨x18, ex18⟩ : ∃ y : Int32, y = v6 + (1 : Int32) := ⟨_, rfl⟩
  have hq := hq x18 ex18
  refine lv_iinc (v := x18) (lv' := [(6, .int x18), (3, .long v7), (2, .int v9), (1, .int x17), (0, .ref (ka_a G (25, 0, 0))), (5, .int v5), (7, .long v7), (9, .int v9)]) hx hb dX9_mostUsed_100 hl (k := 5) rfl (by rw [ex18]; rfl) (by decide) rfl (fun ls hl => ?_)
  refine lv_goto (tgt := 30) hx hb dX9_mostUsed_103 (by decide) ?_
  exact hk30 σ x17 v9 v7 v5 x18 hq H locs hP hS ls (lv_sub hl [4, 3, 2, 1, 5, 0] rfl)
set_option maxHeartbeats 4000000 in
set_option maxRecDepth 100000 in
theorem kb_X9_mostUsed_30 {p : Program} {l : Launch} {e : Env} {s : State} {m : MethodId} {args : Array Value} {below : List Frame} {meth : Method} {c : Code} {G : ka_G} (hI : ka_I G) (C0 : ka_C p s m args meth c cX9_mostUsed 10 "GlossRowsModel" (some .int)) (hK : ka_Kn G s) {Q : Int32 → ka_S → Prop} {K15 : ka_S → Int32 → Int32 → Int64 → Int32 → Prop} (hk15 : ∀ (σ : ka_S) (v1 : Int32) (v2 : Int32) (v3 : Int64) (v5 : Int32), K15 σ v1 v2 v3 v5 → ∀ (H : Heap) (locs : List Loc), ka_P G σ H → va_S (ka_A G) s.heap H locs → ∀ ls : Array Slot, lv_has ls 10 [(0, .ref (ka_a G (25, 0, 0))), (1, .int v1), (2, .int v2), (3, .long v3), (5, .int v5)] → W p l e rm_X9_mostUsed s m args below meth c H locs 0 0 (MQ below (va_Qi Q (ka_B G) (ka_A G)) args s 0 0 (ka_A G)) (F0 m 15 ls [])) : ∀ (n : Nat) (σ : ka_S) (v1 : Int32) (v2 : Int32) (v3 : Int64) (v5 : Int32) (v6 : Int32), kw_X9_mostUsed_30 K15 Q n σ v1 v2 v3 v5 v6 → ∀ (H : Heap) (locs : List Loc), ka_P G σ H → va_S (ka_A G) s.heap H locs → ∀ ls : Array Slot, lv_has ls 10 [(0, .ref (ka_a G (25, 0, 0))), (1, .int v1), (2, .int v2), (3, .long v3), (5, .int v5), (6, .int v6)] → W p l e rm_X9_mostUsed s m args below meth c H locs 0 0 (MQ below (va_Qi Q (ka_B G) (ka_A G)) args s 0 0 (ka_A G)) (F0 m 30 ls []) := by
  obtain ⟨hx, hb, -, hml, hown, hts, -⟩ := id C0
  intro n
  induction n with
  | zero =>
    intro σ v1 v2 v3 v5 v6 hq
    rw [kw_X9_mostUsed_30] at hq
    exact hq.elim
  | succ n ih =>
    intro σ v1 v2 v3 v5 v6 hq H locs hP hS ls hl
    rw [kw_X9_mostUsed_30] at hq
    refine lv_iload hx hb dX9_mostUsed_30 (lv_at hl 5 rfl) ?_
    refine lv_aload_n hx hb dX9_mostUsed_32 rfl (lv_at hl 0 rfl) ?_
    refine kg_X9_now C0 hK hP (kv_s (by decide) (by decide)) kq_960 dX9_mostUsed_33 ?_
    refine lv_iload hx hb dX9_mostUsed_36 (lv_at hl 4 rfl) ?_
    refine kr_Si (As := [.ref (ka_a G (37, 0, 0)), .int v5]) (rest := [.int v6]) C0 hK hP hS hl (km_X9_parts l hI kl_37 hq) kd_X9_parts kq_1099 ⟨rfl, rfl, Nat.le_of_ble_eq_true rfl, Nat.le_of_ble_eq_true rfl⟩ rfl (Nat.le_of_ble_eq_true rfl) dX9_mostUsed_38 ⟨Nat.zero_le _, Nat.zero_le _⟩ (fun r7 σ6 H locs hq hP hS => ?_)
    refine lv_icmp_ge (tgt := 106) hx hb dX9_mostUsed_41 (by decide) (fun hc => ?_) (fun hc => ?_)
    · have hq := hq.1 hc
      obtain ⟨x8, ex8⟩ : ∃ y : Int32, y = v5 + (1 : Int32) := ⟨_, rfl⟩
      have hq := hq x8 ex8
      refine lv_iinc (v := x8) (lv' := [(5, .int x8), (0, .ref (ka_a G (25, 0, 0))), (1, .int v1), (2, .int v2), (3, .long v3), (6, .int v6)]) hx hb dX9_mostUsed_106 hl (k := 4) rfl (by rw [ex8]; rfl) (by decide) rfl (fun ls hl => ?_)
      refine lv_goto (tgt := 15) hx hb dX9_mostUsed_109 (by decide) ?_
      exact hk15 σ6 v1 v2 v3 x8 hq H locs hP hS ls (lv_sub hl [1, 2, 3, 4, 0] rfl)
    · have hq := hq.2 hc
      refine lv_aload_n hx hb dX9_mostUsed_44 rfl (lv_at hl 0 rfl) ?_
      refine kg_X9_now C0 hK hP (kv_s (by decide) (by decide)) kq_960 dX9_mostUsed_45 ?_
      refine lv_iload hx hb dX9_mostUsed_48 (lv_at hl 4 rfl) ?_
      refine lv_iload hx hb dX9_mostUsed_50 (lv_at hl 5 rfl) ?_
      refine kr_Si (As := [.int v5, .int v6]) (rest := [.ref (ka_a G (37, 0, 0))]) C0 hK hP hS hl (km_X9_partAt l hI hq) kd_X9_partAt kq_1105 ⟨rfl, rfl, Nat.le_of_ble_eq_true rfl, Nat.le_of_ble_eq_true rfl⟩ rfl (Nat.le_of_ble_eq_true rfl) dX9_mostUsed_52 ⟨Nat.zero_le _, Nat.zero_le _⟩ (fun r10 σ9 H locs hq hP hS => ?_)
      obtain ⟨b11, hq⟩ := hq
      refine kr_lald C0 hK hP (kv_s (by decide) (by decide)) rfl b11 dX9_mostUsed_55 ?_
      refine lv_topl (fun x12 ex12 => ?_)
      have hq := hq x12 ex12
      refine lv_lstore (lv' := [(7, .long x12), (0, .ref (ka_a G (25, 0, 0))), (1, .int v1), (2, .int v2), (3, .long v3), (5, .int v5), (6, .int v6)]) hx hb dX9_mostUsed_56 hl (by decide) rfl (fun ls hl => ?_)
      refine lv_aload_n hx hb dX9_mostUsed_58 rfl (lv_at hl 1 rfl) ?_
      refine lv_lload hx hb dX9_mostUsed_59 (lv_at hl 0 rfl) ?_
      refine kr_Vi (k := (25, 0, 0)) (As := [.long x12]) (rest := []) C0 hK hP hS hl (km_X9_uses l hI hq) kd_X9_uses kq_1295 (kv_s (by decide) (by decide)) rfl rfl rfl ⟨rfl, rfl, Nat.le_of_ble_eq_true rfl, Nat.le_of_ble_eq_true rfl⟩ rfl (Nat.le_of_ble_eq_true rfl) dX9_mostUsed_61 ⟨Nat.zero_le _, Nat.zero_le _⟩ (fun r14 σ13 H locs hq hP hS => ?_)
      refine lv_istore (lv' := [(9, .int r14), (7, .long x12), (0, .ref (ka_a G (25, 0, 0))), (1, .int v1), (2, .int v2), (3, .long v3), (5, .int v5), (6, .int v6)]) hx hb dX9_mostUsed_64 hl (by decide) rfl (fun ls hl => ?_)
      refine lv_iload hx hb dX9_mostUsed_66 (lv_at hl 0 rfl) ?_
      refine lv_iload_n hx hb dX9_mostUsed_68 rfl (lv_at hl 4 rfl) ?_
      refine lv_icmp_gt (tgt := 85) hx hb dX9_mostUsed_69 (by decide) (fun hc => ?_) (fun hc => ?_)
      · have hq := hq.1 hc
        exact kb_X9_mostUsed_85 hI C0 hK hk15 ih σ13 v5 v6 x12 r14 hq H locs hP hS ls (lv_sub hl [2, 6, 7, 1, 0] rfl)
      · have hq := hq.2 hc
        refine lv_iload hx hb dX9_mostUsed_72 (lv_at hl 0 rfl) ?_
        refine lv_iload_n hx hb dX9_mostUsed_74 rfl (lv_at hl 4 rfl) ?_
        refine lv_icmp_ne (tgt := 100) hx hb dX9_mostUsed_75 (by decide) (fun hc => ?_) (fun hc => ?_)
        · have hq := hq.2 hc
          obtain ⟨x15, ex15⟩ : ∃ y : Int32, y = v6 + (1 : Int32) := ⟨_, rfl⟩
          have hq := hq x15 ex15
          refine lv_iinc (v := x15) (lv' := [(6, .int x15), (9, .int r14), (7, .long x12), (0, .ref (ka_a G (25, 0, 0))), (1, .int v1), (2, .int v2), (3, .long v3), (5, .int v5)]) hx hb dX9_mostUsed_100 hl (k := 7) rfl (by rw [ex15]; rfl) (by decide) rfl (fun ls hl => ?_)
          refine lv_goto (tgt := 30) hx hb dX9_mostUsed_103 (by decide) ?_
          exact ih σ13 v1 v2 v3 v5 x15 hq H locs hP hS ls (lv_sub hl [3, 4, 5, 6, 7, 0] rfl)
        · have hq := hq.1 hc
          refine lv_lload hx hb dX9_mostUsed_78 (lv_at hl 1 rfl) ?_
          refine lv_lload_n hx hb dX9_mostUsed_80 rfl (lv_at hl 5 rfl) ?_
          refine kr_cge (tgt := 100) C0 dX9_mostUsed_81 dX9_mostUsed_82 (by decide) (fun hc => ?_) (fun hc => ?_)
          · have hq := hq.1 hc
            obtain ⟨x16, ex16⟩ : ∃ y : Int32, y = v6 + (1 : Int32) := ⟨_, rfl⟩
            have hq := hq x16 ex16
            refine lv_iinc (v := x16) (lv' := [(6, .int x16), (9, .int r14), (7, .long x12), (0, .ref (ka_a G (25, 0, 0))), (1, .int v1), (2, .int v2), (3, .long v3), (5, .int v5)]) hx hb dX9_mostUsed_100 hl (k := 7) rfl (by rw [ex16]; rfl) (by decide) rfl (fun ls hl => ?_)
            refine lv_goto (tgt := 30) hx hb dX9_mostUsed_103 (by decide) ?_
            exact ih σ13 v1 v2 v3 v5 x16 hq H locs hP hS ls (lv_sub hl [3, 4, 5, 6, 7, 0] rfl)
          · have hq := hq.2 hc
            exact kb_X9_mostUsed_85 hI C0 hK hk15 ih σ13 v5 v6 x12 r14 hq H locs hP hS ls (lv_sub hl [2, 6, 7, 1, 0] rfl)
set_option maxHeartbeats 4000000 in
set_option maxRecDepth 100000 in
theorem kb_X9_mostUsed_15 {p : Program} {l : Launch} {e : Env} {s : State} {m : MethodId} {args : Array Value} {below : List Frame} {meth : Method} {c : Code} {G : ka_G} (hI : ka_I G) (C0 : ka_C p s m args meth c cX9_mostUsed 10 "GlossRowsModel" (some .int)) (hK : ka_Kn G s) {Q : Int32 → ka_S → Prop} : ∀ (n : Nat) (σ : ka_S) (v1 : Int32) (v2 : Int32) (v3 : Int64) (v5 : Int32), kw_X9_mostUsed_15 Q n σ v1 v2 v3 v5 → ∀ (H : Heap) (locs : List Loc), ka_P G σ H → va_S (ka_A G) s.heap H locs → ∀ ls : Array Slot, lv_has ls 10 [(0, .ref (ka_a G (25, 0, 0))), (1, .int v1), (2, .int v2), (3, .long v3), (5, .int v5)] → W p l e rm_X9_mostUsed s m args below meth c H locs 0 0 (MQ below (va_Qi Q (ka_B G) (ka_A G)) args s 0 0 (ka_A G)) (F0 m 15 ls []) := by
  obtain ⟨hx, hb, -, hml, hown, hts, -⟩ := id C0
  intro n
  induction n with
  | zero =>
    intro σ v1 v2 v3 v5 hq
    rw [kw_X9_mostUsed_15] at hq
    exact hq.elim
  | succ n ih =>
    intro σ v1 v2 v3 v5 hq H locs hP hS ls hl
    rw [kw_X9_mostUsed_15] at hq
    refine lv_iload hx hb dX9_mostUsed_15 (lv_at hl 4 rfl) ?_
    refine lv_aload_n hx hb dX9_mostUsed_17 rfl (lv_at hl 0 rfl) ?_
    refine kg_X9_now C0 hK hP (kv_s (by decide) (by decide)) kq_960 dX9_mostUsed_18 ?_
    refine kr_Si (As := [.ref (ka_a G (37, 0, 0))]) (rest := [.int v5]) C0 hK hP hS hl (km_X9_many l hI kl_37 hq) kd_X9_many kq_1077 ⟨rfl, rfl, Nat.le_of_ble_eq_true rfl, Nat.le_of_ble_eq_true rfl⟩ rfl (Nat.le_of_ble_eq_true rfl) dX9_mostUsed_21 ⟨Nat.zero_le _, Nat.zero_le _⟩ (fun r4 σ3 H locs hq hP hS => ?_)
    refine lv_icmp_ge (tgt := 112) hx hb dX9_mostUsed_24 (by decide) (fun hc => ?_) (fun hc => ?_)
    · have hq := hq.1 hc
      refine lv_iload_n hx hb dX9_mostUsed_112 rfl (lv_at hl 1 rfl) ?_
      exact kr_iret C0 hK hP hS hq dX9_mostUsed_113
    · have hq := hq.2 hc
      refine lv_iconst (v := 0) hx hb dX9_mostUsed_27 (by decide) ?_
      refine lv_istore (lv' := [(6, .int (0 : Int32)), (0, .ref (ka_a G (25, 0, 0))), (1, .int v1), (2, .int v2), (3, .long v3), (5, .int v5)]) hx hb dX9_mostUsed_28 hl (by decide) rfl (fun ls hl => ?_)
      obtain ⟨n5, hq⟩ := hq
      exact kb_X9_mostUsed_30 hI C0 hK ih n5 σ3 v1 v2 v3 v5 (0 : Int32) hq H locs hP hS ls (lv_sub hl [1, 2, 3, 4, 5, 0] rfl)
set_option maxHeartbeats 4000000 in
set_option maxRecDepth 100000 in
theorem km_X9_mostUsed (l : Launch) {G : ka_G} (hI : ka_I G) {σ : ka_S} {Q : Int32 → ka_S → Prop} (hq : kw_X9_mostUsed σ Q) : kc_i l yX9_mostUsed (kw_ yX9_mostUsed cX9_mostUsed 10 (some .int)) rm_X9_mostUsed G [.ref (ka_a G (25, 0, 0))] σ Q := by
  refine ka_of "GlossRowsModel" rfl (by decide) (Nat.le_of_ble_eq_true rfl) ?_
  intro p e s m below meth c C0 hK H locs hP hS ls hl
  obtain ⟨hx, hb, -, hml, hown, hts, -⟩ := id C0
  have hl : lv_has ls 10 [(0, .ref (ka_a G (25, 0, 0)))] := hl
  unfold kw_X9_mostUsed at hq
  refine lv_aload_n hx hb dX9_mostUsed_0 rfl (lv_at hl 0 rfl) ?_
  refine lv_iconst (v := 0) hx hb dX9_mostUsed_1 (by decide) ?_
  refine kp_X9_refusal C0 hK hI hP hS (kv_s (by decide) (by decide)) kq_955 dX9_mostUsed_2 (fun H locs hP hS => ?_)
  obtain ⟨σ1, eσ1⟩ : ∃ z : ka_S, z = ka_wI σ (25, 0, 0) 0 (0 : Int32) := ⟨_, rfl⟩
  rw [← eσ1] at hP
  have hq := hq σ1 eσ1
  refine lv_bipush (v := -9) hx hb dX9_mostUsed_5 (by decide) ?_
  refine lv_istore_n (lv' := [(1, .int (-9 : Int32)), (0, .ref (ka_a G (25, 0, 0)))]) hx hb dX9_mostUsed_7 rfl hl (by decide) rfl (fun ls hl => ?_)
  refine lv_iconst (v := 0) hx hb dX9_mostUsed_8 (by decide) ?_
  refine lv_istore_n (lv' := [(2, .int (0 : Int32)), (1, .int (-9 : Int32)), (0, .ref (ka_a G (25, 0, 0)))]) hx hb dX9_mostUsed_9 rfl hl (by decide) rfl (fun ls hl => ?_)
  refine lv_lconst (v := 0) hx hb dX9_mostUsed_10 (by decide) ?_
  refine lv_lstore_n (lv' := [(3, .long (0 : Int64)), (2, .int (0 : Int32)), (1, .int (-9 : Int32)), (0, .ref (ka_a G (25, 0, 0)))]) hx hb dX9_mostUsed_11 rfl hl (by decide) rfl (fun ls hl => ?_)
  refine lv_iconst (v := 0) hx hb dX9_mostUsed_12 (by decide) ?_
  refine lv_istore (lv' := [(5, .int (0 : Int32)), (3, .long (0 : Int64)), (2, .int (0 : Int32)), (1, .int (-9 : Int32)), (0, .ref (ka_a G (25, 0, 0)))]) hx hb dX9_mostUsed_13 hl (by decide) rfl (fun ls hl => ?_)
  obtain ⟨n2, hq⟩ := hq
  exact kb_X9_mostUsed_15 hI C0 hK n2 σ1 (-9 : Int32) (0 : Int32) (0 : Int64) (0 : Int32) hq H locs hP hS ls (lv_sub hl [4, 3, 2, 1, 0] rfl)
/-! GlossRowsModel.widthFor(I)I -/
def rm_X9_widthFor : Room := { frames := 5, cells := 0, slots := 0, locals := 127 }
def kw_X9_widthFor_29 (Q : Int32 → ka_S → Prop) : Nat → ka_S → Int32 → Int32 → Prop
  | 0, _, _, _ => False
  | n + 1, σ, v1, v2 => ((60 : Int32) < v2 → Q (-9 : Int32) σ) ∧
    (¬ (60 : Int32) < v2 → vp_in (4 : Int32) 253 ∧
      kw_X9_layOut σ (37, 0, 0) v2 ((σ.2 (37, 0, 0) (4 : Int32).toNatClampNeg).toInt32) (fun σ7 => 
      (v1 < (σ7.1 (25, 0, 0) 12) → ∀ x8 : Int32, x8 = v2 + (1 : Int32) →
        (kw_X9_widthFor_29 Q n) σ7 v1 x8) ∧
      (¬ v1 < (σ7.1 (25, 0, 0) 12) → Q v2 σ7)))
def kw_X9_widthFor_18 (Q : Int32 → ka_S → Prop) (σ : ka_S) (v1 : Int32) (t1 : Int32) : Prop := kw_X9_refused σ t1 (fun r4 σ3 => 
  (r4 = (0 : Int32) → ∃ n5 : Nat, kw_X9_widthFor_29 Q n5 σ3 v1 (10 : Int32)) ∧
  (¬ r4 = (0 : Int32) → Q (0 : Int32) σ3))
def kw_X9_widthFor (σ : ka_S) (v1 : Int32) (Q : Int32 → ka_S → Prop) : Prop := kw_X9_in σ v1.toInt64 (0 : Int64) (99 : Int64) (fun r2 σ1 => 
  (r2 = (0 : Int32) → kw_X9_widthFor_18 Q σ1 v1 (1 : Int32)) ∧
  (¬ r2 = (0 : Int32) → kw_X9_widthFor_18 Q σ1 v1 (0 : Int32)))
set_option maxHeartbeats 4000000 in
set_option maxRecDepth 100000 in
theorem kb_X9_widthFor_29 {p : Program} {l : Launch} {e : Env} {s : State} {m : MethodId} {args : Array Value} {below : List Frame} {meth : Method} {c : Code} {G : ka_G} (hI : ka_I G) (C0 : ka_C p s m args meth c cX9_widthFor 3 "GlossRowsModel" (some .int)) (hK : ka_Kn G s) {Q : Int32 → ka_S → Prop} : ∀ (n : Nat) (σ : ka_S) (v1 : Int32) (v2 : Int32), kw_X9_widthFor_29 Q n σ v1 v2 → ∀ (H : Heap) (locs : List Loc), ka_P G σ H → va_S (ka_A G) s.heap H locs → ∀ ls : Array Slot, lv_has ls 3 [(0, .ref (ka_a G (25, 0, 0))), (1, .int v1), (2, .int v2)] → W p l e rm_X9_widthFor s m args below meth c H locs 0 0 (MQ below (va_Qi Q (ka_B G) (ka_A G)) args s 0 0 (ka_A G)) (F0 m 29 ls []) := by
  obtain ⟨hx, hb, -, hml, hown, hts, -⟩ := id C0
  intro n
  induction n with
  | zero =>
    intro σ v1 v2 hq
    rw [kw_X9_widthFor_29] at hq
    exact hq.elim
  | succ n ih =>
    intro σ v1 v2 hq H locs hP hS ls hl
    rw [kw_X9_widthFor_29] at hq
    refine lv_iload_n hx hb dX9_widthFor_29 rfl (lv_at hl 2 rfl) ?_
    refine lv_bipush (v := 60) hx hb dX9_widthFor_30 (by decide) ?_
    refine lv_icmp_gt (tgt := 67) hx hb dX9_widthFor_32 (by decide) (fun hc => ?_) (fun hc => ?_)
    · have hq := hq.1 hc
      refine lv_bipush (v := -9) hx hb dX9_widthFor_67 (by decide) ?_
      exact kr_iret C0 hK hP hS hq dX9_widthFor_69
    · have hq := hq.2 hc
      refine lv_aload_n hx hb dX9_widthFor_35 rfl (lv_at hl 0 rfl) ?_
      refine lv_aload_n hx hb dX9_widthFor_36 rfl (lv_at hl 0 rfl) ?_
      refine kg_X9_now C0 hK hP (kv_s (by decide) (by decide)) kq_960 dX9_widthFor_37 ?_
      refine lv_iload_n hx hb dX9_widthFor_40 rfl (lv_at hl 2 rfl) ?_
      refine lv_aload_n hx hb dX9_widthFor_41 rfl (lv_at hl 0 rfl) ?_
      refine kg_X9_now C0 hK hP (kv_s (by decide) (by decide)) kq_960 dX9_widthFor_42 ?_
      refine lv_iconst (v := 4) hx hb dX9_widthFor_45 (by decide) ?_
      obtain ⟨b6, hq⟩ := hq
      refine kr_lald C0 hK hP (kv_s (by decide) (by decide)) rfl b6 dX9_widthFor_46 ?_
      refine lv_l2i hx hb dX9_widthFor_47 rfl ?_
      refine kr_Vv (k := (25, 0, 0)) (As := [.ref (ka_a G (37, 0, 0)), .int v2, .int ((σ.2 (37, 0, 0) (4 : Int32).toNatClampNeg).toInt32)]) (rest := []) C0 hK hP hS hl (km_X9_layOut l hI kl_37 hq) kd_X9_layOut kq_1092 (kv_s (by decide) (by decide)) rfl rfl rfl ⟨rfl, rfl, Nat.le_of_ble_eq_true rfl, Nat.le_of_ble_eq_true rfl⟩ rfl (Nat.le_of_ble_eq_true rfl) dX9_widthFor_48 ⟨Nat.zero_le _, Nat.zero_le _⟩ (fun σ7 H locs hq hP hS => ?_)
      refine lv_aload_n hx hb dX9_widthFor_51 rfl (lv_at hl 0 rfl) ?_
      refine kg_X9_rows C0 hK hP (kv_s (by decide) (by decide)) kq_967 dX9_widthFor_52 ?_
      refine lv_iload_n hx hb dX9_widthFor_55 rfl (lv_at hl 1 rfl) ?_
      refine lv_icmp_gt (tgt := 61) hx hb dX9_widthFor_56 (by decide) (fun hc => ?_) (fun hc => ?_)
      · have hq := hq.1 hc
        obtain ⟨x8, ex8⟩ : ∃ y : Int32, y = v2 + (1 : Int32) := ⟨_, rfl⟩
        have hq := hq x8 ex8
        refine lv_iinc (v := x8) (lv' := [(2, .int x8), (0, .ref (ka_a G (25, 0, 0))), (1, .int v1)]) hx hb dX9_widthFor_61 hl (k := 2) rfl (by rw [ex8]; rfl) (by decide) rfl (fun ls hl => ?_)
        refine lv_goto (tgt := 29) hx hb dX9_widthFor_64 (by decide) ?_
        exact ih σ7 v1 x8 hq H locs hP hS ls (lv_sub hl [1, 2, 0] rfl)
      · have hq := hq.2 hc
        refine lv_iload_n hx hb dX9_widthFor_59 rfl (lv_at hl 2 rfl) ?_
        exact kr_iret C0 hK hP hS hq dX9_widthFor_60
set_option maxHeartbeats 4000000 in
set_option maxRecDepth 100000 in
theorem kb_X9_widthFor_18 {p : Program} {l : Launch} {e : Env} {s : State} {m : MethodId} {args : Array Value} {below : List Frame} {meth : Method} {c : Code} {G : ka_G} (hI : ka_I G) (C0 : ka_C p s m args meth c cX9_widthFor 3 "GlossRowsModel" (some .int)) (hK : ka_Kn G s) {Q : Int32 → ka_S → Prop} : ∀ (σ : ka_S) (v1 : Int32) (t1 : Int32), kw_X9_widthFor_18 Q σ v1 t1 → ∀ (H : Heap) (locs : List Loc), ka_P G σ H → va_S (ka_A G) s.heap H locs → ∀ ls : Array Slot, lv_has ls 3 [(0, .ref (ka_a G (25, 0, 0))), (1, .int v1)] → W p l e rm_X9_widthFor s m args below meth c H locs 0 0 (MQ below (va_Qi Q (ka_B G) (ka_A G)) args s 0 0 (ka_A G)) (F0 m 18 ls [.int t1, .ref (ka_a G (25, 0, 0))]) := by
  obtain ⟨hx, hb, -, hml, hown, hts, -⟩ := id C0
  intro σ v1 t1 hq H locs hP hS ls hl
  unfold kw_X9_widthFor_18 at hq
  refine kr_Vi (k := (25, 0, 0)) (As := [.int t1]) (rest := []) C0 hK hP hS hl (km_X9_refused l hI hq) kd_X9_refused kq_1034 (kv_s (by decide) (by decide)) rfl rfl rfl ⟨rfl, rfl, Nat.le_of_ble_eq_true rfl, Nat.le_of_ble_eq_true rfl⟩ rfl (Nat.le_of_ble_eq_true rfl) dX9_widthFor_18 ⟨Nat.zero_le _, Nat.zero_le _⟩ (fun r4 σ3 H locs hq hP hS => ?_)
  refine lv_if_eq (tgt := 26) hx hb dX9_widthFor_21 (by decide) (fun hc => ?_) (fun hc => ?_)
  · have hq := hq.1 hc
    refine lv_bipush (v := 10) hx hb dX9_widthFor_26 (by decide) ?_
    refine lv_istore_n (lv' := [(2, .int (10 : Int32)), (0, .ref (ka_a G (25, 0, 0))), (1, .int v1)]) hx hb dX9_widthFor_28 rfl hl (by decide) rfl (fun ls hl => ?_)
    obtain ⟨n5, hq⟩ := hq
    exact kb_X9_widthFor_29 hI C0 hK n5 σ3 v1 (10 : Int32) hq H locs hP hS ls (lv_sub hl [1, 2, 0] rfl)
  · have hq := hq.2 hc
    refine lv_iconst (v := 0) hx hb dX9_widthFor_24 (by decide) ?_
    exact kr_iret C0 hK hP hS hq dX9_widthFor_25
set_option maxHeartbeats 4000000 in
set_option maxRecDepth 100000 in
theorem km_X9_widthFor (l : Launch) {G : ka_G} (hI : ka_I G) {σ : ka_S} {v1 : Int32} {Q : Int32 → ka_S → Prop} (hq : kw_X9_widthFor σ v1 Q) : kc_i l yX9_widthFor (kw_ yX9_widthFor cX9_widthFor 3 (some .int)) rm_X9_widthFor G [.ref (ka_a G (25, 0, 0)), .int v1] σ Q := by
  refine ka_of "GlossRowsModel" rfl (by decide) (Nat.le_of_ble_eq_true rfl) ?_
  intro p e s m below meth c C0 hK H locs hP hS ls hl
  obtain ⟨hx, hb, -, hml, hown, hts, -⟩ := id C0
  have hl : lv_has ls 3 [(0, .ref (ka_a G (25, 0, 0))), (1, .int v1)] := hl
  unfold kw_X9_widthFor at hq
  refine lv_aload_n hx hb dX9_widthFor_0 rfl (lv_at hl 0 rfl) ?_
  refine lv_iload_n hx hb dX9_widthFor_1 rfl (lv_at hl 1 rfl) ?_
  refine lv_i2l hx hb dX9_widthFor_2 rfl ?_
  refine lv_lconst (v := 0) hx hb dX9_widthFor_3 (by decide) ?_
  refine lv_ldc2 hx hb hown (hts _ kq_1303) dX9_widthFor_4 ?_
  refine kr_Si (As := [.long v1.toInt64, .long (0 : Int64), .long (99 : Int64)]) (rest := [.ref (ka_a G (25, 0, 0))]) C0 hK hP hS hl (km_X9_in l hI hq) kd_X9_in kq_1031 ⟨rfl, rfl, Nat.le_of_ble_eq_true rfl, Nat.le_of_ble_eq_true rfl⟩ rfl (Nat.le_of_ble_eq_true rfl) dX9_widthFor_7 ⟨Nat.zero_le _, Nat.zero_le _⟩ (fun r2 σ1 H locs hq hP hS => ?_)
  refine lv_if_eq (tgt := 17) hx hb dX9_widthFor_10 (by decide) (fun hc => ?_) (fun hc => ?_)
  · have hq := hq.1 hc
    refine lv_iconst (v := 1) hx hb dX9_widthFor_17 (by decide) ?_
    exact kb_X9_widthFor_18 hI C0 hK σ1 v1 (1 : Int32) hq H locs hP hS ls (lv_sub hl [0, 1] rfl)
  · have hq := hq.2 hc
    refine lv_iconst (v := 0) hx hb dX9_widthFor_13 (by decide) ?_
    refine lv_goto (tgt := 18) hx hb dX9_widthFor_14 (by decide) ?_
    exact kb_X9_widthFor_18 hI C0 hK σ1 v1 (0 : Int32) hq H locs hP hS ls (lv_sub hl [0, 1] rfl)
/-! GlossRowsModel.empty()I -/
def rm_X9_empty : Room := { frames := 6, cells := 0, slots := 0, locals := 147 }
def kw_X9_empty_13 (Q : Int32 → ka_S → Prop) : Nat → ka_S → Int32 → Int32 → Prop
  | 0, _, _, _ => False
  | n + 1, σ, v1, v2 => ((σ.1 (25, 0, 0) 11) ≤ v2 → Q v1 σ) ∧
    (¬ (σ.1 (25, 0, 0) 11) ≤ v2 → vp_in v2 12 ∧
      vp_in (2 : Int32) 253 ∧
      ((σ.2 (37, 0, 0) (2 : Int32).toNatClampNeg) < ((σ.1 (31, 0, 0) v2.toNatClampNeg).toInt64) → ∀ x6 : Int32, x6 = (v1 + (0 : Int32)) → 
        ∀ x7 : Int32, x7 = v2 + (1 : Int32) →
        (kw_X9_empty_13 Q n) σ x6 x7) ∧
      (¬ (σ.2 (37, 0, 0) (2 : Int32).toNatClampNeg) < ((σ.1 (31, 0, 0) v2.toNatClampNeg).toInt64) → vp_in (2 : Int32) 253 ∧
        vp_in v2 12 ∧
        ∀ x10 : Int32, x10 = (v1 + (((σ.2 (37, 0, 0) (2 : Int32).toNatClampNeg).toInt32) - (σ.1 (31, 0, 0) v2.toNatClampNeg))) → 
        ∀ x11 : Int32, x11 = v2 + (1 : Int32) →
        (kw_X9_empty_13 Q n) σ x10 x11))
def kw_X9_empty (σ : ka_S) (Q : Int32 → ka_S → Prop) : Prop := ∀ σ1 : ka_S, σ1 = ka_wI σ (25, 0, 0) 0 (0 : Int32) →
  kw_X9_layNow σ1 (fun σ2 => 
  ∃ n3 : Nat, kw_X9_empty_13 Q n3 σ2 (0 : Int32) (0 : Int32))
set_option maxHeartbeats 4000000 in
set_option maxRecDepth 100000 in
theorem kb_X9_empty_13 {p : Program} {l : Launch} {e : Env} {s : State} {m : MethodId} {args : Array Value} {below : List Frame} {meth : Method} {c : Code} {G : ka_G} (hI : ka_I G) (C0 : ka_C p s m args meth c cX9_empty 3 "GlossRowsModel" (some .int)) (hK : ka_Kn G s) {Q : Int32 → ka_S → Prop} : ∀ (n : Nat) (σ : ka_S) (v1 : Int32) (v2 : Int32), kw_X9_empty_13 Q n σ v1 v2 → ∀ (H : Heap) (locs : List Loc), ka_P G σ H → va_S (ka_A G) s.heap H locs → ∀ ls : Array Slot, lv_has ls 3 [(0, .ref (ka_a G (25, 0, 0))), (1, .int v1), (2, .int v2)] → W p l e rm_X9_empty s m args below meth c H locs 0 0 (MQ below (va_Qi Q (ka_B G) (ka_A G)) args s 0 0 (ka_A G)) (F0 m 13 ls []) := by
  obtain ⟨hx, hb, -, hml, hown, hts, -⟩ := id C0
  intro n
  induction n with
  | zero =>
    intro σ v1 v2 hq
    rw [kw_X9_empty_13] at hq
    exact hq.elim
  | succ n ih =>
    intro σ v1 v2 hq H locs hP hS ls hl
    rw [kw_X9_empty_13] at hq
    refine lv_iload_n hx hb dX9_empty_13 rfl (lv_at hl 2 rfl) ?_
    refine lv_aload_n hx hb dX9_empty_14 rfl (lv_at hl 0 rfl) ?_
    refine kg_X9_lines C0 hK hP (kv_s (by decide) (by decide)) kq_966 dX9_empty_15 ?_
    refine lv_icmp_ge (tgt := 65) hx hb dX9_empty_18 (by decide) (fun hc => ?_) (fun hc => ?_)
    · have hq := hq.1 hc
      refine lv_iload_n hx hb dX9_empty_65 rfl (lv_at hl 1 rfl) ?_
      exact kr_iret C0 hK hP hS hq dX9_empty_66
    · have hq := hq.2 hc
      refine lv_iload_n hx hb dX9_empty_21 rfl (lv_at hl 1 rfl) ?_
      refine lv_aload_n hx hb dX9_empty_22 rfl (lv_at hl 0 rfl) ?_
      refine kg_X9_lengthOf C0 hK hP (kv_s (by decide) (by decide)) kq_973 dX9_empty_23 ?_
      refine lv_iload_n hx hb dX9_empty_26 rfl (lv_at hl 2 rfl) ?_
      obtain ⟨b4, hq⟩ := hq
      refine kr_iald C0 hK hP (kv_s (by decide) (by decide)) rfl b4 dX9_empty_27 ?_
      refine lv_i2l hx hb dX9_empty_28 rfl ?_
      refine lv_aload_n hx hb dX9_empty_29 rfl (lv_at hl 0 rfl) ?_
      refine kg_X9_now C0 hK hP (kv_s (by decide) (by decide)) kq_960 dX9_empty_30 ?_
      refine lv_iconst (v := 2) hx hb dX9_empty_33 (by decide) ?_
      obtain ⟨b5, hq⟩ := hq
      refine kr_lald C0 hK hP (kv_s (by decide) (by decide)) rfl b5 dX9_empty_34 ?_
      refine kr_cgt (tgt := 56) C0 dX9_empty_35 dX9_empty_36 (by decide) (fun hc => ?_) (fun hc => ?_)
      · have hq := hq.1 hc
        refine lv_iconst (v := 0) hx hb dX9_empty_56 (by decide) ?_
        refine lv_iadd hx hb dX9_empty_57 ?_
        refine lv_topi (fun x6 ex6 => ?_)
        have hq := hq x6 ex6
        refine lv_istore_n (lv' := [(1, .int x6), (0, .ref (ka_a G (25, 0, 0))), (2, .int v2)]) hx hb dX9_empty_58 rfl hl (by decide) rfl (fun ls hl => ?_)
        obtain ⟨x7, ex7⟩ : ∃ y : Int32, y = v2 + (1 : Int32) := ⟨_, rfl⟩
        have hq := hq x7 ex7
        refine lv_iinc (v := x7) (lv' := [(2, .int x7), (1, .int x6), (0, .ref (ka_a G (25, 0, 0)))]) hx hb dX9_empty_59 hl (k := 2) rfl (by rw [ex7]; rfl) (by decide) rfl (fun ls hl => ?_)
        refine lv_goto (tgt := 13) hx hb dX9_empty_62 (by decide) ?_
        exact ih σ x6 x7 hq H locs hP hS ls (lv_sub hl [2, 1, 0] rfl)
      · have hq := hq.2 hc
        refine lv_aload_n hx hb dX9_empty_39 rfl (lv_at hl 0 rfl) ?_
        refine kg_X9_now C0 hK hP (kv_s (by decide) (by decide)) kq_960 dX9_empty_40 ?_
        refine lv_iconst (v := 2) hx hb dX9_empty_43 (by decide) ?_
        obtain ⟨b8, hq⟩ := hq
        refine kr_lald C0 hK hP (kv_s (by decide) (by decide)) rfl b8 dX9_empty_44 ?_
        refine lv_l2i hx hb dX9_empty_45 rfl ?_
        refine lv_aload_n hx hb dX9_empty_46 rfl (lv_at hl 0 rfl) ?_
        refine kg_X9_lengthOf C0 hK hP (kv_s (by decide) (by decide)) kq_973 dX9_empty_47 ?_
        refine lv_iload_n hx hb dX9_empty_50 rfl (lv_at hl 2 rfl) ?_
        obtain ⟨b9, hq⟩ := hq
        refine kr_iald C0 hK hP (kv_s (by decide) (by decide)) rfl b9 dX9_empty_51 ?_
        refine lv_isub hx hb dX9_empty_52 ?_
        refine lv_goto (tgt := 57) hx hb dX9_empty_53 (by decide) ?_
        refine lv_iadd hx hb dX9_empty_57 ?_
        refine lv_topi (fun x10 ex10 => ?_)
        have hq := hq x10 ex10
        refine lv_istore_n (lv' := [(1, .int x10), (0, .ref (ka_a G (25, 0, 0))), (2, .int v2)]) hx hb dX9_empty_58 rfl hl (by decide) rfl (fun ls hl => ?_)
        obtain ⟨x11, ex11⟩ : ∃ y : Int32, y = v2 + (1 : Int32) := ⟨_, rfl⟩
        have hq := hq x11 ex11
        refine lv_iinc (v := x11) (lv' := [(2, .int x11), (1, .int x10), (0, .ref (ka_a G (25, 0, 0)))]) hx hb dX9_empty_59 hl (k := 2) rfl (by rw [ex11]; rfl) (by decide) rfl (fun ls hl => ?_)
        refine lv_goto (tgt := 13) hx hb dX9_empty_62 (by decide) ?_
        exact ih σ x10 x11 hq H locs hP hS ls (lv_sub hl [2, 1, 0] rfl)
set_option maxHeartbeats 4000000 in
set_option maxRecDepth 100000 in
theorem km_X9_empty (l : Launch) {G : ka_G} (hI : ka_I G) {σ : ka_S} {Q : Int32 → ka_S → Prop} (hq : kw_X9_empty σ Q) : kc_i l yX9_empty (kw_ yX9_empty cX9_empty 3 (some .int)) rm_X9_empty G [.ref (ka_a G (25, 0, 0))] σ Q := by
  refine ka_of "GlossRowsModel" rfl (by decide) (Nat.le_of_ble_eq_true rfl) ?_
  intro p e s m below meth c C0 hK H locs hP hS ls hl
  obtain ⟨hx, hb, -, hml, hown, hts, -⟩ := id C0
  have hl : lv_has ls 3 [(0, .ref (ka_a G (25, 0, 0)))] := hl
  unfold kw_X9_empty at hq
  refine lv_aload_n hx hb dX9_empty_0 rfl (lv_at hl 0 rfl) ?_
  refine lv_iconst (v := 0) hx hb dX9_empty_1 (by decide) ?_
  refine kp_X9_refusal C0 hK hI hP hS (kv_s (by decide) (by decide)) kq_955 dX9_empty_2 (fun H locs hP hS => ?_)
  obtain ⟨σ1, eσ1⟩ : ∃ z : ka_S, z = ka_wI σ (25, 0, 0) 0 (0 : Int32) := ⟨_, rfl⟩
  rw [← eσ1] at hP
  have hq := hq σ1 eσ1
  refine lv_aload_n hx hb dX9_empty_5 rfl (lv_at hl 0 rfl) ?_
  refine kr_Vv (k := (25, 0, 0)) (As := []) (rest := []) C0 hK hP hS hl (km_X9_layNow l hI hq) kd_X9_layNow kq_1088 (kv_s (by decide) (by decide)) rfl rfl rfl ⟨rfl, rfl, Nat.le_of_ble_eq_true rfl, Nat.le_of_ble_eq_true rfl⟩ rfl (Nat.le_of_ble_eq_true rfl) dX9_empty_6 ⟨Nat.zero_le _, Nat.zero_le _⟩ (fun σ2 H locs hq hP hS => ?_)
  refine lv_iconst (v := 0) hx hb dX9_empty_9 (by decide) ?_
  refine lv_istore_n (lv' := [(1, .int (0 : Int32)), (0, .ref (ka_a G (25, 0, 0)))]) hx hb dX9_empty_10 rfl hl (by decide) rfl (fun ls hl => ?_)
  refine lv_iconst (v := 0) hx hb dX9_empty_11 (by decide) ?_
  refine lv_istore_n (lv' := [(2, .int (0 : Int32)), (1, .int (0 : Int32)), (0, .ref (ka_a G (25, 0, 0)))]) hx hb dX9_empty_12 rfl hl (by decide) rfl (fun ls hl => ?_)
  obtain ⟨n3, hq⟩ := hq
  exact kb_X9_empty_13 hI C0 hK n3 σ2 (0 : Int32) (0 : Int32) hq H locs hP hS ls (lv_sub hl [2, 1, 0] rfl)
/-! GlossRowsModel.rowsWith(II)I -/
def rm_X9_rowsWith : Room := { frames := 5, cells := 0, slots := 0, locals := 127 }
def kw_X9_rowsWith_24 (Q : Int32 → ka_S → Prop) (σ : ka_S) (v1 : Int32) (v2 : Int32) (t1 : Int32) : Prop := kw_X9_refused σ t1 (fun r6 σ5 => 
  (r6 = (0 : Int32) → kw_X9_layOut σ5 (37, 0, 0) v1 v2 (fun σ7 => 
    Q (σ7.1 (25, 0, 0) 12) σ7)) ∧
  (¬ r6 = (0 : Int32) → Q (0 : Int32) σ5))
def kw_X9_rowsWith_23 (Q : Int32 → ka_S → Prop) (σ : ka_S) (v1 : Int32) (v2 : Int32) : Prop := kw_X9_rowsWith_24 Q σ v1 v2 (1 : Int32)
def kw_X9_rowsWith (σ : ka_S) (v1 : Int32) (v2 : Int32) (Q : Int32 → ka_S → Prop) : Prop := kw_X9_isSetting σ (9 : Int32) v1 (fun r2 σ1 => 
  (r2 = (0 : Int32) → kw_X9_rowsWith_23 Q σ1 v1 v2) ∧
  (¬ r2 = (0 : Int32) → kw_X9_isSetting σ1 (11 : Int32) v2 (fun r4 σ3 => 
    (r4 = (0 : Int32) → kw_X9_rowsWith_23 Q σ3 v1 v2) ∧
    (¬ r4 = (0 : Int32) → kw_X9_rowsWith_24 Q σ3 v1 v2 (0 : Int32)))))
set_option maxHeartbeats 4000000 in
set_option maxRecDepth 100000 in
theorem kb_X9_rowsWith_24 {p : Program} {l : Launch} {e : Env} {s : State} {m : MethodId} {args : Array Value} {below : List Frame} {meth : Method} {c : Code} {G : ka_G} (hI : ka_I G) (C0 : ka_C p s m args meth c cX9_rowsWith 3 "GlossRowsModel" (some .int)) (hK : ka_Kn G s) {Q : Int32 → ka_S → Prop} : ∀ (σ : ka_S) (v1 : Int32) (v2 : Int32) (t1 : Int32), kw_X9_rowsWith_24 Q σ v1 v2 t1 → ∀ (H : Heap) (locs : List Loc), ka_P G σ H → va_S (ka_A G) s.heap H locs → ∀ ls : Array Slot, lv_has ls 3 [(0, .ref (ka_a G (25, 0, 0))), (1, .int v1), (2, .int v2)] → W p l e rm_X9_rowsWith s m args below meth c H locs 0 0 (MQ below (va_Qi Q (ka_B G) (ka_A G)) args s 0 0 (ka_A G)) (F0 m 24 ls [.int t1, .ref (ka_a G (25, 0, 0))]) := by
  obtain ⟨hx, hb, -, hml, hown, hts, -⟩ := id C0
  intro σ v1 v2 t1 hq H locs hP hS ls hl
  unfold kw_X9_rowsWith_24 at hq
  refine kr_Vi (k := (25, 0, 0)) (As := [.int t1]) (rest := []) C0 hK hP hS hl (km_X9_refused l hI hq) kd_X9_refused kq_1034 (kv_s (by decide) (by decide)) rfl rfl rfl ⟨rfl, rfl, Nat.le_of_ble_eq_true rfl, Nat.le_of_ble_eq_true rfl⟩ rfl (Nat.le_of_ble_eq_true rfl) dX9_rowsWith_24 ⟨Nat.zero_le _, Nat.zero_le _⟩ (fun r6 σ5 H locs hq hP hS => ?_)
  refine lv_if_eq (tgt := 32) hx hb dX9_rowsWith_27 (by decide) (fun hc => ?_) (fun hc => ?_)
  · have hq := hq.1 hc
    refine lv_aload_n hx hb dX9_rowsWith_32 rfl (lv_at hl 0 rfl) ?_
    refine lv_aload_n hx hb dX9_rowsWith_33 rfl (lv_at hl 0 rfl) ?_
    refine kg_X9_now C0 hK hP (kv_s (by decide) (by decide)) kq_960 dX9_rowsWith_34 ?_
    refine lv_iload_n hx hb dX9_rowsWith_37 rfl (lv_at hl 1 rfl) ?_
    refine lv_iload_n hx hb dX9_rowsWith_38 rfl (lv_at hl 2 rfl) ?_
    refine kr_Vv (k := (25, 0, 0)) (As := [.ref (ka_a G (37, 0, 0)), .int v1, .int v2]) (rest := []) C0 hK hP hS hl (km_X9_layOut l hI kl_37 hq) kd_X9_layOut kq_1092 (kv_s (by decide) (by decide)) rfl rfl rfl ⟨rfl, rfl, Nat.le_of_ble_eq_true rfl, Nat.le_of_ble_eq_true rfl⟩ rfl (Nat.le_of_ble_eq_true rfl) dX9_rowsWith_39 ⟨Nat.zero_le _, Nat.zero_le _⟩ (fun σ7 H locs hq hP hS => ?_)
    refine lv_aload_n hx hb dX9_rowsWith_42 rfl (lv_at hl 0 rfl) ?_
    refine kg_X9_rows C0 hK hP (kv_s (by decide) (by decide)) kq_967 dX9_rowsWith_43 ?_
    exact kr_iret C0 hK hP hS hq dX9_rowsWith_46
  · have hq := hq.2 hc
    refine lv_iconst (v := 0) hx hb dX9_rowsWith_30 (by decide) ?_
    exact kr_iret C0 hK hP hS hq dX9_rowsWith_31
set_option maxHeartbeats 4000000 in
set_option maxRecDepth 100000 in
theorem kb_X9_rowsWith_23 {p : Program} {l : Launch} {e : Env} {s : State} {m : MethodId} {args : Array Value} {below : List Frame} {meth : Method} {c : Code} {G : ka_G} (hI : ka_I G) (C0 : ka_C p s m args meth c cX9_rowsWith 3 "GlossRowsModel" (some .int)) (hK : ka_Kn G s) {Q : Int32 → ka_S → Prop} : ∀ (σ : ka_S) (v1 : Int32) (v2 : Int32), kw_X9_rowsWith_23 Q σ v1 v2 → ∀ (H : Heap) (locs : List Loc), ka_P G σ H → va_S (ka_A G) s.heap H locs → ∀ ls : Array Slot, lv_has ls 3 [(0, .ref (ka_a G (25, 0, 0))), (1, .int v1), (2, .int v2)] → W p l e rm_X9_rowsWith s m args below meth c H locs 0 0 (MQ below (va_Qi Q (ka_B G) (ka_A G)) args s 0 0 (ka_A G)) (F0 m 23 ls [.ref (ka_a G (25, 0, 0))]) := by
  obtain ⟨hx, hb, -, hml, hown, hts, -⟩ := id C0
  intro σ v1 v2 hq H locs hP hS ls hl
  unfold kw_X9_rowsWith_23 at hq
  refine lv_iconst (v := 1) hx hb dX9_rowsWith_23 (by decide) ?_
  exact kb_X9_rowsWith_24 hI C0 hK σ v1 v2 (1 : Int32) hq H locs hP hS ls (lv_sub hl [0, 1, 2] rfl)
set_option maxHeartbeats 4000000 in
set_option maxRecDepth 100000 in
theorem km_X9_rowsWith (l : Launch) {G : ka_G} (hI : ka_I G) {σ : ka_S} {v1 : Int32} {v2 : Int32} {Q : Int32 → ka_S → Prop} (hq : kw_X9_rowsWith σ v1 v2 Q) : kc_i l yX9_rowsWith (kw_ yX9_rowsWith cX9_rowsWith 3 (some .int)) rm_X9_rowsWith G [.ref (ka_a G (25, 0, 0)), .int v1, .int v2] σ Q := by
  refine ka_of "GlossRowsModel" rfl (by decide) (Nat.le_of_ble_eq_true rfl) ?_
  intro p e s m below meth c C0 hK H locs hP hS ls hl
  obtain ⟨hx, hb, -, hml, hown, hts, -⟩ := id C0
  have hl : lv_has ls 3 [(0, .ref (ka_a G (25, 0, 0))), (1, .int v1), (2, .int v2)] := hl
  unfold kw_X9_rowsWith at hq
  refine lv_aload_n hx hb dX9_rowsWith_0 rfl (lv_at hl 0 rfl) ?_
  refine lv_bipush (v := 9) hx hb dX9_rowsWith_1 (by decide) ?_
  refine lv_iload_n hx hb dX9_rowsWith_3 rfl (lv_at hl 1 rfl) ?_
  refine kr_Si (As := [.int (9 : Int32), .int v1]) (rest := [.ref (ka_a G (25, 0, 0))]) C0 hK hP hS hl (km_X9_isSetting l hI hq) kd_X9_isSetting kq_1256 ⟨rfl, rfl, Nat.le_of_ble_eq_true rfl, Nat.le_of_ble_eq_true rfl⟩ rfl (Nat.le_of_ble_eq_true rfl) dX9_rowsWith_4 ⟨Nat.zero_le _, Nat.zero_le _⟩ (fun r2 σ1 H locs hq hP hS => ?_)
  refine lv_if_eq (tgt := 23) hx hb dX9_rowsWith_7 (by decide) (fun hc => ?_) (fun hc => ?_)
  · have hq := hq.1 hc
    exact kb_X9_rowsWith_23 hI C0 hK σ1 v1 v2 hq H locs hP hS ls (lv_sub hl [0, 1, 2] rfl)
  · have hq := hq.2 hc
    refine lv_bipush (v := 11) hx hb dX9_rowsWith_10 (by decide) ?_
    refine lv_iload_n hx hb dX9_rowsWith_12 rfl (lv_at hl 2 rfl) ?_
    refine kr_Si (As := [.int (11 : Int32), .int v2]) (rest := [.ref (ka_a G (25, 0, 0))]) C0 hK hP hS hl (km_X9_isSetting l hI hq) kd_X9_isSetting kq_1256 ⟨rfl, rfl, Nat.le_of_ble_eq_true rfl, Nat.le_of_ble_eq_true rfl⟩ rfl (Nat.le_of_ble_eq_true rfl) dX9_rowsWith_13 ⟨Nat.zero_le _, Nat.zero_le _⟩ (fun r4 σ3 H locs hq hP hS => ?_)
    refine lv_if_eq (tgt := 23) hx hb dX9_rowsWith_16 (by decide) (fun hc => ?_) (fun hc => ?_)
    · have hq := hq.1 hc
      exact kb_X9_rowsWith_23 hI C0 hK σ3 v1 v2 hq H locs hP hS ls (lv_sub hl [0, 1, 2] rfl)
    · have hq := hq.2 hc
      refine lv_iconst (v := 0) hx hb dX9_rowsWith_19 (by decide) ?_
      refine lv_goto (tgt := 24) hx hb dX9_rowsWith_20 (by decide) ?_
      exact kb_X9_rowsWith_24 hI C0 hK σ3 v1 v2 (0 : Int32) hq H locs hP hS ls (lv_sub hl [0, 1, 2] rfl)
/-! GlossRowsModel.tryOut()V -/
def rm_X9_tryOut : Room := { frames := 1, cells := 0, slots := 0, locals := 25 }
def kw_X9_tryOut (σ : ka_S) (Q : ka_S → Prop) : Prop := kw_X9_copy σ (37, 0, 0) (38, 0, 0) (0 : Int32) (0 : Int32) (253 : Int32) (fun σ1 => 
  Q σ1)
set_option maxHeartbeats 4000000 in
set_option maxRecDepth 100000 in
theorem km_X9_tryOut (l : Launch) {G : ka_G} (hI : ka_I G) {σ : ka_S} {Q : ka_S → Prop} (hq : kw_X9_tryOut σ Q) : kc_v l yX9_tryOut (kw_ yX9_tryOut cX9_tryOut 1 none) rm_X9_tryOut G [.ref (ka_a G (25, 0, 0))] σ Q := by
  refine ka_of "GlossRowsModel" rfl (by decide) (Nat.le_of_ble_eq_true rfl) ?_
  intro p e s m below meth c C0 hK H locs hP hS ls hl
  obtain ⟨hx, hb, -, hml, hown, hts, -⟩ := id C0
  have hl : lv_has ls 1 [(0, .ref (ka_a G (25, 0, 0)))] := hl
  unfold kw_X9_tryOut at hq
  refine lv_aload_n hx hb dX9_tryOut_0 rfl (lv_at hl 0 rfl) ?_
  refine kg_X9_now C0 hK hP (kv_s (by decide) (by decide)) kq_960 dX9_tryOut_1 ?_
  refine lv_iconst (v := 0) hx hb dX9_tryOut_4 (by decide) ?_
  refine lv_aload_n hx hb dX9_tryOut_5 rfl (lv_at hl 0 rfl) ?_
  refine kg_X9_trial C0 hK hP (kv_s (by decide) (by decide)) kq_961 dX9_tryOut_6 ?_
  refine lv_iconst (v := 0) hx hb dX9_tryOut_9 (by decide) ?_
  refine lv_sipush (v := 253) hx hb dX9_tryOut_10 (by decide) ?_
  refine kr_Sv (As := [.ref (ka_a G (37, 0, 0)), .int (0 : Int32), .ref (ka_a G (38, 0, 0)), .int (0 : Int32), .int (253 : Int32)]) (rest := []) C0 hK hP hS hl (km_X9_copy l hI kl_37 kl_38 hq) kd_X9_copy kq_1080 ⟨rfl, rfl, Nat.le_of_ble_eq_true rfl, Nat.le_of_ble_eq_true rfl⟩ rfl (Nat.le_of_ble_eq_true rfl) dX9_tryOut_13 ⟨Nat.zero_le _, Nat.zero_le _⟩ (fun σ1 H locs hq hP hS => ?_)
  exact kr_vret C0 hK hP hS hq dX9_tryOut_16
/-! GlossRowsModel.command(I)Z -/
def rm_X9_command : Room := { frames := 6, cells := 0, slots := 0, locals := 148 }
def kw_X9_command_41 (Q : Int32 → ka_S → Prop) (σ : ka_S) (v1 : Int32) (v2 : Int32) (v3 : Int32) (v4 : Int32) (t0 : Int32) : Prop := (v2 = (1 : Int32) → (v3 = (0 : Int32) → kw_X9_isSetting σ (9 : Int32) v4 (fun r7 σ6 => 
    (r7 = (0 : Int32) → Q (0 : Int32) σ6) ∧
    (¬ r7 = (0 : Int32) → vp_in (2 : Int32) 253 ∧
      ∀ σ9 : ka_S, σ9 = ka_wL σ6 (38, 0, 0) (2 : Int32).toNatClampNeg v4.toInt64 →
      Q (1 : Int32) σ9))) ∧
  (¬ v3 = (0 : Int32) → Q (0 : Int32) σ)) ∧
  (¬ v2 = (1 : Int32) → (v2 = (2 : Int32) → (v3 = (0 : Int32) → kw_X9_isSetting σ (11 : Int32) v4 (fun r11 σ10 => 
    (r11 = (0 : Int32) → Q (0 : Int32) σ10) ∧
    (¬ r11 = (0 : Int32) → vp_in (4 : Int32) 253 ∧
      ∀ σ13 : ka_S, σ13 = ka_wL σ10 (38, 0, 0) (4 : Int32).toNatClampNeg v4.toInt64 →
      Q (1 : Int32) σ13))) ∧
  (¬ v3 = (0 : Int32) → Q (0 : Int32) σ)) ∧
  (¬ v2 = (2 : Int32) → (v2 = (3 : Int32) → (t0 = (0 : Int32) → Q (0 : Int32) σ) ∧
  (¬ t0 = (0 : Int32) → kw_X9_cell σ v4 (1 : Int32) (fun r15 σ14 => 
    vp_in r15 253 ∧
    ∀ σ17 : ka_S, σ17 = ka_wL σ14 (38, 0, 0) r15.toNatClampNeg (1 : Int64) →
    Q (1 : Int32) σ17))) ∧
  (¬ v2 = (3 : Int32) → (v2 = (4 : Int32) → (t0 = (0 : Int32) → Q (0 : Int32) σ) ∧
  (¬ t0 = (0 : Int32) → kw_X9_joinOn σ (38, 0, 0) v4 (fun σ18 => 
    Q (1 : Int32) σ18))) ∧
  (¬ v2 = (4 : Int32) → (v2 = (5 : Int32) → (t0 = (0 : Int32) → Q (0 : Int32) σ) ∧
  (¬ t0 = (0 : Int32) → kw_X9_removeOn σ (38, 0, 0) v4 (fun σ19 => 
    Q (1 : Int32) σ19))) ∧
  (¬ v2 = (5 : Int32) → (v2 = (6 : Int32) → kw_X9_isPartOf σ (38, 0, 0) v4 v3 (fun r21 σ20 => 
  (r21 = (0 : Int32) → Q (0 : Int32) σ20) ∧
  (¬ r21 = (0 : Int32) → kw_X9_canLearn σ20 (38, 0, 0) v4 v3 (fun r23 σ22 => 
    (r23 = (0 : Int32) → Q (0 : Int32) σ22) ∧
    (¬ r23 = (0 : Int32) → kw_X9_learnOn σ22 (38, 0, 0) v4 v3 (fun σ24 => 
      Q (1 : Int32) σ24)))))) ∧
  (¬ v2 = (6 : Int32) → (v2 = (7 : Int32) → (v1 = (7000 : Int32) → kw_X9_fillOn σ (38, 0, 0) (fun r26 σ25 => 
    (r26 < (0 : Int32) → Q (0 : Int32) σ25) ∧
    (¬ r26 < (0 : Int32) → Q (1 : Int32) σ25))) ∧
  (¬ v1 = (7000 : Int32) → Q (0 : Int32) σ)) ∧
  (¬ v2 = (7 : Int32) → (v2 = (8 : Int32) → (v3 = (0 : Int32) → kw_X9_rowsOf σ (38, 0, 0) (fun r28 σ27 => 
    (v4 < r28 → Q (0 : Int32) σ27) ∧
    (¬ v4 < r28 → Q (1 : Int32) σ27))) ∧
  (¬ v3 = (0 : Int32) → Q (0 : Int32) σ)) ∧
  (¬ v2 = (8 : Int32) → (v2 = (9 : Int32) → (v3 = (0 : Int32) → kw_X9_gaps σ (38, 0, 0) (fun r30 σ29 => 
    (r30 = v4 → Q (1 : Int32) σ29) ∧
    (¬ r30 = v4 → Q (0 : Int32) σ29))) ∧
  (¬ v3 = (0 : Int32) → Q (0 : Int32) σ)) ∧
  (¬ v2 = (9 : Int32) → Q (0 : Int32) σ)))))))))
def kw_X9_command_40 (Q : Int32 → ka_S → Prop) (σ : ka_S) (v1 : Int32) (v2 : Int32) (v3 : Int32) (v4 : Int32) : Prop := kw_X9_command_41 Q σ v1 v2 v3 v4 (0 : Int32)
def kw_X9_command (σ : ka_S) (v1 : Int32) (Q : Int32 → ka_S → Prop) : Prop := ∀ x1 : Int32, x1 = (v1 / (1000 : Int32)) → 
  ∀ x2 : Int32, x2 = ((v1 / (100 : Int32)) - (v1 / (100 : Int32)) / (10 : Int32) * (10 : Int32)) → 
  ∀ x3 : Int32, x3 = (v1 - v1 / (100 : Int32) * (100 : Int32)) → 
  (x2 = (0 : Int32) → kw_X9_isWordOf σ (38, 0, 0) x3 (fun r5 σ4 => 
    (r5 = (0 : Int32) → kw_X9_command_40 Q σ4 v1 x1 x2 x3) ∧
    (¬ r5 = (0 : Int32) → kw_X9_command_41 Q σ4 v1 x1 x2 x3 (1 : Int32)))) ∧
  (¬ x2 = (0 : Int32) → kw_X9_command_40 Q σ v1 x1 x2 x3)
set_option maxHeartbeats 4000000 in
set_option maxRecDepth 100000 in
theorem kb_X9_command_41 {p : Program} {l : Launch} {e : Env} {s : State} {m : MethodId} {args : Array Value} {below : List Frame} {meth : Method} {c : Code} {G : ka_G} (hI : ka_I G) (C0 : ka_C p s m args meth c cX9_command 6 "GlossRowsModel" (some .boolean)) (hK : ka_Kn G s) {Q : Int32 → ka_S → Prop} : ∀ (σ : ka_S) (v1 : Int32) (v2 : Int32) (v3 : Int32) (v4 : Int32) (t0 : Int32), kw_X9_command_41 Q σ v1 v2 v3 v4 t0 → ∀ (H : Heap) (locs : List Loc), ka_P G σ H → va_S (ka_A G) s.heap H locs → ∀ ls : Array Slot, lv_has ls 6 [(0, .ref (ka_a G (25, 0, 0))), (1, .int v1), (2, .int v2), (3, .int v3), (4, .int v4)] → W p l e rm_X9_command s m args below meth c H locs 0 0 (MQ below (va_Qi Q (ka_B G) (ka_A G)) args s 0 0 (ka_A G)) (F0 m 41 ls [.int t0]) := by
  obtain ⟨hx, hb, -, hml, hown, hts, -⟩ := id C0
  intro σ v1 v2 v3 v4 t0 hq H locs hP hS ls hl
  unfold kw_X9_command_41 at hq
  refine lv_istore (lv' := [(5, .int t0), (0, .ref (ka_a G (25, 0, 0))), (1, .int v1), (2, .int v2), (3, .int v3), (4, .int v4)]) hx hb dX9_command_41 hl (by decide) rfl (fun ls hl => ?_)
  refine lv_iload_n hx hb dX9_command_43 rfl (lv_at hl 3 rfl) ?_
  by_cases hsw1 : v2 = (1 : Int32)
  · have hq := hq.1 hsw1
    refine lv_tableIn (off := 52) (tgt := 96) hx hb dX9_command_44 (by rw [hsw1]; decide) (by rw [hsw1]; decide) (by rw [hsw1]; decide) (by decide) ?_
    refine lv_iload_n hx hb dX9_command_96 rfl (lv_at hl 4 rfl) ?_
    refine lv_if_ne (tgt := 110) hx hb dX9_command_97 (by decide) (fun hc => ?_) (fun hc => ?_)
    · have hq := hq.2 hc
      refine lv_iconst (v := 0) hx hb dX9_command_110 (by decide) ?_
      exact kr_zret C0 hK hP hS rfl hq dX9_command_111
    · have hq := hq.1 hc
      refine lv_bipush (v := 9) hx hb dX9_command_100 (by decide) ?_
      refine lv_iload hx hb dX9_command_102 (lv_at hl 5 rfl) ?_
      refine kr_Si (As := [.int (9 : Int32), .int v4]) (rest := []) C0 hK hP hS hl (km_X9_isSetting l hI hq) kd_X9_isSetting kq_1256 ⟨rfl, rfl, Nat.le_of_ble_eq_true rfl, Nat.le_of_ble_eq_true rfl⟩ rfl (Nat.le_of_ble_eq_true rfl) dX9_command_104 ⟨Nat.zero_le _, Nat.zero_le _⟩ (fun r7 σ6 H locs hq hP hS => ?_)
      refine lv_if_ne (tgt := 112) hx hb dX9_command_107 (by decide) (fun hc => ?_) (fun hc => ?_)
      · have hq := hq.2 hc
        refine lv_aload_n hx hb dX9_command_112 rfl (lv_at hl 1 rfl) ?_
        refine kg_X9_trial C0 hK hP (kv_s (by decide) (by decide)) kq_961 dX9_command_113 ?_
        refine lv_iconst (v := 2) hx hb dX9_command_116 (by decide) ?_
        refine lv_iload hx hb dX9_command_117 (lv_at hl 5 rfl) ?_
        refine lv_i2l hx hb dX9_command_119 rfl ?_
        obtain ⟨b8, hq⟩ := hq
        refine kr_last C0 hK hI hP hS (kv_s (by decide) (by decide)) (fun _ => rfl) b8 dX9_command_120 (fun H locs hP hS => ?_)
        obtain ⟨σ9, eσ9⟩ : ∃ z : ka_S, z = ka_wL σ6 (38, 0, 0) (2 : Int32).toNatClampNeg v4.toInt64 := ⟨_, rfl⟩
        rw [← eσ9] at hP
        have hq := hq σ9 eσ9
        refine lv_iconst (v := 1) hx hb dX9_command_121 (by decide) ?_
        exact kr_zret C0 hK hP hS rfl hq dX9_command_122
      · have hq := hq.1 hc
        refine lv_iconst (v := 0) hx hb dX9_command_110 (by decide) ?_
        exact kr_zret C0 hK hP hS rfl hq dX9_command_111
  · have hq := hq.2 hsw1
    by_cases hsw2 : v2 = (2 : Int32)
    · have hq := hq.1 hsw2
      refine lv_tableIn (off := 79) (tgt := 123) hx hb dX9_command_44 (by rw [hsw2]; decide) (by rw [hsw2]; decide) (by rw [hsw2]; decide) (by decide) ?_
      refine lv_iload_n hx hb dX9_command_123 rfl (lv_at hl 4 rfl) ?_
      refine lv_if_ne (tgt := 137) hx hb dX9_command_124 (by decide) (fun hc => ?_) (fun hc => ?_)
      · have hq := hq.2 hc
        refine lv_iconst (v := 0) hx hb dX9_command_137 (by decide) ?_
        exact kr_zret C0 hK hP hS rfl hq dX9_command_138
      · have hq := hq.1 hc
        refine lv_bipush (v := 11) hx hb dX9_command_127 (by decide) ?_
        refine lv_iload hx hb dX9_command_129 (lv_at hl 5 rfl) ?_
        refine kr_Si (As := [.int (11 : Int32), .int v4]) (rest := []) C0 hK hP hS hl (km_X9_isSetting l hI hq) kd_X9_isSetting kq_1256 ⟨rfl, rfl, Nat.le_of_ble_eq_true rfl, Nat.le_of_ble_eq_true rfl⟩ rfl (Nat.le_of_ble_eq_true rfl) dX9_command_131 ⟨Nat.zero_le _, Nat.zero_le _⟩ (fun r11 σ10 H locs hq hP hS => ?_)
        refine lv_if_ne (tgt := 139) hx hb dX9_command_134 (by decide) (fun hc => ?_) (fun hc => ?_)
        · have hq := hq.2 hc
          refine lv_aload_n hx hb dX9_command_139 rfl (lv_at hl 1 rfl) ?_
          refine kg_X9_trial C0 hK hP (kv_s (by decide) (by decide)) kq_961 dX9_command_140 ?_
          refine lv_iconst (v := 4) hx hb dX9_command_143 (by decide) ?_
          refine lv_iload hx hb dX9_command_144 (lv_at hl 5 rfl) ?_
          refine lv_i2l hx hb dX9_command_146 rfl ?_
          obtain ⟨b12, hq⟩ := hq
          refine kr_last C0 hK hI hP hS (kv_s (by decide) (by decide)) (fun _ => rfl) b12 dX9_command_147 (fun H locs hP hS => ?_)
          obtain ⟨σ13, eσ13⟩ : ∃ z : ka_S, z = ka_wL σ10 (38, 0, 0) (4 : Int32).toNatClampNeg v4.toInt64 := ⟨_, rfl⟩
          rw [← eσ13] at hP
          have hq := hq σ13 eσ13
          refine lv_iconst (v := 1) hx hb dX9_command_148 (by decide) ?_
          exact kr_zret C0 hK hP hS rfl hq dX9_command_149
        · have hq := hq.1 hc
          refine lv_iconst (v := 0) hx hb dX9_command_137 (by decide) ?_
          exact kr_zret C0 hK hP hS rfl hq dX9_command_138
    · have hq := hq.2 hsw2
      by_cases hsw3 : v2 = (3 : Int32)
      · have hq := hq.1 hsw3
        refine lv_tableIn (off := 106) (tgt := 150) hx hb dX9_command_44 (by rw [hsw3]; decide) (by rw [hsw3]; decide) (by rw [hsw3]; decide) (by decide) ?_
        refine lv_iload hx hb dX9_command_150 (lv_at hl 0 rfl) ?_
        refine lv_if_ne (tgt := 157) hx hb dX9_command_152 (by decide) (fun hc => ?_) (fun hc => ?_)
        · have hq := hq.2 hc
          refine lv_aload_n hx hb dX9_command_157 rfl (lv_at hl 1 rfl) ?_
          refine kg_X9_trial C0 hK hP (kv_s (by decide) (by decide)) kq_961 dX9_command_158 ?_
          refine lv_iload hx hb dX9_command_161 (lv_at hl 5 rfl) ?_
          refine lv_iconst (v := 1) hx hb dX9_command_163 (by decide) ?_
          refine kr_Si (As := [.int v4, .int (1 : Int32)]) (rest := [.ref (ka_a G (38, 0, 0))]) C0 hK hP hS hl (km_X9_cell l hI hq) kd_X9_cell kq_1102 ⟨rfl, rfl, Nat.le_of_ble_eq_true rfl, Nat.le_of_ble_eq_true rfl⟩ rfl (Nat.le_of_ble_eq_true rfl) dX9_command_164 ⟨Nat.zero_le _, Nat.zero_le _⟩ (fun r15 σ14 H locs hq hP hS => ?_)
          refine lv_lconst (v := 1) hx hb dX9_command_167 (by decide) ?_
          obtain ⟨b16, hq⟩ := hq
          refine kr_last C0 hK hI hP hS (kv_s (by decide) (by decide)) (fun _ => rfl) b16 dX9_command_168 (fun H locs hP hS => ?_)
          obtain ⟨σ17, eσ17⟩ : ∃ z : ka_S, z = ka_wL σ14 (38, 0, 0) r15.toNatClampNeg (1 : Int64) := ⟨_, rfl⟩
          rw [← eσ17] at hP
          have hq := hq σ17 eσ17
          refine lv_iconst (v := 1) hx hb dX9_command_169 (by decide) ?_
          exact kr_zret C0 hK hP hS rfl hq dX9_command_170
        · have hq := hq.1 hc
          refine lv_iconst (v := 0) hx hb dX9_command_155 (by decide) ?_
          exact kr_zret C0 hK hP hS rfl hq dX9_command_156
      · have hq := hq.2 hsw3
        by_cases hsw4 : v2 = (4 : Int32)
        · have hq := hq.1 hsw4
          refine lv_tableIn (off := 127) (tgt := 171) hx hb dX9_command_44 (by rw [hsw4]; decide) (by rw [hsw4]; decide) (by rw [hsw4]; decide) (by decide) ?_
          refine lv_iload hx hb dX9_command_171 (lv_at hl 0 rfl) ?_
          refine lv_if_ne (tgt := 178) hx hb dX9_command_173 (by decide) (fun hc => ?_) (fun hc => ?_)
          · have hq := hq.2 hc
            refine lv_aload_n hx hb dX9_command_178 rfl (lv_at hl 1 rfl) ?_
            refine kg_X9_trial C0 hK hP (kv_s (by decide) (by decide)) kq_961 dX9_command_179 ?_
            refine lv_iload hx hb dX9_command_182 (lv_at hl 5 rfl) ?_
            refine kr_Sv (As := [.ref (ka_a G (38, 0, 0)), .int v4]) (rest := []) C0 hK hP hS hl (km_X9_joinOn l hI kl_38 hq) kd_X9_joinOn kq_1231 ⟨rfl, rfl, Nat.le_of_ble_eq_true rfl, Nat.le_of_ble_eq_true rfl⟩ rfl (Nat.le_of_ble_eq_true rfl) dX9_command_184 ⟨Nat.zero_le _, Nat.zero_le _⟩ (fun σ18 H locs hq hP hS => ?_)
            refine lv_iconst (v := 1) hx hb dX9_command_187 (by decide) ?_
            exact kr_zret C0 hK hP hS rfl hq dX9_command_188
          · have hq := hq.1 hc
            refine lv_iconst (v := 0) hx hb dX9_command_176 (by decide) ?_
            exact kr_zret C0 hK hP hS rfl hq dX9_command_177
        · have hq := hq.2 hsw4
          by_cases hsw5 : v2 = (5 : Int32)
          · have hq := hq.1 hsw5
            refine lv_tableIn (off := 145) (tgt := 189) hx hb dX9_command_44 (by rw [hsw5]; decide) (by rw [hsw5]; decide) (by rw [hsw5]; decide) (by decide) ?_
            refine lv_iload hx hb dX9_command_189 (lv_at hl 0 rfl) ?_
            refine lv_if_ne (tgt := 196) hx hb dX9_command_191 (by decide) (fun hc => ?_) (fun hc => ?_)
            · have hq := hq.2 hc
              refine lv_aload_n hx hb dX9_command_196 rfl (lv_at hl 1 rfl) ?_
              refine kg_X9_trial C0 hK hP (kv_s (by decide) (by decide)) kq_961 dX9_command_197 ?_
              refine lv_iload hx hb dX9_command_200 (lv_at hl 5 rfl) ?_
              refine kr_Sv (As := [.ref (ka_a G (38, 0, 0)), .int v4]) (rest := []) C0 hK hP hS hl (km_X9_removeOn l hI kl_38 hq) kd_X9_removeOn kq_1216 ⟨rfl, rfl, Nat.le_of_ble_eq_true rfl, Nat.le_of_ble_eq_true rfl⟩ rfl (Nat.le_of_ble_eq_true rfl) dX9_command_202 ⟨Nat.zero_le _, Nat.zero_le _⟩ (fun σ19 H locs hq hP hS => ?_)
              refine lv_iconst (v := 1) hx hb dX9_command_205 (by decide) ?_
              exact kr_zret C0 hK hP hS rfl hq dX9_command_206
            · have hq := hq.1 hc
              refine lv_iconst (v := 0) hx hb dX9_command_194 (by decide) ?_
              exact kr_zret C0 hK hP hS rfl hq dX9_command_195
          · have hq := hq.2 hsw5
            by_cases hsw6 : v2 = (6 : Int32)
            · have hq := hq.1 hsw6
              refine lv_tableIn (off := 163) (tgt := 207) hx hb dX9_command_44 (by rw [hsw6]; decide) (by rw [hsw6]; decide) (by rw [hsw6]; decide) (by decide) ?_
              refine lv_aload_n hx hb dX9_command_207 rfl (lv_at hl 1 rfl) ?_
              refine kg_X9_trial C0 hK hP (kv_s (by decide) (by decide)) kq_961 dX9_command_208 ?_
              refine lv_iload hx hb dX9_command_211 (lv_at hl 5 rfl) ?_
              refine lv_iload_n hx hb dX9_command_213 rfl (lv_at hl 4 rfl) ?_
              refine kr_Si (As := [.ref (ka_a G (38, 0, 0)), .int v4, .int v3]) (rest := []) C0 hK hP hS hl (km_X9_isPartOf l hI kl_38 hq) kd_X9_isPartOf kq_1154 ⟨rfl, rfl, Nat.le_of_ble_eq_true rfl, Nat.le_of_ble_eq_true rfl⟩ rfl (Nat.le_of_ble_eq_true rfl) dX9_command_214 ⟨Nat.zero_le _, Nat.zero_le _⟩ (fun r21 σ20 H locs hq hP hS => ?_)
              refine lv_if_eq (tgt := 233) hx hb dX9_command_217 (by decide) (fun hc => ?_) (fun hc => ?_)
              · have hq := hq.1 hc
                refine lv_iconst (v := 0) hx hb dX9_command_233 (by decide) ?_
                exact kr_zret C0 hK hP hS rfl hq dX9_command_234
              · have hq := hq.2 hc
                refine lv_aload_n hx hb dX9_command_220 rfl (lv_at hl 1 rfl) ?_
                refine kg_X9_trial C0 hK hP (kv_s (by decide) (by decide)) kq_961 dX9_command_221 ?_
                refine lv_iload hx hb dX9_command_224 (lv_at hl 5 rfl) ?_
                refine lv_iload_n hx hb dX9_command_226 rfl (lv_at hl 4 rfl) ?_
                refine kr_Si (As := [.ref (ka_a G (38, 0, 0)), .int v4, .int v3]) (rest := []) C0 hK hP hS hl (km_X9_canLearn l hI kl_38 hq) kd_X9_canLearn kq_1265 ⟨rfl, rfl, Nat.le_of_ble_eq_true rfl, Nat.le_of_ble_eq_true rfl⟩ rfl (Nat.le_of_ble_eq_true rfl) dX9_command_227 ⟨Nat.zero_le _, Nat.zero_le _⟩ (fun r23 σ22 H locs hq hP hS => ?_)
                refine lv_if_ne (tgt := 235) hx hb dX9_command_230 (by decide) (fun hc => ?_) (fun hc => ?_)
                · have hq := hq.2 hc
                  refine lv_aload_n hx hb dX9_command_235 rfl (lv_at hl 1 rfl) ?_
                  refine kg_X9_trial C0 hK hP (kv_s (by decide) (by decide)) kq_961 dX9_command_236 ?_
                  refine lv_iload hx hb dX9_command_239 (lv_at hl 5 rfl) ?_
                  refine lv_iload_n hx hb dX9_command_241 rfl (lv_at hl 4 rfl) ?_
                  refine kr_Sv (As := [.ref (ka_a G (38, 0, 0)), .int v4, .int v3]) (rest := []) C0 hK hP hS hl (km_X9_learnOn l hI kl_38 hq) kd_X9_learnOn kq_1269 ⟨rfl, rfl, Nat.le_of_ble_eq_true rfl, Nat.le_of_ble_eq_true rfl⟩ rfl (Nat.le_of_ble_eq_true rfl) dX9_command_242 ⟨Nat.zero_le _, Nat.zero_le _⟩ (fun σ24 H locs hq hP hS => ?_)
                  refine lv_iconst (v := 1) hx hb dX9_command_245 (by decide) ?_
                  exact kr_zret C0 hK hP hS rfl hq dX9_command_246
                · have hq := hq.1 hc
                  refine lv_iconst (v := 0) hx hb dX9_command_233 (by decide) ?_
                  exact kr_zret C0 hK hP hS rfl hq dX9_command_234
            · have hq := hq.2 hsw6
              by_cases hsw7 : v2 = (7 : Int32)
              · have hq := hq.1 hsw7
                refine lv_tableIn (off := 203) (tgt := 247) hx hb dX9_command_44 (by rw [hsw7]; decide) (by rw [hsw7]; decide) (by rw [hsw7]; decide) (by decide) ?_
                refine lv_iload_n hx hb dX9_command_247 rfl (lv_at hl 2 rfl) ?_
                refine lv_sipush (v := 7000) hx hb dX9_command_248 (by decide) ?_
                refine lv_icmp_eq (tgt := 256) hx hb dX9_command_251 (by decide) (fun hc => ?_) (fun hc => ?_)
                · have hq := hq.1 hc
                  refine lv_aload_n hx hb dX9_command_256 rfl (lv_at hl 1 rfl) ?_
                  refine kg_X9_trial C0 hK hP (kv_s (by decide) (by decide)) kq_961 dX9_command_257 ?_
                  refine kr_Si (As := [.ref (ka_a G (38, 0, 0))]) (rest := []) C0 hK hP hS hl (km_X9_fillOn l hI kl_38 hq) kd_X9_fillOn kq_1280 ⟨rfl, rfl, Nat.le_of_ble_eq_true rfl, Nat.le_of_ble_eq_true rfl⟩ rfl (Nat.le_of_ble_eq_true rfl) dX9_command_260 ⟨Nat.zero_le _, Nat.zero_le _⟩ (fun r26 σ25 H locs hq hP hS => ?_)
                  refine lv_if_lt (tgt := 270) hx hb dX9_command_263 (by decide) (fun hc => ?_) (fun hc => ?_)
                  · have hq := hq.1 hc
                    refine lv_iconst (v := 0) hx hb dX9_command_270 (by decide) ?_
                    exact kr_zret C0 hK hP hS rfl hq dX9_command_271
                  · have hq := hq.2 hc
                    refine lv_iconst (v := 1) hx hb dX9_command_266 (by decide) ?_
                    refine lv_goto (tgt := 271) hx hb dX9_command_267 (by decide) ?_
                    exact kr_zret C0 hK hP hS rfl hq dX9_command_271
                · have hq := hq.2 hc
                  refine lv_iconst (v := 0) hx hb dX9_command_254 (by decide) ?_
                  exact kr_zret C0 hK hP hS rfl hq dX9_command_255
              · have hq := hq.2 hsw7
                by_cases hsw8 : v2 = (8 : Int32)
                · have hq := hq.1 hsw8
                  refine lv_tableIn (off := 228) (tgt := 272) hx hb dX9_command_44 (by rw [hsw8]; decide) (by rw [hsw8]; decide) (by rw [hsw8]; decide) (by decide) ?_
                  refine lv_iload_n hx hb dX9_command_272 rfl (lv_at hl 4 rfl) ?_
                  refine lv_if_ne (tgt := 293) hx hb dX9_command_273 (by decide) (fun hc => ?_) (fun hc => ?_)
                  · have hq := hq.2 hc
                    refine lv_iconst (v := 0) hx hb dX9_command_293 (by decide) ?_
                    exact kr_zret C0 hK hP hS rfl hq dX9_command_294
                  · have hq := hq.1 hc
                    refine lv_aload_n hx hb dX9_command_276 rfl (lv_at hl 1 rfl) ?_
                    refine lv_aload_n hx hb dX9_command_277 rfl (lv_at hl 1 rfl) ?_
                    refine kg_X9_trial C0 hK hP (kv_s (by decide) (by decide)) kq_961 dX9_command_278 ?_
                    refine kr_Vi (k := (25, 0, 0)) (As := [.ref (ka_a G (38, 0, 0))]) (rest := []) C0 hK hP hS hl (km_X9_rowsOf l hI kl_38 hq) kd_X9_rowsOf kq_1329 (kv_s (by decide) (by decide)) rfl rfl rfl ⟨rfl, rfl, Nat.le_of_ble_eq_true rfl, Nat.le_of_ble_eq_true rfl⟩ rfl (Nat.le_of_ble_eq_true rfl) dX9_command_281 ⟨Nat.zero_le _, Nat.zero_le _⟩ (fun r28 σ27 H locs hq hP hS => ?_)
                    refine lv_iload hx hb dX9_command_284 (lv_at hl 5 rfl) ?_
                    refine lv_icmp_gt (tgt := 293) hx hb dX9_command_286 (by decide) (fun hc => ?_) (fun hc => ?_)
                    · have hq := hq.1 hc
                      refine lv_iconst (v := 0) hx hb dX9_command_293 (by decide) ?_
                      exact kr_zret C0 hK hP hS rfl hq dX9_command_294
                    · have hq := hq.2 hc
                      refine lv_iconst (v := 1) hx hb dX9_command_289 (by decide) ?_
                      refine lv_goto (tgt := 294) hx hb dX9_command_290 (by decide) ?_
                      exact kr_zret C0 hK hP hS rfl hq dX9_command_294
                · have hq := hq.2 hsw8
                  by_cases hsw9 : v2 = (9 : Int32)
                  · have hq := hq.1 hsw9
                    refine lv_tableIn (off := 251) (tgt := 295) hx hb dX9_command_44 (by rw [hsw9]; decide) (by rw [hsw9]; decide) (by rw [hsw9]; decide) (by decide) ?_
                    refine lv_iload_n hx hb dX9_command_295 rfl (lv_at hl 4 rfl) ?_
                    refine lv_if_ne (tgt := 315) hx hb dX9_command_296 (by decide) (fun hc => ?_) (fun hc => ?_)
                    · have hq := hq.2 hc
                      refine lv_iconst (v := 0) hx hb dX9_command_315 (by decide) ?_
                      exact kr_zret C0 hK hP hS rfl hq dX9_command_316
                    · have hq := hq.1 hc
                      refine lv_aload_n hx hb dX9_command_299 rfl (lv_at hl 1 rfl) ?_
                      refine kg_X9_trial C0 hK hP (kv_s (by decide) (by decide)) kq_961 dX9_command_300 ?_
                      refine kr_Si (As := [.ref (ka_a G (38, 0, 0))]) (rest := []) C0 hK hP hS hl (km_X9_gaps l hI kl_38 hq) kd_X9_gaps kq_1122 ⟨rfl, rfl, Nat.le_of_ble_eq_true rfl, Nat.le_of_ble_eq_true rfl⟩ rfl (Nat.le_of_ble_eq_true rfl) dX9_command_303 ⟨Nat.zero_le _, Nat.zero_le _⟩ (fun r30 σ29 H locs hq hP hS => ?_)
                      refine lv_iload hx hb dX9_command_306 (lv_at hl 5 rfl) ?_
                      refine lv_icmp_ne (tgt := 315) hx hb dX9_command_308 (by decide) (fun hc => ?_) (fun hc => ?_)
                      · have hq := hq.2 hc
                        refine lv_iconst (v := 0) hx hb dX9_command_315 (by decide) ?_
                        exact kr_zret C0 hK hP hS rfl hq dX9_command_316
                      · have hq := hq.1 hc
                        refine lv_iconst (v := 1) hx hb dX9_command_311 (by decide) ?_
                        refine lv_goto (tgt := 316) hx hb dX9_command_312 (by decide) ?_
                        exact kr_zret C0 hK hP hS rfl hq dX9_command_316
                  · have hq := hq.2 hsw9
                    refine lv_tableOut (tgt := 317) hx hb dX9_command_44 (kt_1_9 (x := v2) hsw1 hsw2 hsw3 hsw4 hsw5 hsw6 hsw7 hsw8 hsw9) (by decide) ?_
                    refine lv_iconst (v := 0) hx hb dX9_command_317 (by decide) ?_
                    exact kr_zret C0 hK hP hS rfl hq dX9_command_318
set_option maxHeartbeats 4000000 in
set_option maxRecDepth 100000 in
theorem kb_X9_command_40 {p : Program} {l : Launch} {e : Env} {s : State} {m : MethodId} {args : Array Value} {below : List Frame} {meth : Method} {c : Code} {G : ka_G} (hI : ka_I G) (C0 : ka_C p s m args meth c cX9_command 6 "GlossRowsModel" (some .boolean)) (hK : ka_Kn G s) {Q : Int32 → ka_S → Prop} : ∀ (σ : ka_S) (v1 : Int32) (v2 : Int32) (v3 : Int32) (v4 : Int32), kw_X9_command_40 Q σ v1 v2 v3 v4 → ∀ (H : Heap) (locs : List Loc), ka_P G σ H → va_S (ka_A G) s.heap H locs → ∀ ls : Array Slot, lv_has ls 6 [(0, .ref (ka_a G (25, 0, 0))), (1, .int v1), (2, .int v2), (3, .int v3), (4, .int v4)] → W p l e rm_X9_command s m args below meth c H locs 0 0 (MQ below (va_Qi Q (ka_B G) (ka_A G)) args s 0 0 (ka_A G)) (F0 m 40 ls []) := by
  obtain ⟨hx, hb, -, hml, hown, hts, -⟩ := id C0
  intro σ v1 v2 v3 v4 hq H locs hP hS ls hl
  unfold kw_X9_command_40 at hq
  refine lv_iconst (v := 0) hx hb dX9_command_40 (by decide) ?_
  exact kb_X9_command_41 hI C0 hK σ v1 v2 v3 v4 (0 : Int32) hq H locs hP hS ls (lv_sub hl [0, 1, 2, 3, 4] rfl)
set_option maxHeartbeats 4000000 in
set_option maxRecDepth 100000 in
theorem km_X9_command (l : Launch) {G : ka_G} (hI : ka_I G) {σ : ka_S} {v1 : Int32} {Q : Int32 → ka_S → Prop} (hq : kw_X9_command σ v1 Q) : kc_i l yX9_command (kw_ yX9_command cX9_command 6 (some .boolean)) rm_X9_command G [.ref (ka_a G (25, 0, 0)), .int v1] σ Q := by
  refine ka_of "GlossRowsModel" rfl (by decide) (Nat.le_of_ble_eq_true rfl) ?_
  intro p e s m below meth c C0 hK H locs hP hS ls hl
  obtain ⟨hx, hb, -, hml, hown, hts, -⟩ := id C0
  have hl : lv_has ls 6 [(0, .ref (ka_a G (25, 0, 0))), (1, .int v1)] := hl
  unfold kw_X9_command at hq
  refine lv_iload_n hx hb dX9_command_0 rfl (lv_at hl 1 rfl) ?_
  refine lv_sipush (v := 1000) hx hb dX9_command_1 (by decide) ?_
  refine lv_idiv hx hb dX9_command_4 (by decide) ?_
  refine lv_topi (fun x1 ex1 => ?_)
  have hq := hq x1 ex1
  refine lv_istore_n (lv' := [(2, .int x1), (0, .ref (ka_a G (25, 0, 0))), (1, .int v1)]) hx hb dX9_command_5 rfl hl (by decide) rfl (fun ls hl => ?_)
  refine lv_iload_n hx hb dX9_command_6 rfl (lv_at hl 2 rfl) ?_
  refine lv_bipush (v := 100) hx hb dX9_command_7 (by decide) ?_
  refine lv_idiv hx hb dX9_command_9 (by decide) ?_
  refine lv_bipush (v := 10) hx hb dX9_command_10 (by decide) ?_
  refine lv_irem hx hb dX9_command_12 (by decide) ?_
  refine lv_topi (fun x2 ex2 => ?_)
  have hq := hq x2 ex2
  refine lv_istore_n (lv' := [(3, .int x2), (2, .int x1), (0, .ref (ka_a G (25, 0, 0))), (1, .int v1)]) hx hb dX9_command_13 rfl hl (by decide) rfl (fun ls hl => ?_)
  refine lv_iload_n hx hb dX9_command_14 rfl (lv_at hl 3 rfl) ?_
  refine lv_bipush (v := 100) hx hb dX9_command_15 (by decide) ?_
  refine lv_irem hx hb dX9_command_17 (by decide) ?_
  refine lv_topi (fun x3 ex3 => ?_)
  have hq := hq x3 ex3
  refine lv_istore (lv' := [(4, .int x3), (3, .int x2), (2, .int x1), (0, .ref (ka_a G (25, 0, 0))), (1, .int v1)]) hx hb dX9_command_18 hl (by decide) rfl (fun ls hl => ?_)
  refine lv_iload_n hx hb dX9_command_20 rfl (lv_at hl 1 rfl) ?_
  refine lv_if_ne (tgt := 40) hx hb dX9_command_21 (by decide) (fun hc => ?_) (fun hc => ?_)
  · have hq := hq.2 hc
    exact kb_X9_command_40 hI C0 hK σ v1 x1 x2 x3 hq H locs hP hS ls (lv_sub hl [3, 4, 2, 1, 0] rfl)
  · have hq := hq.1 hc
    refine lv_aload_n hx hb dX9_command_24 rfl (lv_at hl 3 rfl) ?_
    refine kg_X9_trial C0 hK hP (kv_s (by decide) (by decide)) kq_961 dX9_command_25 ?_
    refine lv_iload hx hb dX9_command_28 (lv_at hl 0 rfl) ?_
    refine kr_Si (As := [.ref (ka_a G (38, 0, 0)), .int x3]) (rest := []) C0 hK hP hS hl (km_X9_isWordOf l hI kl_38 hq) kd_X9_isWordOf kq_1142 ⟨rfl, rfl, Nat.le_of_ble_eq_true rfl, Nat.le_of_ble_eq_true rfl⟩ rfl (Nat.le_of_ble_eq_true rfl) dX9_command_30 ⟨Nat.zero_le _, Nat.zero_le _⟩ (fun r5 σ4 H locs hq hP hS => ?_)
    refine lv_if_eq (tgt := 40) hx hb dX9_command_33 (by decide) (fun hc => ?_) (fun hc => ?_)
    · have hq := hq.1 hc
      exact kb_X9_command_40 hI C0 hK σ4 v1 x1 x2 x3 hq H locs hP hS ls (lv_sub hl [3, 4, 2, 1, 0] rfl)
    · have hq := hq.2 hc
      refine lv_iconst (v := 1) hx hb dX9_command_36 (by decide) ?_
      refine lv_goto (tgt := 41) hx hb dX9_command_37 (by decide) ?_
      exact kb_X9_command_41 hI C0 hK σ4 v1 x1 x2 x3 (1 : Int32) hq H locs hP hS ls (lv_sub hl [3, 4, 2, 1, 0] rfl)
/-! GlossRowsModel.runScript(IJ)I -/
def rm_X9_runScript : Room := { frames := 7, cells := 0, slots := 0, locals := 173 }
def kw_X9_runScript_49 (Q : Int32 → ka_S → Prop) : Nat → ka_S → Int32 → Int64 → Int32 → Prop
  | 0, _, _, _, _ => False
  | n + 1, σ, v1, v2, v4 => (v1 ≤ v4 → Q (-9 : Int32) σ) ∧
    (¬ v1 ≤ v4 → kw_X9_tenTo σ ((4 : Int32) * ((v1 - (1 : Int32)) - v4)) (fun r12 σ11 => 
      ¬ r12 = 0 ∧
      kw_X9_command σ11 (((v2 / r12) - (v2 / r12) / (10000 : Int64) * (10000 : Int64)).toInt32) (fun r14 σ13 => 
      (r14 = (0 : Int32) → Q v4 σ13) ∧
      (¬ r14 = (0 : Int32) → ∀ x15 : Int32, x15 = v4 + (1 : Int32) →
        (kw_X9_runScript_49 Q n) σ13 v1 v2 x15))))
def kw_X9_runScript_34 (Q : Int32 → ka_S → Prop) (σ : ka_S) (v1 : Int32) (v2 : Int64) (t1 : Int32) : Prop := kw_X9_refused σ t1 (fun r8 σ7 => 
  (r8 = (0 : Int32) → kw_X9_tryOut σ7 (fun σ9 => 
    ∃ n10 : Nat, kw_X9_runScript_49 Q n10 σ9 v1 v2 (0 : Int32))) ∧
  (¬ r8 = (0 : Int32) → Q (0 : Int32) σ7))
def kw_X9_runScript_33 (Q : Int32 → ka_S → Prop) (σ : ka_S) (v1 : Int32) (v2 : Int64) : Prop := kw_X9_runScript_34 Q σ v1 v2 (1 : Int32)
def kw_X9_runScript (σ : ka_S) (v1 : Int32) (v2 : Int64) (Q : Int32 → ka_S → Prop) : Prop := kw_X9_in σ v1.toInt64 (1 : Int64) (4 : Int64) (fun r2 σ1 => 
  (r2 = (0 : Int32) → kw_X9_runScript_33 Q σ1 v1 v2) ∧
  (¬ r2 = (0 : Int32) → kw_X9_tenTo σ1 ((4 : Int32) * v1) (fun r4 σ3 => 
    kw_X9_in σ3 v2 (0 : Int64) (r4 - (1 : Int64)) (fun r6 σ5 => 
    (r6 = (0 : Int32) → kw_X9_runScript_33 Q σ5 v1 v2) ∧
    (¬ r6 = (0 : Int32) → kw_X9_runScript_34 Q σ5 v1 v2 (0 : Int32))))))
set_option maxHeartbeats 4000000 in
set_option maxRecDepth 100000 in
theorem kb_X9_runScript_49 {p : Program} {l : Launch} {e : Env} {s : State} {m : MethodId} {args : Array Value} {below : List Frame} {meth : Method} {c : Code} {G : ka_G} (hI : ka_I G) (C0 : ka_C p s m args meth c cX9_runScript 5 "GlossRowsModel" (some .int)) (hK : ka_Kn G s) {Q : Int32 → ka_S → Prop} : ∀ (n : Nat) (σ : ka_S) (v1 : Int32) (v2 : Int64) (v4 : Int32), kw_X9_runScript_49 Q n σ v1 v2 v4 → ∀ (H : Heap) (locs : List Loc), ka_P G σ H → va_S (ka_A G) s.heap H locs → ∀ ls : Array Slot, lv_has ls 5 [(0, .ref (ka_a G (25, 0, 0))), (1, .int v1), (2, .long v2), (4, .int v4)] → W p l e rm_X9_runScript s m args below meth c H locs 0 0 (MQ below (va_Qi Q (ka_B G) (ka_A G)) args s 0 0 (ka_A G)) (F0 m 49 ls []) := by
  obtain ⟨hx, hb, -, hml, hown, hts, -⟩ := id C0
  intro n
  induction n with
  | zero =>
    intro σ v1 v2 v4 hq
    rw [kw_X9_runScript_49] at hq
    exact hq.elim
  | succ n ih =>
    intro σ v1 v2 v4 hq H locs hP hS ls hl
    rw [kw_X9_runScript_49] at hq
    refine lv_iload hx hb dX9_runScript_49 (lv_at hl 3 rfl) ?_
    refine lv_iload_n hx hb dX9_runScript_51 rfl (lv_at hl 1 rfl) ?_
    refine lv_icmp_ge (tgt := 89) hx hb dX9_runScript_52 (by decide) (fun hc => ?_) (fun hc => ?_)
    · have hq := hq.1 hc
      refine lv_bipush (v := -9) hx hb dX9_runScript_89 (by decide) ?_
      exact kr_iret C0 hK hP hS hq dX9_runScript_91
    · have hq := hq.2 hc
      refine lv_aload_n hx hb dX9_runScript_55 rfl (lv_at hl 0 rfl) ?_
      refine lv_lload_n hx hb dX9_runScript_56 rfl (lv_at hl 2 rfl) ?_
      refine lv_iconst (v := 4) hx hb dX9_runScript_57 (by decide) ?_
      refine lv_iload_n hx hb dX9_runScript_58 rfl (lv_at hl 1 rfl) ?_
      refine lv_iconst (v := 1) hx hb dX9_runScript_59 (by decide) ?_
      refine lv_isub hx hb dX9_runScript_60 ?_
      refine lv_iload hx hb dX9_runScript_61 (lv_at hl 3 rfl) ?_
      refine lv_isub hx hb dX9_runScript_63 ?_
      refine lv_imul hx hb dX9_runScript_64 ?_
      refine kr_Sl (As := [.int ((4 : Int32) * ((v1 - (1 : Int32)) - v4))]) (rest := [.long v2, .ref (ka_a G (25, 0, 0))]) C0 hK hP hS hl (km_X9_tenTo l hI hq) kd_X9_tenTo kq_1317 ⟨rfl, rfl, Nat.le_of_ble_eq_true rfl, Nat.le_of_ble_eq_true rfl⟩ rfl (Nat.le_of_ble_eq_true rfl) dX9_runScript_65 ⟨Nat.zero_le _, Nat.zero_le _⟩ (fun r12 σ11 H locs hq hP hS => ?_)
      obtain ⟨hne, hq⟩ := hq
      refine lv_ldiv hx hb dX9_runScript_68 hne ?_
      refine lv_ldc2 hx hb hown (hts _ kq_1324) dX9_runScript_69 ?_
      refine lv_lrem hx hb dX9_runScript_72 (by decide) ?_
      refine lv_l2i hx hb dX9_runScript_73 rfl ?_
      refine kr_Vi (k := (25, 0, 0)) (As := [.int (((v2 / r12) - (v2 / r12) / (10000 : Int64) * (10000 : Int64)).toInt32)]) (rest := []) C0 hK hP hS hl (km_X9_command l hI hq) kd_X9_command kq_1325 (kv_s (by decide) (by decide)) rfl rfl rfl ⟨rfl, rfl, Nat.le_of_ble_eq_true rfl, Nat.le_of_ble_eq_true rfl⟩ rfl (Nat.le_of_ble_eq_true rfl) dX9_runScript_74 ⟨Nat.zero_le _, Nat.zero_le _⟩ (fun r14 σ13 H locs hq hP hS => ?_)
      refine lv_if_ne (tgt := 83) hx hb dX9_runScript_77 (by decide) (fun hc => ?_) (fun hc => ?_)
      · have hq := hq.2 hc
        obtain ⟨x15, ex15⟩ : ∃ y : Int32, y = v4 + (1 : Int32) := ⟨_, rfl⟩
        have hq := hq x15 ex15
        refine lv_iinc (v := x15) (lv' := [(4, .int x15), (0, .ref (ka_a G (25, 0, 0))), (1, .int v1), (2, .long v2)]) hx hb dX9_runScript_83 hl (k := 3) rfl (by rw [ex15]; rfl) (by decide) rfl (fun ls hl => ?_)
        refine lv_goto (tgt := 49) hx hb dX9_runScript_86 (by decide) ?_
        exact ih σ13 v1 v2 x15 hq H locs hP hS ls (lv_sub hl [1, 2, 3, 0] rfl)
      · have hq := hq.1 hc
        refine lv_iload hx hb dX9_runScript_80 (lv_at hl 3 rfl) ?_
        exact kr_iret C0 hK hP hS hq dX9_runScript_82
set_option maxHeartbeats 4000000 in
set_option maxRecDepth 100000 in
theorem kb_X9_runScript_34 {p : Program} {l : Launch} {e : Env} {s : State} {m : MethodId} {args : Array Value} {below : List Frame} {meth : Method} {c : Code} {G : ka_G} (hI : ka_I G) (C0 : ka_C p s m args meth c cX9_runScript 5 "GlossRowsModel" (some .int)) (hK : ka_Kn G s) {Q : Int32 → ka_S → Prop} : ∀ (σ : ka_S) (v1 : Int32) (v2 : Int64) (t1 : Int32), kw_X9_runScript_34 Q σ v1 v2 t1 → ∀ (H : Heap) (locs : List Loc), ka_P G σ H → va_S (ka_A G) s.heap H locs → ∀ ls : Array Slot, lv_has ls 5 [(0, .ref (ka_a G (25, 0, 0))), (1, .int v1), (2, .long v2)] → W p l e rm_X9_runScript s m args below meth c H locs 0 0 (MQ below (va_Qi Q (ka_B G) (ka_A G)) args s 0 0 (ka_A G)) (F0 m 34 ls [.int t1, .ref (ka_a G (25, 0, 0))]) := by
  obtain ⟨hx, hb, -, hml, hown, hts, -⟩ := id C0
  intro σ v1 v2 t1 hq H locs hP hS ls hl
  unfold kw_X9_runScript_34 at hq
  refine kr_Vi (k := (25, 0, 0)) (As := [.int t1]) (rest := []) C0 hK hP hS hl (km_X9_refused l hI hq) kd_X9_refused kq_1034 (kv_s (by decide) (by decide)) rfl rfl rfl ⟨rfl, rfl, Nat.le_of_ble_eq_true rfl, Nat.le_of_ble_eq_true rfl⟩ rfl (Nat.le_of_ble_eq_true rfl) dX9_runScript_34 ⟨Nat.zero_le _, Nat.zero_le _⟩ (fun r8 σ7 H locs hq hP hS => ?_)
  refine lv_if_eq (tgt := 42) hx hb dX9_runScript_37 (by decide) (fun hc => ?_) (fun hc => ?_)
  · have hq := hq.1 hc
    refine lv_aload_n hx hb dX9_runScript_42 rfl (lv_at hl 0 rfl) ?_
    refine kr_Vv (k := (25, 0, 0)) (As := []) (rest := []) C0 hK hP hS hl (km_X9_tryOut l hI hq) kd_X9_tryOut kq_1320 (kv_s (by decide) (by decide)) rfl rfl rfl ⟨rfl, rfl, Nat.le_of_ble_eq_true rfl, Nat.le_of_ble_eq_true rfl⟩ rfl (Nat.le_of_ble_eq_true rfl) dX9_runScript_43 ⟨Nat.zero_le _, Nat.zero_le _⟩ (fun σ9 H locs hq hP hS => ?_)
    refine lv_iconst (v := 0) hx hb dX9_runScript_46 (by decide) ?_
    refine lv_istore (lv' := [(4, .int (0 : Int32)), (0, .ref (ka_a G (25, 0, 0))), (1, .int v1), (2, .long v2)]) hx hb dX9_runScript_47 hl (by decide) rfl (fun ls hl => ?_)
    obtain ⟨n10, hq⟩ := hq
    exact kb_X9_runScript_49 hI C0 hK n10 σ9 v1 v2 (0 : Int32) hq H locs hP hS ls (lv_sub hl [1, 2, 3, 0] rfl)
  · have hq := hq.2 hc
    refine lv_iconst (v := 0) hx hb dX9_runScript_40 (by decide) ?_
    exact kr_iret C0 hK hP hS hq dX9_runScript_41
set_option maxHeartbeats 4000000 in
set_option maxRecDepth 100000 in
theorem kb_X9_runScript_33 {p : Program} {l : Launch} {e : Env} {s : State} {m : MethodId} {args : Array Value} {below : List Frame} {meth : Method} {c : Code} {G : ka_G} (hI : ka_I G) (C0 : ka_C p s m args meth c cX9_runScript 5 "GlossRowsModel" (some .int)) (hK : ka_Kn G s) {Q : Int32 → ka_S → Prop} : ∀ (σ : ka_S) (v1 : Int32) (v2 : Int64), kw_X9_runScript_33 Q σ v1 v2 → ∀ (H : Heap) (locs : List Loc), ka_P G σ H → va_S (ka_A G) s.heap H locs → ∀ ls : Array Slot, lv_has ls 5 [(0, .ref (ka_a G (25, 0, 0))), (1, .int v1), (2, .long v2)] → W p l e rm_X9_runScript s m args below meth c H locs 0 0 (MQ below (va_Qi Q (ka_B G) (ka_A G)) args s 0 0 (ka_A G)) (F0 m 33 ls [.ref (ka_a G (25, 0, 0))]) := by
  obtain ⟨hx, hb, -, hml, hown, hts, -⟩ := id C0
  intro σ v1 v2 hq H locs hP hS ls hl
  unfold kw_X9_runScript_33 at hq
  refine lv_iconst (v := 1) hx hb dX9_runScript_33 (by decide) ?_
  exact kb_X9_runScript_34 hI C0 hK σ v1 v2 (1 : Int32) hq H locs hP hS ls (lv_sub hl [0, 1, 2] rfl)
set_option maxHeartbeats 4000000 in
set_option maxRecDepth 100000 in
theorem km_X9_runScript (l : Launch) {G : ka_G} (hI : ka_I G) {σ : ka_S} {v1 : Int32} {v2 : Int64} {Q : Int32 → ka_S → Prop} (hq : kw_X9_runScript σ v1 v2 Q) : kc_i l yX9_runScript (kw_ yX9_runScript cX9_runScript 5 (some .int)) rm_X9_runScript G [.ref (ka_a G (25, 0, 0)), .int v1, .long v2] σ Q := by
  refine ka_of "GlossRowsModel" rfl (by decide) (Nat.le_of_ble_eq_true rfl) ?_
  intro p e s m below meth c C0 hK H locs hP hS ls hl
  obtain ⟨hx, hb, -, hml, hown, hts, -⟩ := id C0
  have hl : lv_has ls 5 [(0, .ref (ka_a G (25, 0, 0))), (1, .int v1), (2, .long v2)] := hl
  unfold kw_X9_runScript at hq
  refine lv_aload_n hx hb dX9_runScript_0 rfl (lv_at hl 0 rfl) ?_
  refine lv_iload_n hx hb dX9_runScript_1 rfl (lv_at hl 1 rfl) ?_
  refine lv_i2l hx hb dX9_runScript_2 rfl ?_
  refine lv_lconst (v := 1) hx hb dX9_runScript_3 (by decide) ?_
  refine lv_ldc2 hx hb hown (hts _ kq_1316) dX9_runScript_4 ?_
  refine kr_Si (As := [.long v1.toInt64, .long (1 : Int64), .long (4 : Int64)]) (rest := [.ref (ka_a G (25, 0, 0))]) C0 hK hP hS hl (km_X9_in l hI hq) kd_X9_in kq_1031 ⟨rfl, rfl, Nat.le_of_ble_eq_true rfl, Nat.le_of_ble_eq_true rfl⟩ rfl (Nat.le_of_ble_eq_true rfl) dX9_runScript_7 ⟨Nat.zero_le _, Nat.zero_le _⟩ (fun r2 σ1 H locs hq hP hS => ?_)
  refine lv_if_eq (tgt := 33) hx hb dX9_runScript_10 (by decide) (fun hc => ?_) (fun hc => ?_)
  · have hq := hq.1 hc
    exact kb_X9_runScript_33 hI C0 hK σ1 v1 v2 hq H locs hP hS ls (lv_sub hl [0, 1, 2] rfl)
  · have hq := hq.2 hc
    refine lv_lload_n hx hb dX9_runScript_13 rfl (lv_at hl 2 rfl) ?_
    refine lv_lconst (v := 0) hx hb dX9_runScript_14 (by decide) ?_
    refine lv_iconst (v := 4) hx hb dX9_runScript_15 (by decide) ?_
    refine lv_iload_n hx hb dX9_runScript_16 rfl (lv_at hl 1 rfl) ?_
    refine lv_imul hx hb dX9_runScript_17 ?_
    refine kr_Sl (As := [.int ((4 : Int32) * v1)]) (rest := [.long (0 : Int64), .long v2, .ref (ka_a G (25, 0, 0))]) C0 hK hP hS hl (km_X9_tenTo l hI hq) kd_X9_tenTo kq_1317 ⟨rfl, rfl, Nat.le_of_ble_eq_true rfl, Nat.le_of_ble_eq_true rfl⟩ rfl (Nat.le_of_ble_eq_true rfl) dX9_runScript_18 ⟨Nat.zero_le _, Nat.zero_le _⟩ (fun r4 σ3 H locs hq hP hS => ?_)
    refine lv_lconst (v := 1) hx hb dX9_runScript_21 (by decide) ?_
    refine lv_lsub hx hb dX9_runScript_22 ?_
    refine kr_Si (As := [.long v2, .long (0 : Int64), .long (r4 - (1 : Int64))]) (rest := [.ref (ka_a G (25, 0, 0))]) C0 hK hP hS hl (km_X9_in l hI hq) kd_X9_in kq_1031 ⟨rfl, rfl, Nat.le_of_ble_eq_true rfl, Nat.le_of_ble_eq_true rfl⟩ rfl (Nat.le_of_ble_eq_true rfl) dX9_runScript_23 ⟨Nat.zero_le _, Nat.zero_le _⟩ (fun r6 σ5 H locs hq hP hS => ?_)
    refine lv_if_eq (tgt := 33) hx hb dX9_runScript_26 (by decide) (fun hc => ?_) (fun hc => ?_)
    · have hq := hq.1 hc
      exact kb_X9_runScript_33 hI C0 hK σ5 v1 v2 hq H locs hP hS ls (lv_sub hl [0, 1, 2] rfl)
    · have hq := hq.2 hc
      refine lv_iconst (v := 0) hx hb dX9_runScript_29 (by decide) ?_
      refine lv_goto (tgt := 34) hx hb dX9_runScript_30 (by decide) ?_
      exact kb_X9_runScript_34 hI C0 hK σ5 v1 v2 (0 : Int32) hq H locs hP hS ls (lv_sub hl [0, 1, 2] rfl)
/-! GlossRowsModel.simulate(JI)I -/
def rm_X9_simulate : Room := { frames := 6, cells := 0, slots := 0, locals := 148 }
def kw_X9_simulate_210 (K39 : ka_S → Int32 → Int64 → Int32 → Int32 → Prop) (Q : Int32 → ka_S → Prop) (σ : ka_S) (v3 : Int32) (v4 : Int64) (v6 : Int32) (v7 : Int32) : Prop := kw_X9_rowsOf σ (38, 0, 0) (fun r31 σ30 => 
  ∀ x32 : Int32, x32 = (v6 + r31) → 
  ∀ x33 : Int32, x33 = v7 + (1 : Int32) →
  K39 σ30 v3 v4 x32 x33)
def kw_X9_simulate_39 (Q : Int32 → ka_S → Prop) : Nat → ka_S → Int32 → Int64 → Int32 → Int32 → Prop
  | 0, _, _, _, _, _ => False
  | n + 1, σ, v3, v4, v6, v7 => (v3 ≤ v7 → Q v6 σ) ∧
    (¬ v3 ≤ v7 → ∀ x7 : Int64, x7 = ((v4 * (6364136223846793005 : Int64)) + (1442695040888963407 : Int64)) → 
      ∀ x8 : Int32, x8 = (((x7.toUInt64 >>> ((33 : Int32).toInt64.toUInt64 &&& Int64.toUInt64 63)).toInt64).toInt32) → 
      ∀ x9 : Int32, x9 = (x8 / (4 : Int32)) → 
      ∀ x10 : Int32, x10 = (x8 - x8 / (4 : Int32) * (4 : Int32)) →
      (x10 = (0 : Int32) → vp_in (2 : Int32) 253 ∧
      ∀ σ12 : ka_S, σ12 = ka_wL σ (38, 0, 0) (2 : Int32).toNatClampNeg (((10 : Int32) + (x9 - x9 / (51 : Int32) * (51 : Int32))).toInt64) →
      kw_X9_simulate_210 (kw_X9_simulate_39 Q n) Q σ12 v3 x7 v6 v7) ∧
      (¬ x10 = (0 : Int32) → (x10 = (1 : Int32) → vp_in (4 : Int32) 253 ∧
      ∀ σ14 : ka_S, σ14 = ka_wL σ (38, 0, 0) (4 : Int32).toNatClampNeg ((x9 - x9 / (2 : Int32) * (2 : Int32)).toInt64) →
      kw_X9_simulate_210 (kw_X9_simulate_39 Q n) Q σ14 v3 x7 v6 v7) ∧
      (¬ x10 = (1 : Int32) → (x10 = (2 : Int32) → vp_in (3 : Int32) 253 ∧
      ∀ σ16 : ka_S, σ16 = ka_wL σ (38, 0, 0) (3 : Int32).toNatClampNeg (((1 : Int32) + (x9 - x9 / (3 : Int32) * (3 : Int32))).toInt64) →
      kw_X9_simulate_210 (kw_X9_simulate_39 Q n) Q σ16 v3 x7 v6 v7) ∧
      (¬ x10 = (2 : Int32) → kw_X9_many σ (38, 0, 0) (fun r18 σ17 => 
      (r18 ≤ (0 : Int32) → kw_X9_simulate_210 (kw_X9_simulate_39 Q n) Q σ17 v3 x7 v6 v7) ∧
      (¬ r18 ≤ (0 : Int32) → kw_X9_many σ17 (38, 0, 0) (fun r20 σ19 => 
        ¬ r20 = 0 ∧
        ∀ x21 : Int32, x21 = (x9 - x9 / r20 * r20) → 
        kw_X9_cell σ19 x21 (1 : Int32) (fun r23 σ22 => 
        vp_in r23 253 ∧
        ((σ22.2 (38, 0, 0) r23.toNatClampNeg) = (1 : Int64) → kw_X9_joinOn σ22 (38, 0, 0) x21 (fun σ29 => 
          kw_X9_simulate_210 (kw_X9_simulate_39 Q n) Q σ29 v3 x7 v6 v7)) ∧
        (¬ (σ22.2 (38, 0, 0) r23.toNatClampNeg) = (1 : Int64) → kw_X9_cell σ22 x21 (1 : Int32) (fun r26 σ25 => 
          vp_in r26 253 ∧
          ∀ σ28 : ka_S, σ28 = ka_wL σ25 (38, 0, 0) r26.toNatClampNeg (1 : Int64) →
          kw_X9_simulate_210 (kw_X9_simulate_39 Q n) Q σ28 v3 x7 v6 v7))))))))))
def kw_X9_simulate_18 (Q : Int32 → ka_S → Prop) (σ : ka_S) (v1 : Int64) (v3 : Int32) (t1 : Int32) : Prop := kw_X9_refused σ t1 (fun r4 σ3 => 
  (r4 = (0 : Int32) → kw_X9_tryOut σ3 (fun σ5 => 
    ∃ n6 : Nat, kw_X9_simulate_39 Q n6 σ5 v3 v1 (0 : Int32) (0 : Int32))) ∧
  (¬ r4 = (0 : Int32) → Q (0 : Int32) σ3))
def kw_X9_simulate (σ : ka_S) (v1 : Int64) (v3 : Int32) (Q : Int32 → ka_S → Prop) : Prop := kw_X9_in σ v3.toInt64 (1 : Int64) (99 : Int64) (fun r2 σ1 => 
  (r2 = (0 : Int32) → kw_X9_simulate_18 Q σ1 v1 v3 (1 : Int32)) ∧
  (¬ r2 = (0 : Int32) → kw_X9_simulate_18 Q σ1 v1 v3 (0 : Int32)))
set_option maxHeartbeats 4000000 in
set_option maxRecDepth 100000 in
theorem kb_X9_simulate_210 {p : Program} {l : Launch} {e : Env} {s : State} {m : MethodId} {args : Array Value} {below : List Frame} {meth : Method} {c : Code} {G : ka_G} (hI : ka_I G) (C0 : ka_C p s m args meth c cX9_simulate 11 "GlossRowsModel" (some .int)) (hK : ka_Kn G s) {Q : Int32 → ka_S → Prop} {K39 : ka_S → Int32 → Int64 → Int32 → Int32 → Prop} (hk39 : ∀ (σ : ka_S) (v3 : Int32) (v4 : Int64) (v6 : Int32) (v7 : Int32), K39 σ v3 v4 v6 v7 → ∀ (H : Heap) (locs : List Loc), ka_P G σ H → va_S (ka_A G) s.heap H locs → ∀ ls : Array Slot, lv_has ls 11 [(0, .ref (ka_a G (25, 0, 0))), (3, .int v3), (4, .long v4), (6, .int v6), (7, .int v7)] → W p l e rm_X9_simulate s m args below meth c H locs 0 0 (MQ below (va_Qi Q (ka_B G) (ka_A G)) args s 0 0 (ka_A G)) (F0 m 39 ls [])) : ∀ (σ : ka_S) (v3 : Int32) (v4 : Int64) (v6 : Int32) (v7 : Int32), kw_X9_simulate_210 K39 Q σ v3 v4 v6 v7 → ∀ (H : Heap) (locs : List Loc), ka_P G σ H → va_S (ka_A G) s.heap H locs → ∀ ls : Array Slot, lv_has ls 11 [(0, .ref (ka_a G (25, 0, 0))), (3, .int v3), (4, .long v4), (6, .int v6), (7, .int v7)] → W p l e rm_X9_simulate s m args below meth c H locs 0 0 (MQ below (va_Qi Q (ka_B G) (ka_A G)) args s 0 0 (ka_A G)) (F0 m 210 ls []) := by
  obtain ⟨hx, hb, -, hml, hown, hts, -⟩ := id C0
  intro σ v3 v4 v6 v7 hq H locs hP hS ls hl
  unfold kw_X9_simulate_210 at hq
  refine lv_iload hx hb dX9_simulate_210 (lv_at hl 3 rfl) ?_
  refine lv_aload_n hx hb dX9_simulate_212 rfl (lv_at hl 0 rfl) ?_
  refine lv_aload_n hx hb dX9_simulate_213 rfl (lv_at hl 0 rfl) ?_
  refine kg_X9_trial C0 hK hP (kv_s (by decide) (by decide)) kq_961 dX9_simulate_214 ?_
  refine kr_Vi (k := (25, 0, 0)) (As := [.ref (ka_a G (38, 0, 0))]) (rest := [.int v6]) C0 hK hP hS hl (km_X9_rowsOf l hI kl_38 hq) kd_X9_rowsOf kq_1329 (kv_s (by decide) (by decide)) rfl rfl rfl ⟨rfl, rfl, Nat.le_of_ble_eq_true rfl, Nat.le_of_ble_eq_true rfl⟩ rfl (Nat.le_of_ble_eq_true rfl) dX9_simulate_217 ⟨Nat.zero_le _, Nat.zero_le _⟩ (fun r31 σ30 H locs hq hP hS => ?_)
  refine lv_iadd hx hb dX9_simulate_220 ?_
  refine lv_topi (fun x32 ex32 => ?_)
  have hq := hq x32 ex32
  refine lv_istore (lv' := [(6, .int x32), (0, .ref (ka_a G (25, 0, 0))), (3, .int v3), (4, .long v4), (7, .int v7)]) hx hb dX9_simulate_221 hl (by decide) rfl (fun ls hl => ?_)
  obtain ⟨x33, ex33⟩ : ∃ y : Int32, y = v7 + (1 : Int32) := ⟨_, rfl⟩
  have hq := hq x33 ex33
  refine lv_iinc (v := x33) (lv' := [(7, .int x33), (6, .int x32), (0, .ref (ka_a G (25, 0, 0))), (3, .int v3), (4, .long v4)]) hx hb dX9_simulate_223 hl (k := 4) rfl (by rw [ex33]; rfl) (by decide) rfl (fun ls hl => ?_)
  refine lv_goto (tgt := 39) hx hb dX9_simulate_226 (by decide) ?_
  exact hk39 σ30 v3 v4 x32 x33 hq H locs hP hS ls (lv_sub hl [2, 3, 4, 1, 0] rfl)
set_option maxHeartbeats 4000000 in
set_option maxRecDepth 100000 in
theorem kb_X9_simulate_39 {p : Program} {l : Launch} {e : Env} {s : State} {m : MethodId} {args : Array Value} {below : List Frame} {meth : Method} {c : Code} {G : ka_G} (hI : ka_I G) (C0 : ka_C p s m args meth c cX9_simulate 11 "GlossRowsModel" (some .int)) (hK : ka_Kn G s) {Q : Int32 → ka_S → Prop} : ∀ (n : Nat) (σ : ka_S) (v3 : Int32) (v4 : Int64) (v6 : Int32) (v7 : Int32), kw_X9_simulate_39 Q n σ v3 v4 v6 v7 → ∀ (H : Heap) (locs : List Loc), ka_P G σ H → va_S (ka_A G) s.heap H locs → ∀ ls : Array Slot, lv_has ls 11 [(0, .ref (ka_a G (25, 0, 0))), (3, .int v3), (4, .long v4), (6, .int v6), (7, .int v7)] → W p l e rm_X9_simulate s m args below meth c H locs 0 0 (MQ below (va_Qi Q (ka_B G) (ka_A G)) args s 0 0 (ka_A G)) (F0 m 39 ls []) := by
  obtain ⟨hx, hb, -, hml, hown, hts, -⟩ := id C0
  intro n
  induction n with
  | zero =>
    intro σ v3 v4 v6 v7 hq
    rw [kw_X9_simulate_39] at hq
    exact hq.elim
  | succ n ih =>
    intro σ v3 v4 v6 v7 hq H locs hP hS ls hl
    rw [kw_X9_simulate_39] at hq
    refine lv_iload hx hb dX9_simulate_39 (lv_at hl 4 rfl) ?_
    refine lv_iload_n hx hb dX9_simulate_41 rfl (lv_at hl 1 rfl) ?_
    refine lv_icmp_ge (tgt := 229) hx hb dX9_simulate_42 (by decide) (fun hc => ?_) (fun hc => ?_)
    · have hq := hq.1 hc
      refine lv_iload hx hb dX9_simulate_229 (lv_at hl 3 rfl) ?_
      exact kr_iret C0 hK hP hS hq dX9_simulate_231
    · have hq := hq.2 hc
      refine lv_lload hx hb dX9_simulate_45 (lv_at hl 2 rfl) ?_
      refine lv_ldc2 hx hb hown (hts _ kq_1337) dX9_simulate_47 ?_
      refine lv_lmul hx hb dX9_simulate_50 ?_
      refine lv_ldc2 hx hb hown (hts _ kq_1338) dX9_simulate_51 ?_
      refine lv_ladd hx hb dX9_simulate_54 ?_
      refine lv_topl (fun x7 ex7 => ?_)
      have hq := hq x7 ex7
      refine lv_lstore (lv' := [(4, .long x7), (0, .ref (ka_a G (25, 0, 0))), (3, .int v3), (6, .int v6), (7, .int v7)]) hx hb dX9_simulate_55 hl (by decide) rfl (fun ls hl => ?_)
      refine lv_lload hx hb dX9_simulate_57 (lv_at hl 0 rfl) ?_
      refine lv_bipush (v := 33) hx hb dX9_simulate_59 (by decide) ?_
      refine lv_lushr hx hb dX9_simulate_61 rfl ?_
      refine lv_l2i hx hb dX9_simulate_62 rfl ?_
      refine lv_topi (fun x8 ex8 => ?_)
      have hq := hq x8 ex8
      refine lv_istore (lv' := [(8, .int x8), (4, .long x7), (0, .ref (ka_a G (25, 0, 0))), (3, .int v3), (6, .int v6), (7, .int v7)]) hx hb dX9_simulate_63 hl (by decide) rfl (fun ls hl => ?_)
      refine lv_iload hx hb dX9_simulate_65 (lv_at hl 0 rfl) ?_
      refine lv_iconst (v := 4) hx hb dX9_simulate_67 (by decide) ?_
      refine lv_idiv hx hb dX9_simulate_68 (by decide) ?_
      refine lv_topi (fun x9 ex9 => ?_)
      have hq := hq x9 ex9
      refine lv_istore (lv' := [(9, .int x9), (8, .int x8), (4, .long x7), (0, .ref (ka_a G (25, 0, 0))), (3, .int v3), (6, .int v6), (7, .int v7)]) hx hb dX9_simulate_69 hl (by decide) rfl (fun ls hl => ?_)
      refine lv_iload hx hb dX9_simulate_71 (lv_at hl 1 rfl) ?_
      refine lv_iconst (v := 4) hx hb dX9_simulate_73 (by decide) ?_
      refine lv_irem hx hb dX9_simulate_74 (by decide) ?_
      refine lv_topi (fun x10 ex10 => ?_)
      have hq := hq x10 ex10
      by_cases hsw0 : x10 = (0 : Int32)
      · have hq := hq.1 hsw0
        refine lv_tableIn (off := 25) (tgt := 100) hx hb dX9_simulate_75 (by rw [hsw0]; decide) (by rw [hsw0]; decide) (by rw [hsw0]; decide) (by decide) ?_
        refine lv_aload_n hx hb dX9_simulate_100 rfl (lv_at hl 3 rfl) ?_
        refine kg_X9_trial C0 hK hP (kv_s (by decide) (by decide)) kq_961 dX9_simulate_101 ?_
        refine lv_iconst (v := 2) hx hb dX9_simulate_104 (by decide) ?_
        refine lv_bipush (v := 10) hx hb dX9_simulate_105 (by decide) ?_
        refine lv_iload hx hb dX9_simulate_107 (lv_at hl 0 rfl) ?_
        refine lv_bipush (v := 51) hx hb dX9_simulate_109 (by decide) ?_
        refine lv_irem hx hb dX9_simulate_111 (by decide) ?_
        refine lv_iadd hx hb dX9_simulate_112 ?_
        refine lv_i2l hx hb dX9_simulate_113 rfl ?_
        obtain ⟨b11, hq⟩ := hq
        refine kr_last C0 hK hI hP hS (kv_s (by decide) (by decide)) (fun _ => rfl) b11 dX9_simulate_114 (fun H locs hP hS => ?_)
        obtain ⟨σ12, eσ12⟩ : ∃ z : ka_S, z = ka_wL σ (38, 0, 0) (2 : Int32).toNatClampNeg (((10 : Int32) + (x9 - x9 / (51 : Int32) * (51 : Int32))).toInt64) := ⟨_, rfl⟩
        rw [← eσ12] at hP
        have hq := hq σ12 eσ12
        refine lv_goto (tgt := 210) hx hb dX9_simulate_115 (by decide) ?_
        exact kb_X9_simulate_210 hI C0 hK ih σ12 v3 x7 v6 v7 hq H locs hP hS ls (lv_sub hl [3, 4, 2, 5, 6] rfl)
      · have hq := hq.2 hsw0
        by_cases hsw1 : x10 = (1 : Int32)
        · have hq := hq.1 hsw1
          refine lv_tableIn (off := 43) (tgt := 118) hx hb dX9_simulate_75 (by rw [hsw1]; decide) (by rw [hsw1]; decide) (by rw [hsw1]; decide) (by decide) ?_
          refine lv_aload_n hx hb dX9_simulate_118 rfl (lv_at hl 3 rfl) ?_
          refine kg_X9_trial C0 hK hP (kv_s (by decide) (by decide)) kq_961 dX9_simulate_119 ?_
          refine lv_iconst (v := 4) hx hb dX9_simulate_122 (by decide) ?_
          refine lv_iload hx hb dX9_simulate_123 (lv_at hl 0 rfl) ?_
          refine lv_iconst (v := 2) hx hb dX9_simulate_125 (by decide) ?_
          refine lv_irem hx hb dX9_simulate_126 (by decide) ?_
          refine lv_i2l hx hb dX9_simulate_127 rfl ?_
          obtain ⟨b13, hq⟩ := hq
          refine kr_last C0 hK hI hP hS (kv_s (by decide) (by decide)) (fun _ => rfl) b13 dX9_simulate_128 (fun H locs hP hS => ?_)
          obtain ⟨σ14, eσ14⟩ : ∃ z : ka_S, z = ka_wL σ (38, 0, 0) (4 : Int32).toNatClampNeg ((x9 - x9 / (2 : Int32) * (2 : Int32)).toInt64) := ⟨_, rfl⟩
          rw [← eσ14] at hP
          have hq := hq σ14 eσ14
          refine lv_goto (tgt := 210) hx hb dX9_simulate_129 (by decide) ?_
          exact kb_X9_simulate_210 hI C0 hK ih σ14 v3 x7 v6 v7 hq H locs hP hS ls (lv_sub hl [3, 4, 2, 5, 6] rfl)
        · have hq := hq.2 hsw1
          by_cases hsw2 : x10 = (2 : Int32)
          · have hq := hq.1 hsw2
            refine lv_tableIn (off := 57) (tgt := 132) hx hb dX9_simulate_75 (by rw [hsw2]; decide) (by rw [hsw2]; decide) (by rw [hsw2]; decide) (by decide) ?_
            refine lv_aload_n hx hb dX9_simulate_132 rfl (lv_at hl 3 rfl) ?_
            refine kg_X9_trial C0 hK hP (kv_s (by decide) (by decide)) kq_961 dX9_simulate_133 ?_
            refine lv_iconst (v := 3) hx hb dX9_simulate_136 (by decide) ?_
            refine lv_iconst (v := 1) hx hb dX9_simulate_137 (by decide) ?_
            refine lv_iload hx hb dX9_simulate_138 (lv_at hl 0 rfl) ?_
            refine lv_iconst (v := 3) hx hb dX9_simulate_140 (by decide) ?_
            refine lv_irem hx hb dX9_simulate_141 (by decide) ?_
            refine lv_iadd hx hb dX9_simulate_142 ?_
            refine lv_i2l hx hb dX9_simulate_143 rfl ?_
            obtain ⟨b15, hq⟩ := hq
            refine kr_last C0 hK hI hP hS (kv_s (by decide) (by decide)) (fun _ => rfl) b15 dX9_simulate_144 (fun H locs hP hS => ?_)
            obtain ⟨σ16, eσ16⟩ : ∃ z : ka_S, z = ka_wL σ (38, 0, 0) (3 : Int32).toNatClampNeg (((1 : Int32) + (x9 - x9 / (3 : Int32) * (3 : Int32))).toInt64) := ⟨_, rfl⟩
            rw [← eσ16] at hP
            have hq := hq σ16 eσ16
            refine lv_goto (tgt := 210) hx hb dX9_simulate_145 (by decide) ?_
            exact kb_X9_simulate_210 hI C0 hK ih σ16 v3 x7 v6 v7 hq H locs hP hS ls (lv_sub hl [3, 4, 2, 5, 6] rfl)
          · have hq := hq.2 hsw2
            refine lv_tableOut (tgt := 148) hx hb dX9_simulate_75 (kt_0_2 (x := x10) hsw0 hsw1 hsw2) (by decide) ?_
            refine lv_aload_n hx hb dX9_simulate_148 rfl (lv_at hl 3 rfl) ?_
            refine kg_X9_trial C0 hK hP (kv_s (by decide) (by decide)) kq_961 dX9_simulate_149 ?_
            refine kr_Si (As := [.ref (ka_a G (38, 0, 0))]) (rest := []) C0 hK hP hS hl (km_X9_many l hI kl_38 hq) kd_X9_many kq_1077 ⟨rfl, rfl, Nat.le_of_ble_eq_true rfl, Nat.le_of_ble_eq_true rfl⟩ rfl (Nat.le_of_ble_eq_true rfl) dX9_simulate_152 ⟨Nat.zero_le _, Nat.zero_le _⟩ (fun r18 σ17 H locs hq hP hS => ?_)
            refine lv_if_le (tgt := 210) hx hb dX9_simulate_155 (by decide) (fun hc => ?_) (fun hc => ?_)
            · have hq := hq.1 hc
              exact kb_X9_simulate_210 hI C0 hK ih σ17 v3 x7 v6 v7 hq H locs hP hS ls (lv_sub hl [3, 4, 2, 5, 6] rfl)
            · have hq := hq.2 hc
              refine lv_iload hx hb dX9_simulate_158 (lv_at hl 0 rfl) ?_
              refine lv_aload_n hx hb dX9_simulate_160 rfl (lv_at hl 3 rfl) ?_
              refine kg_X9_trial C0 hK hP (kv_s (by decide) (by decide)) kq_961 dX9_simulate_161 ?_
              refine kr_Si (As := [.ref (ka_a G (38, 0, 0))]) (rest := [.int x9]) C0 hK hP hS hl (km_X9_many l hI kl_38 hq) kd_X9_many kq_1077 ⟨rfl, rfl, Nat.le_of_ble_eq_true rfl, Nat.le_of_ble_eq_true rfl⟩ rfl (Nat.le_of_ble_eq_true rfl) dX9_simulate_164 ⟨Nat.zero_le _, Nat.zero_le _⟩ (fun r20 σ19 H locs hq hP hS => ?_)
              obtain ⟨hne, hq⟩ := hq
              refine lv_irem hx hb dX9_simulate_167 hne ?_
              refine lv_topi (fun x21 ex21 => ?_)
              have hq := hq x21 ex21
              refine lv_istore (lv' := [(10, .int x21), (9, .int x9), (8, .int x8), (4, .long x7), (0, .ref (ka_a G (25, 0, 0))), (3, .int v3), (6, .int v6), (7, .int v7)]) hx hb dX9_simulate_168 hl (by decide) rfl (fun ls hl => ?_)
              refine lv_aload_n hx hb dX9_simulate_170 rfl (lv_at hl 4 rfl) ?_
              refine kg_X9_trial C0 hK hP (kv_s (by decide) (by decide)) kq_961 dX9_simulate_171 ?_
              refine lv_iload hx hb dX9_simulate_174 (lv_at hl 0 rfl) ?_
              refine lv_iconst (v := 1) hx hb dX9_simulate_176 (by decide) ?_
              refine kr_Si (As := [.int x21, .int (1 : Int32)]) (rest := [.ref (ka_a G (38, 0, 0))]) C0 hK hP hS hl (km_X9_cell l hI hq) kd_X9_cell kq_1102 ⟨rfl, rfl, Nat.le_of_ble_eq_true rfl, Nat.le_of_ble_eq_true rfl⟩ rfl (Nat.le_of_ble_eq_true rfl) dX9_simulate_177 ⟨Nat.zero_le _, Nat.zero_le _⟩ (fun r23 σ22 H locs hq hP hS => ?_)
              obtain ⟨b24, hq⟩ := hq
              refine kr_lald C0 hK hP (kv_s (by decide) (by decide)) rfl b24 dX9_simulate_180 ?_
              refine lv_lconst (v := 1) hx hb dX9_simulate_181 (by decide) ?_
              refine kr_cne (tgt := 198) C0 dX9_simulate_182 dX9_simulate_183 (by decide) (fun hc => ?_) (fun hc => ?_)
              · have hq := hq.2 hc
                refine lv_aload_n hx hb dX9_simulate_198 rfl (lv_at hl 4 rfl) ?_
                refine kg_X9_trial C0 hK hP (kv_s (by decide) (by decide)) kq_961 dX9_simulate_199 ?_
                refine lv_iload hx hb dX9_simulate_202 (lv_at hl 0 rfl) ?_
                refine lv_iconst (v := 1) hx hb dX9_simulate_204 (by decide) ?_
                refine kr_Si (As := [.int x21, .int (1 : Int32)]) (rest := [.ref (ka_a G (38, 0, 0))]) C0 hK hP hS hl (km_X9_cell l hI hq) kd_X9_cell kq_1102 ⟨rfl, rfl, Nat.le_of_ble_eq_true rfl, Nat.le_of_ble_eq_true rfl⟩ rfl (Nat.le_of_ble_eq_true rfl) dX9_simulate_205 ⟨Nat.zero_le _, Nat.zero_le _⟩ (fun r26 σ25 H locs hq hP hS => ?_)
                refine lv_lconst (v := 1) hx hb dX9_simulate_208 (by decide) ?_
                obtain ⟨b27, hq⟩ := hq
                refine kr_last C0 hK hI hP hS (kv_s (by decide) (by decide)) (fun _ => rfl) b27 dX9_simulate_209 (fun H locs hP hS => ?_)
                obtain ⟨σ28, eσ28⟩ : ∃ z : ka_S, z = ka_wL σ25 (38, 0, 0) r26.toNatClampNeg (1 : Int64) := ⟨_, rfl⟩
                rw [← eσ28] at hP
                have hq := hq σ28 eσ28
                exact kb_X9_simulate_210 hI C0 hK ih σ28 v3 x7 v6 v7 hq H locs hP hS ls (lv_sub hl [4, 5, 3, 6, 7] rfl)
              · have hq := hq.1 hc
                refine lv_aload_n hx hb dX9_simulate_186 rfl (lv_at hl 4 rfl) ?_
                refine kg_X9_trial C0 hK hP (kv_s (by decide) (by decide)) kq_961 dX9_simulate_187 ?_
                refine lv_iload hx hb dX9_simulate_190 (lv_at hl 0 rfl) ?_
                refine kr_Sv (As := [.ref (ka_a G (38, 0, 0)), .int x21]) (rest := []) C0 hK hP hS hl (km_X9_joinOn l hI kl_38 hq) kd_X9_joinOn kq_1231 ⟨rfl, rfl, Nat.le_of_ble_eq_true rfl, Nat.le_of_ble_eq_true rfl⟩ rfl (Nat.le_of_ble_eq_true rfl) dX9_simulate_192 ⟨Nat.zero_le _, Nat.zero_le _⟩ (fun σ29 H locs hq hP hS => ?_)
                refine lv_goto (tgt := 210) hx hb dX9_simulate_195 (by decide) ?_
                exact kb_X9_simulate_210 hI C0 hK ih σ29 v3 x7 v6 v7 hq H locs hP hS ls (lv_sub hl [4, 5, 3, 6, 7] rfl)
set_option maxHeartbeats 4000000 in
set_option maxRecDepth 100000 in
theorem kb_X9_simulate_18 {p : Program} {l : Launch} {e : Env} {s : State} {m : MethodId} {args : Array Value} {below : List Frame} {meth : Method} {c : Code} {G : ka_G} (hI : ka_I G) (C0 : ka_C p s m args meth c cX9_simulate 11 "GlossRowsModel" (some .int)) (hK : ka_Kn G s) {Q : Int32 → ka_S → Prop} : ∀ (σ : ka_S) (v1 : Int64) (v3 : Int32) (t1 : Int32), kw_X9_simulate_18 Q σ v1 v3 t1 → ∀ (H : Heap) (locs : List Loc), ka_P G σ H → va_S (ka_A G) s.heap H locs → ∀ ls : Array Slot, lv_has ls 11 [(0, .ref (ka_a G (25, 0, 0))), (1, .long v1), (3, .int v3)] → W p l e rm_X9_simulate s m args below meth c H locs 0 0 (MQ below (va_Qi Q (ka_B G) (ka_A G)) args s 0 0 (ka_A G)) (F0 m 18 ls [.int t1, .ref (ka_a G (25, 0, 0))]) := by
  obtain ⟨hx, hb, -, hml, hown, hts, -⟩ := id C0
  intro σ v1 v3 t1 hq H locs hP hS ls hl
  unfold kw_X9_simulate_18 at hq
  refine kr_Vi (k := (25, 0, 0)) (As := [.int t1]) (rest := []) C0 hK hP hS hl (km_X9_refused l hI hq) kd_X9_refused kq_1034 (kv_s (by decide) (by decide)) rfl rfl rfl ⟨rfl, rfl, Nat.le_of_ble_eq_true rfl, Nat.le_of_ble_eq_true rfl⟩ rfl (Nat.le_of_ble_eq_true rfl) dX9_simulate_18 ⟨Nat.zero_le _, Nat.zero_le _⟩ (fun r4 σ3 H locs hq hP hS => ?_)
  refine lv_if_eq (tgt := 26) hx hb dX9_simulate_21 (by decide) (fun hc => ?_) (fun hc => ?_)
  · have hq := hq.1 hc
    refine lv_aload_n hx hb dX9_simulate_26 rfl (lv_at hl 0 rfl) ?_
    refine kr_Vv (k := (25, 0, 0)) (As := []) (rest := []) C0 hK hP hS hl (km_X9_tryOut l hI hq) kd_X9_tryOut kq_1320 (kv_s (by decide) (by decide)) rfl rfl rfl ⟨rfl, rfl, Nat.le_of_ble_eq_true rfl, Nat.le_of_ble_eq_true rfl⟩ rfl (Nat.le_of_ble_eq_true rfl) dX9_simulate_27 ⟨Nat.zero_le _, Nat.zero_le _⟩ (fun σ5 H locs hq hP hS => ?_)
    refine lv_lload_n hx hb dX9_simulate_30 rfl (lv_at hl 1 rfl) ?_
    refine lv_lstore (lv' := [(4, .long v1), (0, .ref (ka_a G (25, 0, 0))), (1, .long v1), (3, .int v3)]) hx hb dX9_simulate_31 hl (by decide) rfl (fun ls hl => ?_)
    refine lv_iconst (v := 0) hx hb dX9_simulate_33 (by decide) ?_
    refine lv_istore (lv' := [(6, .int (0 : Int32)), (4, .long v1), (0, .ref (ka_a G (25, 0, 0))), (1, .long v1), (3, .int v3)]) hx hb dX9_simulate_34 hl (by decide) rfl (fun ls hl => ?_)
    refine lv_iconst (v := 0) hx hb dX9_simulate_36 (by decide) ?_
    refine lv_istore (lv' := [(7, .int (0 : Int32)), (6, .int (0 : Int32)), (4, .long v1), (0, .ref (ka_a G (25, 0, 0))), (1, .long v1), (3, .int v3)]) hx hb dX9_simulate_37 hl (by decide) rfl (fun ls hl => ?_)
    obtain ⟨n6, hq⟩ := hq
    exact kb_X9_simulate_39 hI C0 hK n6 σ5 v3 v1 (0 : Int32) (0 : Int32) hq H locs hP hS ls (lv_sub hl [3, 5, 2, 1, 0] rfl)
  · have hq := hq.2 hc
    refine lv_iconst (v := 0) hx hb dX9_simulate_24 (by decide) ?_
    exact kr_iret C0 hK hP hS hq dX9_simulate_25
set_option maxHeartbeats 4000000 in
set_option maxRecDepth 100000 in
theorem km_X9_simulate (l : Launch) {G : ka_G} (hI : ka_I G) {σ : ka_S} {v1 : Int64} {v3 : Int32} {Q : Int32 → ka_S → Prop} (hq : kw_X9_simulate σ v1 v3 Q) : kc_i l yX9_simulate (kw_ yX9_simulate cX9_simulate 11 (some .int)) rm_X9_simulate G [.ref (ka_a G (25, 0, 0)), .long v1, .int v3] σ Q := by
  refine ka_of "GlossRowsModel" rfl (by decide) (Nat.le_of_ble_eq_true rfl) ?_
  intro p e s m below meth c C0 hK H locs hP hS ls hl
  obtain ⟨hx, hb, -, hml, hown, hts, -⟩ := id C0
  have hl : lv_has ls 11 [(0, .ref (ka_a G (25, 0, 0))), (1, .long v1), (3, .int v3)] := hl
  unfold kw_X9_simulate at hq
  refine lv_aload_n hx hb dX9_simulate_0 rfl (lv_at hl 0 rfl) ?_
  refine lv_iload_n hx hb dX9_simulate_1 rfl (lv_at hl 2 rfl) ?_
  refine lv_i2l hx hb dX9_simulate_2 rfl ?_
  refine lv_lconst (v := 1) hx hb dX9_simulate_3 (by decide) ?_
  refine lv_ldc2 hx hb hown (hts _ kq_1303) dX9_simulate_4 ?_
  refine kr_Si (As := [.long v3.toInt64, .long (1 : Int64), .long (99 : Int64)]) (rest := [.ref (ka_a G (25, 0, 0))]) C0 hK hP hS hl (km_X9_in l hI hq) kd_X9_in kq_1031 ⟨rfl, rfl, Nat.le_of_ble_eq_true rfl, Nat.le_of_ble_eq_true rfl⟩ rfl (Nat.le_of_ble_eq_true rfl) dX9_simulate_7 ⟨Nat.zero_le _, Nat.zero_le _⟩ (fun r2 σ1 H locs hq hP hS => ?_)
  refine lv_if_eq (tgt := 17) hx hb dX9_simulate_10 (by decide) (fun hc => ?_) (fun hc => ?_)
  · have hq := hq.1 hc
    refine lv_iconst (v := 1) hx hb dX9_simulate_17 (by decide) ?_
    exact kb_X9_simulate_18 hI C0 hK σ1 v1 v3 (1 : Int32) hq H locs hP hS ls (lv_sub hl [0, 1, 2] rfl)
  · have hq := hq.2 hc
    refine lv_iconst (v := 0) hx hb dX9_simulate_13 (by decide) ?_
    refine lv_goto (tgt := 18) hx hb dX9_simulate_14 (by decide) ?_
    exact kb_X9_simulate_18 hI C0 hK σ1 v1 v3 (0 : Int32) hq H locs hP hS ls (lv_sub hl [0, 1, 2] rfl)
/-! GlossRowsModel.save(I)I -/
def rm_X9_save : Room := { frames := 1, cells := 0, slots := 0, locals := 25 }
def kw_X9_save_16 (Q : Int32 → ka_S → Prop) (σ : ka_S) (v1 : Int32) (t1 : Int32) : Prop := kw_X9_refused σ t1 (fun r4 σ3 => 
  (r4 = (0 : Int32) → vp_in v1 2 ∧
    ∀ σ6 : ka_S, σ6 = ka_wI σ3 (35, 0, 0) v1.toNatClampNeg (1 : Int32) →
    kw_X9_copy σ6 (37, 0, 0) (40, 0, 0) (0 : Int32) ((253 : Int32) * v1) (253 : Int32) (fun σ7 => 
    kw_X9_many σ7 (37, 0, 0) (fun r9 σ8 => 
    Q r9 σ8))) ∧
  (¬ r4 = (0 : Int32) → Q (0 : Int32) σ3))
def kw_X9_save (σ : ka_S) (v1 : Int32) (Q : Int32 → ka_S → Prop) : Prop := kw_X9_in σ v1.toInt64 (0 : Int64) (1 : Int64) (fun r2 σ1 => 
  (r2 = (0 : Int32) → kw_X9_save_16 Q σ1 v1 (1 : Int32)) ∧
  (¬ r2 = (0 : Int32) → kw_X9_save_16 Q σ1 v1 (0 : Int32)))
set_option maxHeartbeats 4000000 in
set_option maxRecDepth 100000 in
theorem kb_X9_save_16 {p : Program} {l : Launch} {e : Env} {s : State} {m : MethodId} {args : Array Value} {below : List Frame} {meth : Method} {c : Code} {G : ka_G} (hI : ka_I G) (C0 : ka_C p s m args meth c cX9_save 2 "GlossRowsModel" (some .int)) (hK : ka_Kn G s) {Q : Int32 → ka_S → Prop} : ∀ (σ : ka_S) (v1 : Int32) (t1 : Int32), kw_X9_save_16 Q σ v1 t1 → ∀ (H : Heap) (locs : List Loc), ka_P G σ H → va_S (ka_A G) s.heap H locs → ∀ ls : Array Slot, lv_has ls 2 [(0, .ref (ka_a G (25, 0, 0))), (1, .int v1)] → W p l e rm_X9_save s m args below meth c H locs 0 0 (MQ below (va_Qi Q (ka_B G) (ka_A G)) args s 0 0 (ka_A G)) (F0 m 16 ls [.int t1, .ref (ka_a G (25, 0, 0))]) := by
  obtain ⟨hx, hb, -, hml, hown, hts, -⟩ := id C0
  intro σ v1 t1 hq H locs hP hS ls hl
  unfold kw_X9_save_16 at hq
  refine kr_Vi (k := (25, 0, 0)) (As := [.int t1]) (rest := []) C0 hK hP hS hl (km_X9_refused l hI hq) kd_X9_refused kq_1034 (kv_s (by decide) (by decide)) rfl rfl rfl ⟨rfl, rfl, Nat.le_of_ble_eq_true rfl, Nat.le_of_ble_eq_true rfl⟩ rfl (Nat.le_of_ble_eq_true rfl) dX9_save_16 ⟨Nat.zero_le _, Nat.zero_le _⟩ (fun r4 σ3 H locs hq hP hS => ?_)
  refine lv_if_eq (tgt := 24) hx hb dX9_save_19 (by decide) (fun hc => ?_) (fun hc => ?_)
  · have hq := hq.1 hc
    refine lv_aload_n hx hb dX9_save_24 rfl (lv_at hl 0 rfl) ?_
    refine kg_X9_isKept C0 hK hP (kv_s (by decide) (by decide)) kq_965 dX9_save_25 ?_
    refine lv_iload_n hx hb dX9_save_28 rfl (lv_at hl 1 rfl) ?_
    refine lv_iconst (v := 1) hx hb dX9_save_29 (by decide) ?_
    obtain ⟨b5, hq⟩ := hq
    refine kr_zast C0 hK hI hP hS (kv_s (by decide) (by decide)) (fun _ => rfl) b5 rfl dX9_save_30 (fun H locs hP hS => ?_)
    obtain ⟨σ6, eσ6⟩ : ∃ z : ka_S, z = ka_wI σ3 (35, 0, 0) v1.toNatClampNeg (1 : Int32) := ⟨_, rfl⟩
    rw [← eσ6] at hP
    have hq := hq σ6 eσ6
    refine lv_aload_n hx hb dX9_save_31 rfl (lv_at hl 0 rfl) ?_
    refine kg_X9_now C0 hK hP (kv_s (by decide) (by decide)) kq_960 dX9_save_32 ?_
    refine lv_iconst (v := 0) hx hb dX9_save_35 (by decide) ?_
    refine lv_aload_n hx hb dX9_save_36 rfl (lv_at hl 0 rfl) ?_
    refine kg_X9_kept C0 hK hP (kv_s (by decide) (by decide)) kq_964 dX9_save_37 ?_
    refine lv_sipush (v := 253) hx hb dX9_save_40 (by decide) ?_
    refine lv_iload_n hx hb dX9_save_43 rfl (lv_at hl 1 rfl) ?_
    refine lv_imul hx hb dX9_save_44 ?_
    refine lv_sipush (v := 253) hx hb dX9_save_45 (by decide) ?_
    refine kr_Sv (As := [.ref (ka_a G (37, 0, 0)), .int (0 : Int32), .ref (ka_a G (40, 0, 0)), .int ((253 : Int32) * v1), .int (253 : Int32)]) (rest := []) C0 hK hP hS hl (km_X9_copy l hI kl_37 kl_40 hq) kd_X9_copy kq_1080 ⟨rfl, rfl, Nat.le_of_ble_eq_true rfl, Nat.le_of_ble_eq_true rfl⟩ rfl (Nat.le_of_ble_eq_true rfl) dX9_save_48 ⟨Nat.zero_le _, Nat.zero_le _⟩ (fun σ7 H locs hq hP hS => ?_)
    refine lv_aload_n hx hb dX9_save_51 rfl (lv_at hl 0 rfl) ?_
    refine kg_X9_now C0 hK hP (kv_s (by decide) (by decide)) kq_960 dX9_save_52 ?_
    refine kr_Si (As := [.ref (ka_a G (37, 0, 0))]) (rest := []) C0 hK hP hS hl (km_X9_many l hI kl_37 hq) kd_X9_many kq_1077 ⟨rfl, rfl, Nat.le_of_ble_eq_true rfl, Nat.le_of_ble_eq_true rfl⟩ rfl (Nat.le_of_ble_eq_true rfl) dX9_save_55 ⟨Nat.zero_le _, Nat.zero_le _⟩ (fun r9 σ8 H locs hq hP hS => ?_)
    exact kr_iret C0 hK hP hS hq dX9_save_58
  · have hq := hq.2 hc
    refine lv_iconst (v := 0) hx hb dX9_save_22 (by decide) ?_
    exact kr_iret C0 hK hP hS hq dX9_save_23
set_option maxHeartbeats 4000000 in
set_option maxRecDepth 100000 in
theorem km_X9_save (l : Launch) {G : ka_G} (hI : ka_I G) {σ : ka_S} {v1 : Int32} {Q : Int32 → ka_S → Prop} (hq : kw_X9_save σ v1 Q) : kc_i l yX9_save (kw_ yX9_save cX9_save 2 (some .int)) rm_X9_save G [.ref (ka_a G (25, 0, 0)), .int v1] σ Q := by
  refine ka_of "GlossRowsModel" rfl (by decide) (Nat.le_of_ble_eq_true rfl) ?_
  intro p e s m below meth c C0 hK H locs hP hS ls hl
  obtain ⟨hx, hb, -, hml, hown, hts, -⟩ := id C0
  have hl : lv_has ls 2 [(0, .ref (ka_a G (25, 0, 0))), (1, .int v1)] := hl
  unfold kw_X9_save at hq
  refine lv_aload_n hx hb dX9_save_0 rfl (lv_at hl 0 rfl) ?_
  refine lv_iload_n hx hb dX9_save_1 rfl (lv_at hl 1 rfl) ?_
  refine lv_i2l hx hb dX9_save_2 rfl ?_
  refine lv_lconst (v := 0) hx hb dX9_save_3 (by decide) ?_
  refine lv_lconst (v := 1) hx hb dX9_save_4 (by decide) ?_
  refine kr_Si (As := [.long v1.toInt64, .long (0 : Int64), .long (1 : Int64)]) (rest := [.ref (ka_a G (25, 0, 0))]) C0 hK hP hS hl (km_X9_in l hI hq) kd_X9_in kq_1031 ⟨rfl, rfl, Nat.le_of_ble_eq_true rfl, Nat.le_of_ble_eq_true rfl⟩ rfl (Nat.le_of_ble_eq_true rfl) dX9_save_5 ⟨Nat.zero_le _, Nat.zero_le _⟩ (fun r2 σ1 H locs hq hP hS => ?_)
  refine lv_if_eq (tgt := 15) hx hb dX9_save_8 (by decide) (fun hc => ?_) (fun hc => ?_)
  · have hq := hq.1 hc
    refine lv_iconst (v := 1) hx hb dX9_save_15 (by decide) ?_
    exact kb_X9_save_16 hI C0 hK σ1 v1 (1 : Int32) hq H locs hP hS ls (lv_sub hl [0, 1] rfl)
  · have hq := hq.2 hc
    refine lv_iconst (v := 0) hx hb dX9_save_11 (by decide) ?_
    refine lv_goto (tgt := 16) hx hb dX9_save_12 (by decide) ?_
    exact kb_X9_save_16 hI C0 hK σ1 v1 (0 : Int32) hq H locs hP hS ls (lv_sub hl [0, 1] rfl)
/-! GlossRowsModel.restore(I)I -/
def rm_X9_restore : Room := { frames := 1, cells := 0, slots := 0, locals := 25 }
def kw_X9_restore_29 (Q : Int32 → ka_S → Prop) (σ : ka_S) (v1 : Int32) (t1 : Int32) : Prop := kw_X9_refused σ t1 (fun r5 σ4 => 
  (r5 = (0 : Int32) → kw_X9_copy σ4 (40, 0, 0) (37, 0, 0) ((253 : Int32) * v1) (0 : Int32) (253 : Int32) (fun σ6 => 
    ∀ σ7 : ka_S, σ7 = ka_wI σ6 (25, 0, 0) 8 (0 : Int32) →
    kw_X9_many σ7 (37, 0, 0) (fun r9 σ8 => 
    Q r9 σ8))) ∧
  (¬ r5 = (0 : Int32) → Q (0 : Int32) σ4))
def kw_X9_restore (σ : ka_S) (v1 : Int32) (Q : Int32 → ka_S → Prop) : Prop := kw_X9_in σ v1.toInt64 (0 : Int64) (1 : Int64) (fun r2 σ1 => 
  (r2 = (0 : Int32) → kw_X9_restore_29 Q σ1 v1 (1 : Int32)) ∧
  (¬ r2 = (0 : Int32) → vp_in v1 2 ∧
    ((σ1.1 (35, 0, 0) v1.toNatClampNeg) = (0 : Int32) → kw_X9_restore_29 Q σ1 v1 (2 : Int32)) ∧
    (¬ (σ1.1 (35, 0, 0) v1.toNatClampNeg) = (0 : Int32) → kw_X9_restore_29 Q σ1 v1 (0 : Int32))))
set_option maxHeartbeats 4000000 in
set_option maxRecDepth 100000 in
theorem kb_X9_restore_29 {p : Program} {l : Launch} {e : Env} {s : State} {m : MethodId} {args : Array Value} {below : List Frame} {meth : Method} {c : Code} {G : ka_G} (hI : ka_I G) (C0 : ka_C p s m args meth c cX9_restore 2 "GlossRowsModel" (some .int)) (hK : ka_Kn G s) {Q : Int32 → ka_S → Prop} : ∀ (σ : ka_S) (v1 : Int32) (t1 : Int32), kw_X9_restore_29 Q σ v1 t1 → ∀ (H : Heap) (locs : List Loc), ka_P G σ H → va_S (ka_A G) s.heap H locs → ∀ ls : Array Slot, lv_has ls 2 [(0, .ref (ka_a G (25, 0, 0))), (1, .int v1)] → W p l e rm_X9_restore s m args below meth c H locs 0 0 (MQ below (va_Qi Q (ka_B G) (ka_A G)) args s 0 0 (ka_A G)) (F0 m 29 ls [.int t1, .ref (ka_a G (25, 0, 0))]) := by
  obtain ⟨hx, hb, -, hml, hown, hts, -⟩ := id C0
  intro σ v1 t1 hq H locs hP hS ls hl
  unfold kw_X9_restore_29 at hq
  refine kr_Vi (k := (25, 0, 0)) (As := [.int t1]) (rest := []) C0 hK hP hS hl (km_X9_refused l hI hq) kd_X9_refused kq_1034 (kv_s (by decide) (by decide)) rfl rfl rfl ⟨rfl, rfl, Nat.le_of_ble_eq_true rfl, Nat.le_of_ble_eq_true rfl⟩ rfl (Nat.le_of_ble_eq_true rfl) dX9_restore_29 ⟨Nat.zero_le _, Nat.zero_le _⟩ (fun r5 σ4 H locs hq hP hS => ?_)
  refine lv_if_eq (tgt := 37) hx hb dX9_restore_32 (by decide) (fun hc => ?_) (fun hc => ?_)
  · have hq := hq.1 hc
    refine lv_aload_n hx hb dX9_restore_37 rfl (lv_at hl 0 rfl) ?_
    refine kg_X9_kept C0 hK hP (kv_s (by decide) (by decide)) kq_964 dX9_restore_38 ?_
    refine lv_sipush (v := 253) hx hb dX9_restore_41 (by decide) ?_
    refine lv_iload_n hx hb dX9_restore_44 rfl (lv_at hl 1 rfl) ?_
    refine lv_imul hx hb dX9_restore_45 ?_
    refine lv_aload_n hx hb dX9_restore_46 rfl (lv_at hl 0 rfl) ?_
    refine kg_X9_now C0 hK hP (kv_s (by decide) (by decide)) kq_960 dX9_restore_47 ?_
    refine lv_iconst (v := 0) hx hb dX9_restore_50 (by decide) ?_
    refine lv_sipush (v := 253) hx hb dX9_restore_51 (by decide) ?_
    refine kr_Sv (As := [.ref (ka_a G (40, 0, 0)), .int ((253 : Int32) * v1), .ref (ka_a G (37, 0, 0)), .int (0 : Int32), .int (253 : Int32)]) (rest := []) C0 hK hP hS hl (km_X9_copy l hI kl_40 kl_37 hq) kd_X9_copy kq_1080 ⟨rfl, rfl, Nat.le_of_ble_eq_true rfl, Nat.le_of_ble_eq_true rfl⟩ rfl (Nat.le_of_ble_eq_true rfl) dX9_restore_54 ⟨Nat.zero_le _, Nat.zero_le _⟩ (fun σ6 H locs hq hP hS => ?_)
    refine lv_aload_n hx hb dX9_restore_57 rfl (lv_at hl 0 rfl) ?_
    refine lv_iconst (v := 0) hx hb dX9_restore_58 (by decide) ?_
    refine kp_X9_acts C0 hK hI hP hS (kv_s (by decide) (by decide)) kq_963 dX9_restore_59 (fun H locs hP hS => ?_)
    obtain ⟨σ7, eσ7⟩ : ∃ z : ka_S, z = ka_wI σ6 (25, 0, 0) 8 (0 : Int32) := ⟨_, rfl⟩
    rw [← eσ7] at hP
    have hq := hq σ7 eσ7
    refine lv_aload_n hx hb dX9_restore_62 rfl (lv_at hl 0 rfl) ?_
    refine kg_X9_now C0 hK hP (kv_s (by decide) (by decide)) kq_960 dX9_restore_63 ?_
    refine kr_Si (As := [.ref (ka_a G (37, 0, 0))]) (rest := []) C0 hK hP hS hl (km_X9_many l hI kl_37 hq) kd_X9_many kq_1077 ⟨rfl, rfl, Nat.le_of_ble_eq_true rfl, Nat.le_of_ble_eq_true rfl⟩ rfl (Nat.le_of_ble_eq_true rfl) dX9_restore_66 ⟨Nat.zero_le _, Nat.zero_le _⟩ (fun r9 σ8 H locs hq hP hS => ?_)
    exact kr_iret C0 hK hP hS hq dX9_restore_69
  · have hq := hq.2 hc
    refine lv_iconst (v := 0) hx hb dX9_restore_35 (by decide) ?_
    exact kr_iret C0 hK hP hS hq dX9_restore_36
set_option maxHeartbeats 4000000 in
set_option maxRecDepth 100000 in
theorem km_X9_restore (l : Launch) {G : ka_G} (hI : ka_I G) {σ : ka_S} {v1 : Int32} {Q : Int32 → ka_S → Prop} (hq : kw_X9_restore σ v1 Q) : kc_i l yX9_restore (kw_ yX9_restore cX9_restore 2 (some .int)) rm_X9_restore G [.ref (ka_a G (25, 0, 0)), .int v1] σ Q := by
  refine ka_of "GlossRowsModel" rfl (by decide) (Nat.le_of_ble_eq_true rfl) ?_
  intro p e s m below meth c C0 hK H locs hP hS ls hl
  obtain ⟨hx, hb, -, hml, hown, hts, -⟩ := id C0
  have hl : lv_has ls 2 [(0, .ref (ka_a G (25, 0, 0))), (1, .int v1)] := hl
  unfold kw_X9_restore at hq
  refine lv_aload_n hx hb dX9_restore_0 rfl (lv_at hl 0 rfl) ?_
  refine lv_iload_n hx hb dX9_restore_1 rfl (lv_at hl 1 rfl) ?_
  refine lv_i2l hx hb dX9_restore_2 rfl ?_
  refine lv_lconst (v := 0) hx hb dX9_restore_3 (by decide) ?_
  refine lv_lconst (v := 1) hx hb dX9_restore_4 (by decide) ?_
  refine kr_Si (As := [.long v1.toInt64, .long (0 : Int64), .long (1 : Int64)]) (rest := [.ref (ka_a G (25, 0, 0))]) C0 hK hP hS hl (km_X9_in l hI hq) kd_X9_in kq_1031 ⟨rfl, rfl, Nat.le_of_ble_eq_true rfl, Nat.le_of_ble_eq_true rfl⟩ rfl (Nat.le_of_ble_eq_true rfl) dX9_restore_5 ⟨Nat.zero_le _, Nat.zero_le _⟩ (fun r2 σ1 H locs hq hP hS => ?_)
  refine lv_if_ne (tgt := 15) hx hb dX9_restore_8 (by decide) (fun hc => ?_) (fun hc => ?_)
  · have hq := hq.2 hc
    refine lv_aload_n hx hb dX9_restore_15 rfl (lv_at hl 0 rfl) ?_
    refine kg_X9_isKept C0 hK hP (kv_s (by decide) (by decide)) kq_965 dX9_restore_16 ?_
    refine lv_iload_n hx hb dX9_restore_19 rfl (lv_at hl 1 rfl) ?_
    obtain ⟨b3, hq⟩ := hq
    refine kr_zald C0 hK hP (kv_s (by decide) (by decide)) rfl b3 dX9_restore_20 ?_
    refine lv_if_ne (tgt := 28) hx hb dX9_restore_21 (by decide) (fun hc => ?_) (fun hc => ?_)
    · have hq := hq.2 hc
      refine lv_iconst (v := 0) hx hb dX9_restore_28 (by decide) ?_
      exact kb_X9_restore_29 hI C0 hK σ1 v1 (0 : Int32) hq H locs hP hS ls (lv_sub hl [0, 1] rfl)
    · have hq := hq.1 hc
      refine lv_iconst (v := 2) hx hb dX9_restore_24 (by decide) ?_
      refine lv_goto (tgt := 29) hx hb dX9_restore_25 (by decide) ?_
      exact kb_X9_restore_29 hI C0 hK σ1 v1 (2 : Int32) hq H locs hP hS ls (lv_sub hl [0, 1] rfl)
  · have hq := hq.1 hc
    refine lv_iconst (v := 1) hx hb dX9_restore_11 (by decide) ?_
    refine lv_goto (tgt := 29) hx hb dX9_restore_12 (by decide) ?_
    exact kb_X9_restore_29 hI C0 hK σ1 v1 (1 : Int32) hq H locs hP hS ls (lv_sub hl [0, 1] rfl)
