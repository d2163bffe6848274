/-! GlossRows.clearText()I -/
def rm_X8_clearText : Room := { frames := 0, cells := 0, slots := 0, locals := 0 }
def kw_X8_clearText (σ : ka_S) (Q : Int32 → ka_S → Prop) : Prop := ∀ x1 : Int32, x1 = (σ.1 (10, 0, 0) 1) → 
  ∀ σ2 : ka_S, σ2 = ka_wI σ (10, 0, 0) 1 (0 : Int32) →
  Q x1 σ2
set_option maxHeartbeats 4000000 in
set_option maxRecDepth 100000 in
theorem km_X8_clearText (l : Launch) {G : ka_G} (hI : ka_I G) {σ : ka_S} {Q : Int32 → ka_S → Prop} (hq : kw_X8_clearText σ Q) : kc_i l yX8_clearText (kw_ yX8_clearText cX8_clearText 2 (some .int)) rm_X8_clearText G [.ref (ka_a G (22, 0, 0))] σ Q := by
  refine ka_of "GlossRows" rfl (by decide) (Nat.le_of_ble_eq_true rfl) ?_
  intro p e s m below meth c C0 hK H locs hP hS ls hl
  obtain ⟨hx, hb, -, hml, hown, hts, -⟩ := id C0
  have hl : lv_has ls 2 [(0, .ref (ka_a G (22, 0, 0)))] := hl
  unfold kw_X8_clearText at hq
  refine lv_aload_n hx hb dX8_clearText_0 rfl (lv_at hl 0 rfl) ?_
  refine kg_X8_text C0 hK hP (kv_s (by decide) (by decide)) kq_231 dX8_clearText_1 ?_
  refine kg_X6_length C0 hK hP (kv_s (by decide) (by decide)) kq_36 dX8_clearText_4 ?_
  refine lv_topi (fun x1 ex1 => ?_)
  have hq := hq x1 ex1
  refine lv_istore_n (lv' := [(1, .int x1), (0, .ref (ka_a G (22, 0, 0)))]) hx hb dX8_clearText_7 rfl hl (by decide) rfl (fun ls hl => ?_)
  refine lv_aload_n hx hb dX8_clearText_8 rfl (lv_at hl 1 rfl) ?_
  refine kg_X8_text C0 hK hP (kv_s (by decide) (by decide)) kq_231 dX8_clearText_9 ?_
  refine lv_iconst (v := 0) hx hb dX8_clearText_12 (by decide) ?_
  refine kp_X6_length C0 hK hI hP hS (kv_s (by decide) (by decide)) kq_36 dX8_clearText_13 (fun H locs hP hS => ?_)
  obtain ⟨σ2, eσ2⟩ : ∃ z : ka_S, z = ka_wI σ (10, 0, 0) 1 (0 : Int32) := ⟨_, rfl⟩
  rw [← eσ2] at hP
  have hq := hq σ2 eσ2
  refine lv_iload_n hx hb dX8_clearText_16 rfl (lv_at hl 0 rfl) ?_
  exact kr_iret C0 hK hP hS hq dX8_clearText_17
/-! GlossRows.errorPosition()I -/
def rm_X8_errorPosition : Room := { frames := 6, cells := 0, slots := 0, locals := 124 }
def kw_X8_errorPosition (σ : ka_S) (Q : Int32 → ka_S → Prop) : Prop := kw_X5_read σ (fun r2 σ1 => 
  Q r2 σ1)
set_option maxHeartbeats 4000000 in
set_option maxRecDepth 100000 in
theorem km_X8_errorPosition (l : Launch) {G : ka_G} (hI : ka_I G) {σ : ka_S} {Q : Int32 → ka_S → Prop} (hq : kw_X8_errorPosition σ Q) : kc_i l yX8_errorPosition (kw_ yX8_errorPosition cX8_errorPosition 1 (some .int)) rm_X8_errorPosition G [.ref (ka_a G (22, 0, 0))] σ Q := by
  refine ka_of "GlossRows" rfl (by decide) (Nat.le_of_ble_eq_true rfl) ?_
  intro p e s m below meth c C0 hK H locs hP hS ls hl
  obtain ⟨hx, hb, -, hml, hown, hts, -⟩ := id C0
  have hl : lv_has ls 1 [(0, .ref (ka_a G (22, 0, 0)))] := hl
  unfold kw_X8_errorPosition at hq
  refine lv_aload_n hx hb dX8_errorPosition_0 rfl (lv_at hl 0 rfl) ?_
  refine kg_X8_reader C0 hK hP (kv_s (by decide) (by decide)) kq_232 dX8_errorPosition_1 ?_
  refine lv_aload_n hx hb dX8_errorPosition_4 rfl (lv_at hl 0 rfl) ?_
  refine kg_X8_text C0 hK hP (kv_s (by decide) (by decide)) kq_231 dX8_errorPosition_5 ?_
  refine kr_Vi (k := (18, 0, 0)) (As := [.ref (ka_a G (10, 0, 0))]) (rest := []) C0 hK hP hS hl (km_X5_read l hI hq) kd_X5_read kq_270 (kv_s (by decide) (by decide)) rfl rfl rfl ⟨rfl, rfl, Nat.le_of_ble_eq_true rfl, Nat.le_of_ble_eq_true rfl⟩ rfl (Nat.le_of_ble_eq_true rfl) dX8_errorPosition_8 ⟨Nat.zero_le _, Nat.zero_le _⟩ (fun r2 σ1 H locs hq hP hS => ?_)
  exact kr_iret C0 hK hP hS hq dX8_errorPosition_11
/-! GlossRows.fillGaps()I -/
def rm_X8_fillGaps : Room := { frames := 3, cells := 0, slots := 0, locals := 65 }
def kw_X8_fillGaps (σ : ka_S) (Q : Int32 → ka_S → Prop) : Prop := kw_X0_remember σ 0 (fun σ1 => 
  kw_X4_fill σ1 0 (fun r3 σ2 => 
  Q r3 σ2))
set_option maxHeartbeats 4000000 in
set_option maxRecDepth 100000 in
theorem km_X8_fillGaps (l : Launch) {G : ka_G} (hI : ka_I G) {σ : ka_S} {Q : Int32 → ka_S → Prop} (hq : kw_X8_fillGaps σ Q) : kc_i l yX8_fillGaps (kw_ yX8_fillGaps cX8_fillGaps 1 (some .int)) rm_X8_fillGaps G [.ref (ka_a G (22, 0, 0))] σ Q := by
  refine ka_of "GlossRows" rfl (by decide) (Nat.le_of_ble_eq_true rfl) ?_
  intro p e s m below meth c C0 hK H locs hP hS ls hl
  obtain ⟨hx, hb, -, hml, hown, hts, -⟩ := id C0
  have hl : lv_has ls 1 [(0, .ref (ka_a G (22, 0, 0)))] := hl
  unfold kw_X8_fillGaps at hq
  refine lv_aload_n hx hb dX8_fillGaps_0 rfl (lv_at hl 0 rfl) ?_
  refine kg_X8_history C0 hK hP (kv_s (by decide) (by decide)) kq_236 dX8_fillGaps_1 ?_
  refine lv_aload_n hx hb dX8_fillGaps_4 rfl (lv_at hl 0 rfl) ?_
  refine kg_X8_page C0 hK hP (kv_s (by decide) (by decide)) kq_233 dX8_fillGaps_5 ?_
  refine kr_Vv (k := (20, 0, 0)) (As := [.ref (ka_a G (0, 0, 0))]) (rest := []) C0 hK hP hS hl (km_X0_remember l hI (by decide) hq) kd_X0_remember kq_862 (kv_s (by decide) (by decide)) rfl rfl rfl ⟨rfl, rfl, Nat.le_of_ble_eq_true rfl, Nat.le_of_ble_eq_true rfl⟩ rfl (Nat.le_of_ble_eq_true rfl) dX8_fillGaps_8 ⟨Nat.zero_le _, Nat.zero_le _⟩ (fun σ1 H locs hq hP hS => ?_)
  refine lv_aload_n hx hb dX8_fillGaps_11 rfl (lv_at hl 0 rfl) ?_
  refine kg_X8_page C0 hK hP (kv_s (by decide) (by decide)) kq_233 dX8_fillGaps_12 ?_
  refine kr_Vi (k := (0, 0, 0)) (As := []) (rest := []) C0 hK hP hS hl (km_X4_fill l hI (by decide) hq) kd_X4_fill kq_814 (kv_p (by decide) (by decide)) rfl rfl rfl ⟨rfl, rfl, Nat.le_of_ble_eq_true rfl, Nat.le_of_ble_eq_true rfl⟩ rfl (Nat.le_of_ble_eq_true rfl) dX8_fillGaps_15 ⟨Nat.zero_le _, Nat.zero_le _⟩ (fun r3 σ2 H locs hq hP hS => ?_)
  exact kr_iret C0 hK hP hS hq dX8_fillGaps_18
/-! GlossRows.mostUsed()I -/
def rm_X8_mostUsed : Room := { frames := 2, cells := 0, slots := 0, locals := 54 }
def kw_X8_mostUsed (σ : ka_S) (Q : Int32 → ka_S → Prop) : Prop := kw_X4_placeOfMostUsed σ 0 (fun r2 σ1 => 
  Q r2 σ1)
set_option maxHeartbeats 4000000 in
set_option maxRecDepth 100000 in
theorem km_X8_mostUsed (l : Launch) {G : ka_G} (hI : ka_I G) {σ : ka_S} {Q : Int32 → ka_S → Prop} (hq : kw_X8_mostUsed σ Q) : kc_i l yX8_mostUsed (kw_ yX8_mostUsed cX8_mostUsed 1 (some .int)) rm_X8_mostUsed G [.ref (ka_a G (22, 0, 0))] σ Q := by
  refine ka_of "GlossRows" rfl (by decide) (Nat.le_of_ble_eq_true rfl) ?_
  intro p e s m below meth c C0 hK H locs hP hS ls hl
  obtain ⟨hx, hb, -, hml, hown, hts, -⟩ := id C0
  have hl : lv_has ls 1 [(0, .ref (ka_a G (22, 0, 0)))] := hl
  unfold kw_X8_mostUsed at hq
  refine lv_aload_n hx hb dX8_mostUsed_0 rfl (lv_at hl 0 rfl) ?_
  refine kg_X8_page C0 hK hP (kv_s (by decide) (by decide)) kq_233 dX8_mostUsed_1 ?_
  refine kr_Vi (k := (0, 0, 0)) (As := []) (rest := []) C0 hK hP hS hl (km_X4_placeOfMostUsed l hI (by decide) hq) kd_X4_placeOfMostUsed kq_651 (kv_p (by decide) (by decide)) rfl rfl rfl ⟨rfl, rfl, Nat.le_of_ble_eq_true rfl, Nat.le_of_ble_eq_true rfl⟩ rfl (Nat.le_of_ble_eq_true rfl) dX8_mostUsed_4 ⟨Nat.zero_le _, Nat.zero_le _⟩ (fun r2 σ1 H locs hq hP hS => ?_)
  exact kr_iret C0 hK hP hS hq dX8_mostUsed_7
/-! GlossRows.arranged(LGlossRows$Page;)LGlossRows$Layout; -/
def rm_X8_arranged : Room := { frames := 5, cells := 0, slots := 0, locals := 115 }
def kw_X8_arranged (σ : ka_S) (o2 : Nat) (Q : ka_S → Prop) : Prop := kw_X1_measure σ o2 (σ.1 (0, o2, 0) 5) (fun σ1 => 
  kw_X1_wrap σ1 o2 (σ1.1 (0, o2, 0) 3) (fun σ2 => 
  Q σ2))
set_option maxHeartbeats 4000000 in
set_option maxRecDepth 100000 in
theorem km_X8_arranged (l : Launch) {G : ka_G} (hI : ka_I G) {o2 : Nat} (ho2 : o2 < 18) {σ : ka_S} {Q : ka_S → Prop} (hq : kw_X8_arranged σ o2 Q) : kc_r l yX8_arranged (kw_ yX8_arranged cX8_arranged 2 (some (.object "GlossRows$Layout"))) rm_X8_arranged G [.ref (ka_a G (22, 0, 0)), .ref (ka_a G (0, o2, 0))] σ (12, 0, 0) Q := by
  refine ka_of "GlossRows" rfl (by decide) (Nat.le_of_ble_eq_true rfl) ?_
  intro p e s m below meth c C0 hK H locs hP hS ls hl
  obtain ⟨hx, hb, -, hml, hown, hts, -⟩ := id C0
  have hl : lv_has ls 2 [(0, .ref (ka_a G (22, 0, 0))), (1, .ref (ka_a G (0, o2, 0)))] := hl
  unfold kw_X8_arranged at hq
  refine lv_aload_n hx hb dX8_arranged_0 rfl (lv_at hl 0 rfl) ?_
  refine kg_X8_layout C0 hK hP (kv_s (by decide) (by decide)) kq_235 dX8_arranged_1 ?_
  refine lv_aload_n hx hb dX8_arranged_4 rfl (lv_at hl 1 rfl) ?_
  refine lv_aload_n hx hb dX8_arranged_5 rfl (lv_at hl 1 rfl) ?_
  refine kg_X4_way C0 hK hP (kv_p (by decide) ho2) kq_163 dX8_arranged_6 ?_
  refine kr_Vv (k := (12, 0, 0)) (As := [.ref (ka_a G (0, o2, 0)), .int (σ.1 (0, o2, 0) 5)]) (rest := []) C0 hK hP hS hl (km_X1_measure l hI ho2 hq) kd_X1_measure kq_506 (kv_s (by decide) (by decide)) rfl rfl rfl ⟨rfl, rfl, Nat.le_of_ble_eq_true rfl, Nat.le_of_ble_eq_true rfl⟩ rfl (Nat.le_of_ble_eq_true rfl) dX8_arranged_9 ⟨Nat.zero_le _, Nat.zero_le _⟩ (fun σ1 H locs hq hP hS => ?_)
  refine lv_aload_n hx hb dX8_arranged_12 rfl (lv_at hl 0 rfl) ?_
  refine kg_X8_layout C0 hK hP (kv_s (by decide) (by decide)) kq_235 dX8_arranged_13 ?_
  refine lv_aload_n hx hb dX8_arranged_16 rfl (lv_at hl 1 rfl) ?_
  refine lv_aload_n hx hb dX8_arranged_17 rfl (lv_at hl 1 rfl) ?_
  refine kg_X4_width C0 hK hP (kv_p (by decide) ho2) kq_157 dX8_arranged_18 ?_
  refine kr_Vv (k := (12, 0, 0)) (As := [.ref (ka_a G (0, o2, 0)), .int (σ1.1 (0, o2, 0) 3)]) (rest := []) C0 hK hP hS hl (km_X1_wrap l hI ho2 hq) kd_X1_wrap kq_523 (kv_s (by decide) (by decide)) rfl rfl rfl ⟨rfl, rfl, Nat.le_of_ble_eq_true rfl, Nat.le_of_ble_eq_true rfl⟩ rfl (Nat.le_of_ble_eq_true rfl) dX8_arranged_21 ⟨Nat.zero_le _, Nat.zero_le _⟩ (fun σ2 H locs hq hP hS => ?_)
  refine lv_aload_n hx hb dX8_arranged_24 rfl (lv_at hl 0 rfl) ?_
  refine kg_X8_layout C0 hK hP (kv_s (by decide) (by decide)) kq_235 dX8_arranged_25 ?_
  exact kr_aret C0 hK hP hS hq dX8_arranged_28
/-! GlossRows.empty()I -/
def rm_X8_empty : Room := { frames := 6, cells := 0, slots := 0, locals := 136 }
def kw_X8_empty (σ : ka_S) (Q : Int32 → ka_S → Prop) : Prop := kw_X8_arranged σ 0 (fun σ1 => 
  kw_X1_countEmpty σ1 0 (σ1.1 (0, 0, 0) 3) (fun r3 σ2 => 
  Q r3 σ2))
set_option maxHeartbeats 4000000 in
set_option maxRecDepth 100000 in
theorem km_X8_empty (l : Launch) {G : ka_G} (hI : ka_I G) {σ : ka_S} {Q : Int32 → ka_S → Prop} (hq : kw_X8_empty σ Q) : kc_i l yX8_empty (kw_ yX8_empty cX8_empty 1 (some .int)) rm_X8_empty G [.ref (ka_a G (22, 0, 0))] σ Q := by
  refine ka_of "GlossRows" rfl (by decide) (Nat.le_of_ble_eq_true rfl) ?_
  intro p e s m below meth c C0 hK H locs hP hS ls hl
  obtain ⟨hx, hb, -, hml, hown, hts, -⟩ := id C0
  have hl : lv_has ls 1 [(0, .ref (ka_a G (22, 0, 0)))] := hl
  unfold kw_X8_empty at hq
  refine lv_aload_n hx hb dX8_empty_0 rfl (lv_at hl 0 rfl) ?_
  refine lv_aload_n hx hb dX8_empty_1 rfl (lv_at hl 0 rfl) ?_
  refine kg_X8_page C0 hK hP (kv_s (by decide) (by decide)) kq_233 dX8_empty_2 ?_
  refine kr_Vr (k := (22, 0, 0)) (As := [.ref (ka_a G (0, 0, 0))]) (rest := []) C0 hK hP hS hl (km_X8_arranged l hI (by decide) hq) kd_X8_arranged kq_502 (kv_s (by decide) (by decide)) rfl rfl rfl ⟨rfl, rfl, Nat.le_of_ble_eq_true rfl, Nat.le_of_ble_eq_true rfl⟩ rfl (Nat.le_of_ble_eq_true rfl) dX8_empty_5 ⟨Nat.zero_le _, Nat.zero_le _⟩ (fun σ1 H locs hq hP hS => ?_)
  refine lv_aload_n hx hb dX8_empty_8 rfl (lv_at hl 0 rfl) ?_
  refine kg_X8_page C0 hK hP (kv_s (by decide) (by decide)) kq_233 dX8_empty_9 ?_
  refine lv_aload_n hx hb dX8_empty_12 rfl (lv_at hl 0 rfl) ?_
  refine kg_X8_page C0 hK hP (kv_s (by decide) (by decide)) kq_233 dX8_empty_13 ?_
  refine kg_X4_width C0 hK hP (kv_p (by decide) (by decide)) kq_157 dX8_empty_16 ?_
  refine kr_Vi (k := (12, 0, 0)) (As := [.ref (ka_a G (0, 0, 0)), .int (σ1.1 (0, 0, 0) 3)]) (rest := []) C0 hK hP hS hl (km_X1_countEmpty l hI (by decide) hq) kd_X1_countEmpty kq_671 (kv_s (by decide) (by decide)) rfl rfl rfl ⟨rfl, rfl, Nat.le_of_ble_eq_true rfl, Nat.le_of_ble_eq_true rfl⟩ rfl (Nat.le_of_ble_eq_true rfl) dX8_empty_19 ⟨Nat.zero_le _, Nat.zero_le _⟩ (fun r3 σ2 H locs hq hP hS => ?_)
  exact kr_iret C0 hK hP hS hq dX8_empty_22
/-! GlossRows.withoutLowest(JI)J -/
def rm_X8_withoutLowest : Room := { frames := 0, cells := 0, slots := 0, locals := 0 }
def kw_X8_withoutLowest_5 (Q : Int64 → ka_S → Prop) : Nat → ka_S → Int32 → Int64 → Int32 → Prop
  | 0, _, _, _, _ => False
  | n + 1, σ, v2, v3, v5 => (v2 ≤ v5 → Q v3 σ) ∧
    (¬ v2 ≤ v5 → ∀ x2 : Int64, x2 = (v3 / (10000 : Int64)) → 
      ∀ x3 : Int32, x3 = v5 + (1 : Int32) →
      (kw_X8_withoutLowest_5 Q n) σ v2 x2 x3)
def kw_X8_withoutLowest (σ : ka_S) (v0 : Int64) (v2 : Int32) (Q : Int64 → ka_S → Prop) : Prop := ∃ n1 : Nat, kw_X8_withoutLowest_5 Q n1 σ v2 v0 (0 : Int32)
set_option maxHeartbeats 4000000 in
set_option maxRecDepth 100000 in
theorem kb_X8_withoutLowest_5 {p : Program} {l : Launch} {e : Env} {s : State} {m : MethodId} {args : Array Value} {below : List Frame} {meth : Method} {c : Code} {G : ka_G} (hI : ka_I G) (C0 : ka_C p s m args meth c cX8_withoutLowest 6 "GlossRows" (some .long)) (hK : ka_Kn G s) {Q : Int64 → ka_S → Prop} : ∀ (n : Nat) (σ : ka_S) (v2 : Int32) (v3 : Int64) (v5 : Int32), kw_X8_withoutLowest_5 Q n σ v2 v3 v5 → ∀ (H : Heap) (locs : List Loc), ka_P G σ H → va_S (ka_A G) s.heap H locs → ∀ ls : Array Slot, lv_has ls 6 [(2, .int v2), (3, .long v3), (5, .int v5)] → W p l e rm_X8_withoutLowest s m args below meth c H locs 0 0 (MQ below (va_Ql Q (ka_B G) (ka_A G)) args s 0 0 (ka_A G)) (F0 m 5 ls []) := by
  obtain ⟨hx, hb, -, hml, hown, hts, -⟩ := id C0
  intro n
  induction n with
  | zero =>
    intro σ v2 v3 v5 hq
    rw [kw_X8_withoutLowest_5] at hq
    exact hq.elim
  | succ n ih =>
    intro σ v2 v3 v5 hq H locs hP hS ls hl
    rw [kw_X8_withoutLowest_5] at hq
    refine lv_iload hx hb dX8_withoutLowest_5 (lv_at hl 2 rfl) ?_
    refine lv_iload_n hx hb dX8_withoutLowest_7 rfl (lv_at hl 0 rfl) ?_
    refine lv_icmp_ge (tgt := 23) hx hb dX8_withoutLowest_8 (by decide) (fun hc => ?_) (fun hc => ?_)
    · have hq := hq.1 hc
      refine lv_lload_n hx hb dX8_withoutLowest_23 rfl (lv_at hl 1 rfl) ?_
      exact kr_lret C0 hK hP hS hq dX8_withoutLowest_24
    · have hq := hq.2 hc
      refine lv_lload_n hx hb dX8_withoutLowest_11 rfl (lv_at hl 1 rfl) ?_
      refine lv_ldc2 hx hb hown (hts _ kq_757) dX8_withoutLowest_12 ?_
      refine lv_ldiv hx hb dX8_withoutLowest_15 (by decide) ?_
      refine lv_topl (fun x2 ex2 => ?_)
      have hq := hq x2 ex2
      refine lv_lstore_n (lv' := [(3, .long x2), (2, .int v2), (5, .int v5)]) hx hb dX8_withoutLowest_16 rfl hl (by decide) rfl (fun ls hl => ?_)
      obtain ⟨x3, ex3⟩ : ∃ y : Int32, y = v5 + (1 : Int32) := ⟨_, rfl⟩
      have hq := hq x3 ex3
      refine lv_iinc (v := x3) (lv' := [(5, .int x3), (3, .long x2), (2, .int v2)]) hx hb dX8_withoutLowest_17 hl (k := 2) rfl (by rw [ex3]; rfl) (by decide) rfl (fun ls hl => ?_)
      refine lv_goto (tgt := 5) hx hb dX8_withoutLowest_20 (by decide) ?_
      exact ih σ v2 x2 x3 hq H locs hP hS ls (lv_sub hl [2, 1, 0] rfl)
set_option maxHeartbeats 4000000 in
set_option maxRecDepth 100000 in
theorem km_X8_withoutLowest (l : Launch) {G : ka_G} (hI : ka_I G) {σ : ka_S} {v0 : Int64} {v2 : Int32} {Q : Int64 → ka_S → Prop} (hq : kw_X8_withoutLowest σ v0 v2 Q) : kc_l l yX8_withoutLowest (kw_ yX8_withoutLowest cX8_withoutLowest 6 (some .long)) rm_X8_withoutLowest G [.long v0, .int v2] σ Q := by
  refine ka_of "GlossRows" rfl (by decide) (Nat.le_of_ble_eq_true rfl) ?_
  intro p e s m below meth c C0 hK H locs hP hS ls hl
  obtain ⟨hx, hb, -, hml, hown, hts, -⟩ := id C0
  have hl : lv_has ls 6 [(0, .long v0), (2, .int v2)] := hl
  unfold kw_X8_withoutLowest at hq
  refine lv_lload_n hx hb dX8_withoutLowest_0 rfl (lv_at hl 0 rfl) ?_
  refine lv_lstore_n (lv' := [(3, .long v0), (0, .long v0), (2, .int v2)]) hx hb dX8_withoutLowest_1 rfl hl (by decide) rfl (fun ls hl => ?_)
  refine lv_iconst (v := 0) hx hb dX8_withoutLowest_2 (by decide) ?_
  refine lv_istore (lv' := [(5, .int (0 : Int32)), (3, .long v0), (0, .long v0), (2, .int v2)]) hx hb dX8_withoutLowest_3 hl (by decide) rfl (fun ls hl => ?_)
  obtain ⟨n1, hq⟩ := hq
  exact kb_X8_withoutLowest_5 hI C0 hK n1 σ v2 v0 (0 : Int32) hq H locs hP hS ls (lv_sub hl [3, 1, 0] rfl)
/-! GlossRows.changesWordOfTrial(II)Z -/
def rm_X8_changesWordOfTrial : Room := { frames := 2, cells := 0, slots := 0, locals := 44 }
def kw_X8_changesWordOfTrial (σ : ka_S) (v1 : Int32) (v2 : Int32) (Q : Int32 → ka_S → Prop) : Prop := kw_X4_hasWord σ 1 v2 (fun r2 σ1 => 
  (r2 = (0 : Int32) → Q (0 : Int32) σ1) ∧
  (¬ r2 = (0 : Int32) → (v1 = (3 : Int32) → vp_in v2 12 ∧
      ∀ σ7 : ka_S, σ7 = ka_wI σ1 (5, 1, v2.toNatClampNeg) 6 (1 : Int32) →
      Q (1 : Int32) σ7) ∧
    (¬ v1 = (3 : Int32) → (v1 = (4 : Int32) → vp_in v2 12 ∧
        kw_X7_dropEnd σ1 1 v2.toNatClampNeg (fun σ5 => 
        Q (1 : Int32) σ5)) ∧
      (¬ v1 = (4 : Int32) → kw_X4_dropWord σ1 1 v2 (fun σ3 => 
        Q (1 : Int32) σ3)))))
set_option maxHeartbeats 4000000 in
set_option maxRecDepth 100000 in
theorem km_X8_changesWordOfTrial (l : Launch) {G : ka_G} (hI : ka_I G) {σ : ka_S} {v1 : Int32} {v2 : Int32} {Q : Int32 → ka_S → Prop} (hq : kw_X8_changesWordOfTrial σ v1 v2 Q) : kc_i l yX8_changesWordOfTrial (kw_ yX8_changesWordOfTrial cX8_changesWordOfTrial 3 (some .boolean)) rm_X8_changesWordOfTrial G [.ref (ka_a G (22, 0, 0)), .int v1, .int v2] σ Q := by
  refine ka_of "GlossRows" rfl (by decide) (Nat.le_of_ble_eq_true rfl) ?_
  intro p e s m below meth c C0 hK H locs hP hS ls hl
  obtain ⟨hx, hb, -, hml, hown, hts, -⟩ := id C0
  have hl : lv_has ls 3 [(0, .ref (ka_a G (22, 0, 0))), (1, .int v1), (2, .int v2)] := hl
  unfold kw_X8_changesWordOfTrial at hq
  refine lv_aload_n hx hb dX8_changesWordOfTrial_0 rfl (lv_at hl 0 rfl) ?_
  refine kg_X8_trial C0 hK hP (kv_s (by decide) (by decide)) kq_234 dX8_changesWordOfTrial_1 ?_
  refine lv_iload_n hx hb dX8_changesWordOfTrial_4 rfl (lv_at hl 2 rfl) ?_
  refine kr_Vi (k := (0, 1, 0)) (As := [.int v2]) (rest := []) C0 hK hP hS hl (km_X4_hasWord l hI (by decide) hq) kd_X4_hasWord kq_574 (kv_p (by decide) (by decide)) rfl rfl rfl ⟨rfl, rfl, Nat.le_of_ble_eq_true rfl, Nat.le_of_ble_eq_true rfl⟩ rfl (Nat.le_of_ble_eq_true rfl) dX8_changesWordOfTrial_5 ⟨Nat.zero_le _, Nat.zero_le _⟩ (fun r2 σ1 H locs hq hP hS => ?_)
  refine lv_if_ne (tgt := 13) hx hb dX8_changesWordOfTrial_8 (by decide) (fun hc => ?_) (fun hc => ?_)
  · have hq := hq.2 hc
    refine lv_iload_n hx hb dX8_changesWordOfTrial_13 rfl (lv_at hl 1 rfl) ?_
    refine lv_iconst (v := 3) hx hb dX8_changesWordOfTrial_14 (by decide) ?_
    refine lv_icmp_ne (tgt := 34) hx hb dX8_changesWordOfTrial_15 (by decide) (fun hc => ?_) (fun hc => ?_)
    · have hq := hq.2 hc
      refine lv_iload_n hx hb dX8_changesWordOfTrial_34 rfl (lv_at hl 1 rfl) ?_
      refine lv_iconst (v := 4) hx hb dX8_changesWordOfTrial_35 (by decide) ?_
      refine lv_icmp_ne (tgt := 54) hx hb dX8_changesWordOfTrial_36 (by decide) (fun hc => ?_) (fun hc => ?_)
      · have hq := hq.2 hc
        refine lv_aload_n hx hb dX8_changesWordOfTrial_54 rfl (lv_at hl 0 rfl) ?_
        refine kg_X8_trial C0 hK hP (kv_s (by decide) (by decide)) kq_234 dX8_changesWordOfTrial_55 ?_
        refine lv_iload_n hx hb dX8_changesWordOfTrial_58 rfl (lv_at hl 2 rfl) ?_
        refine kr_Vv (k := (0, 1, 0)) (As := [.int v2]) (rest := []) C0 hK hP hS hl (km_X4_dropWord l hI (by decide) hq) kd_X4_dropWord kq_806 (kv_p (by decide) (by decide)) rfl rfl rfl ⟨rfl, rfl, Nat.le_of_ble_eq_true rfl, Nat.le_of_ble_eq_true rfl⟩ rfl (Nat.le_of_ble_eq_true rfl) dX8_changesWordOfTrial_59 ⟨Nat.zero_le _, Nat.zero_le _⟩ (fun σ3 H locs hq hP hS => ?_)
        refine lv_iconst (v := 1) hx hb dX8_changesWordOfTrial_62 (by decide) ?_
        exact kr_zret C0 hK hP hS rfl hq dX8_changesWordOfTrial_63
      · have hq := hq.1 hc
        refine lv_aload_n hx hb dX8_changesWordOfTrial_39 rfl (lv_at hl 0 rfl) ?_
        refine kg_X8_trial C0 hK hP (kv_s (by decide) (by decide)) kq_234 dX8_changesWordOfTrial_40 ?_
        refine kg_X4_words C0 hK hP (kv_p (by decide) (by decide)) kq_150 dX8_changesWordOfTrial_43 ?_
        refine lv_iload_n hx hb dX8_changesWordOfTrial_46 rfl (lv_at hl 2 rfl) ?_
        obtain ⟨b4, hq⟩ := hq
        refine kr_aald (t := 3) C0 hK hP (kv_p (by decide) (by decide)) rfl rfl b4 rfl dX8_changesWordOfTrial_47 ?_
        refine kr_Vv (k := (5, 1, v2.toNatClampNeg)) (As := []) (rest := []) C0 hK hP hS hl (km_X7_dropEnd l hI (k_19 (by decide)) (vp_lt b4) hq) kd_X7_dropEnd kq_802 (kv_w (by decide) (by decide) (k_19 (by decide)) (vp_lt b4)) rfl rfl rfl ⟨rfl, rfl, Nat.le_of_ble_eq_true rfl, Nat.le_of_ble_eq_true rfl⟩ rfl (Nat.le_of_ble_eq_true rfl) dX8_changesWordOfTrial_48 ⟨Nat.zero_le _, Nat.zero_le _⟩ (fun σ5 H locs hq hP hS => ?_)
        refine lv_goto (tgt := 62) hx hb dX8_changesWordOfTrial_51 (by decide) ?_
        refine lv_iconst (v := 1) hx hb dX8_changesWordOfTrial_62 (by decide) ?_
        exact kr_zret C0 hK hP hS rfl hq dX8_changesWordOfTrial_63
    · have hq := hq.1 hc
      refine lv_aload_n hx hb dX8_changesWordOfTrial_18 rfl (lv_at hl 0 rfl) ?_
      refine kg_X8_trial C0 hK hP (kv_s (by decide) (by decide)) kq_234 dX8_changesWordOfTrial_19 ?_
      refine kg_X4_words C0 hK hP (kv_p (by decide) (by decide)) kq_150 dX8_changesWordOfTrial_22 ?_
      refine lv_iload_n hx hb dX8_changesWordOfTrial_25 rfl (lv_at hl 2 rfl) ?_
      obtain ⟨b6, hq⟩ := hq
      refine kr_aald (t := 3) C0 hK hP (kv_p (by decide) (by decide)) rfl rfl b6 rfl dX8_changesWordOfTrial_26 ?_
      refine lv_iconst (v := 1) hx hb dX8_changesWordOfTrial_27 (by decide) ?_
      refine kp_X7_ended C0 hK hI hP hS (kv_w (by decide) (by decide) (k_19 (by decide)) (vp_lt b6)) (by decide) kq_78 dX8_changesWordOfTrial_28 (fun H locs hP hS => ?_)
      obtain ⟨σ7, eσ7⟩ : ∃ z : ka_S, z = ka_wI σ1 (5, 1, v2.toNatClampNeg) 6 (1 : Int32) := ⟨_, rfl⟩
      rw [← eσ7] at hP
      have hq := hq σ7 eσ7
      refine lv_goto (tgt := 62) hx hb dX8_changesWordOfTrial_31 (by decide) ?_
      refine lv_iconst (v := 1) hx hb dX8_changesWordOfTrial_62 (by decide) ?_
      exact kr_zret C0 hK hP hS rfl hq dX8_changesWordOfTrial_63
  · have hq := hq.1 hc
    refine lv_iconst (v := 0) hx hb dX8_changesWordOfTrial_11 (by decide) ?_
    exact kr_zret C0 hK hP hS rfl hq dX8_changesWordOfTrial_12
/-! GlossRows.fillsTrial()Z -/
def rm_X8_fillsTrial : Room := { frames := 2, cells := 0, slots := 0, locals := 47 }
def kw_X8_fillsTrial (σ : ka_S) (Q : Int32 → ka_S → Prop) : Prop := kw_X4_fill σ 1 (fun r2 σ1 => 
  Q (1 : Int32) σ1)
set_option maxHeartbeats 4000000 in
set_option maxRecDepth 100000 in
theorem km_X8_fillsTrial (l : Launch) {G : ka_G} (hI : ka_I G) {σ : ka_S} {Q : Int32 → ka_S → Prop} (hq : kw_X8_fillsTrial σ Q) : kc_i l yX8_fillsTrial (kw_ yX8_fillsTrial cX8_fillsTrial 1 (some .boolean)) rm_X8_fillsTrial G [.ref (ka_a G (22, 0, 0))] σ Q := by
  refine ka_of "GlossRows" rfl (by decide) (Nat.le_of_ble_eq_true rfl) ?_
  intro p e s m below meth c C0 hK H locs hP hS ls hl
  obtain ⟨hx, hb, -, hml, hown, hts, -⟩ := id C0
  have hl : lv_has ls 1 [(0, .ref (ka_a G (22, 0, 0)))] := hl
  unfold kw_X8_fillsTrial at hq
  refine lv_aload_n hx hb dX8_fillsTrial_0 rfl (lv_at hl 0 rfl) ?_
  refine kg_X8_trial C0 hK hP (kv_s (by decide) (by decide)) kq_234 dX8_fillsTrial_1 ?_
  refine kr_Vi (k := (0, 1, 0)) (As := []) (rest := []) C0 hK hP hS hl (km_X4_fill l hI (by decide) hq) kd_X4_fill kq_814 (kv_p (by decide) (by decide)) rfl rfl rfl ⟨rfl, rfl, Nat.le_of_ble_eq_true rfl, Nat.le_of_ble_eq_true rfl⟩ rfl (Nat.le_of_ble_eq_true rfl) dX8_fillsTrial_4 ⟨Nat.zero_le _, Nat.zero_le _⟩ (fun r2 σ1 H locs hq hP hS => ?_)
  refine lv_pop hx hb dX8_fillsTrial_7 rfl ?_
  refine lv_iconst (v := 1) hx hb dX8_fillsTrial_8 (by decide) ?_
  exact kr_zret C0 hK hP hS rfl hq dX8_fillsTrial_9
/-! GlossRows.learnsOnTrial(II)Z -/
def rm_X8_learnsOnTrial : Room := { frames := 4, cells := 0, slots := 0, locals := 89 }
def kw_X8_learnsOnTrial (σ : ka_S) (v1 : Int32) (v2 : Int32) (Q : Int32 → ka_S → Prop) : Prop := kw_X4_canLearn σ 1 v1 v2 (fun r2 σ1 => 
  (r2 = (0 : Int32) → Q (0 : Int32) σ1) ∧
  (¬ r2 = (0 : Int32) → kw_X4_learnPart σ1 1 v1 v2 (fun σ3 => 
    Q (1 : Int32) σ3)))
set_option maxHeartbeats 4000000 in
set_option maxRecDepth 100000 in
theorem km_X8_learnsOnTrial (l : Launch) {G : ka_G} (hI : ka_I G) {σ : ka_S} {v1 : Int32} {v2 : Int32} {Q : Int32 → ka_S → Prop} (hq : kw_X8_learnsOnTrial σ v1 v2 Q) : kc_i l yX8_learnsOnTrial (kw_ yX8_learnsOnTrial cX8_learnsOnTrial 3 (some .boolean)) rm_X8_learnsOnTrial G [.ref (ka_a G (22, 0, 0)), .int v1, .int v2] σ Q := by
  refine ka_of "GlossRows" rfl (by decide) (Nat.le_of_ble_eq_true rfl) ?_
  intro p e s m below meth c C0 hK H locs hP hS ls hl
  obtain ⟨hx, hb, -, hml, hown, hts, -⟩ := id C0
  have hl : lv_has ls 3 [(0, .ref (ka_a G (22, 0, 0))), (1, .int v1), (2, .int v2)] := hl
  unfold kw_X8_learnsOnTrial at hq
  refine lv_aload_n hx hb dX8_learnsOnTrial_0 rfl (lv_at hl 0 rfl) ?_
  refine kg_X8_trial C0 hK hP (kv_s (by decide) (by decide)) kq_234 dX8_learnsOnTrial_1 ?_
  refine lv_iload_n hx hb dX8_learnsOnTrial_4 rfl (lv_at hl 1 rfl) ?_
  refine lv_iload_n hx hb dX8_learnsOnTrial_5 rfl (lv_at hl 2 rfl) ?_
  refine kr_Vi (k := (0, 1, 0)) (As := [.int v1, .int v2]) (rest := []) C0 hK hP hS hl (km_X4_canLearn l hI (by decide) hq) kd_X4_canLearn kq_767 (kv_p (by decide) (by decide)) rfl rfl rfl ⟨rfl, rfl, Nat.le_of_ble_eq_true rfl, Nat.le_of_ble_eq_true rfl⟩ rfl (Nat.le_of_ble_eq_true rfl) dX8_learnsOnTrial_6 ⟨Nat.zero_le _, Nat.zero_le _⟩ (fun r2 σ1 H locs hq hP hS => ?_)
  refine lv_if_ne (tgt := 14) hx hb dX8_learnsOnTrial_9 (by decide) (fun hc => ?_) (fun hc => ?_)
  · have hq := hq.2 hc
    refine lv_aload_n hx hb dX8_learnsOnTrial_14 rfl (lv_at hl 0 rfl) ?_
    refine kg_X8_trial C0 hK hP (kv_s (by decide) (by decide)) kq_234 dX8_learnsOnTrial_15 ?_
    refine lv_iload_n hx hb dX8_learnsOnTrial_18 rfl (lv_at hl 1 rfl) ?_
    refine lv_iload_n hx hb dX8_learnsOnTrial_19 rfl (lv_at hl 2 rfl) ?_
    refine kr_Vv (k := (0, 1, 0)) (As := [.int v1, .int v2]) (rest := []) C0 hK hP hS hl (km_X4_learnPart l hI (by decide) hq) kd_X4_learnPart kq_777 (kv_p (by decide) (by decide)) rfl rfl rfl ⟨rfl, rfl, Nat.le_of_ble_eq_true rfl, Nat.le_of_ble_eq_true rfl⟩ rfl (Nat.le_of_ble_eq_true rfl) dX8_learnsOnTrial_20 ⟨Nat.zero_le _, Nat.zero_le _⟩ (fun σ3 H locs hq hP hS => ?_)
    refine lv_iconst (v := 1) hx hb dX8_learnsOnTrial_23 (by decide) ?_
    exact kr_zret C0 hK hP hS rfl hq dX8_learnsOnTrial_24
  · have hq := hq.1 hc
    refine lv_iconst (v := 0) hx hb dX8_learnsOnTrial_12 (by decide) ?_
    exact kr_zret C0 hK hP hS rfl hq dX8_learnsOnTrial_13
/-! GlossRows.setsOnTrial(II)Z -/
def rm_X8_setsOnTrial : Room := { frames := 1, cells := 0, slots := 0, locals := 23 }
def kw_X8_setsOnTrial (σ : ka_S) (v1 : Int32) (v2 : Int32) (Q : Int32 → ka_S → Prop) : Prop := kw_X4_allows σ v1 v2 (fun r2 σ1 => 
  (r2 = (0 : Int32) → Q (0 : Int32) σ1) ∧
  (¬ r2 = (0 : Int32) → kw_X4_change σ1 1 v1 v2 (fun r4 σ3 => 
    Q (1 : Int32) σ3)))
set_option maxHeartbeats 4000000 in
set_option maxRecDepth 100000 in
theorem km_X8_setsOnTrial (l : Launch) {G : ka_G} (hI : ka_I G) {σ : ka_S} {v1 : Int32} {v2 : Int32} {Q : Int32 → ka_S → Prop} (hq : kw_X8_setsOnTrial σ v1 v2 Q) : kc_i l yX8_setsOnTrial (kw_ yX8_setsOnTrial cX8_setsOnTrial 3 (some .boolean)) rm_X8_setsOnTrial G [.ref (ka_a G (22, 0, 0)), .int v1, .int v2] σ Q := by
  refine ka_of "GlossRows" rfl (by decide) (Nat.le_of_ble_eq_true rfl) ?_
  intro p e s m below meth c C0 hK H locs hP hS ls hl
  obtain ⟨hx, hb, -, hml, hown, hts, -⟩ := id C0
  have hl : lv_has ls 3 [(0, .ref (ka_a G (22, 0, 0))), (1, .int v1), (2, .int v2)] := hl
  unfold kw_X8_setsOnTrial at hq
  refine lv_iload_n hx hb dX8_setsOnTrial_0 rfl (lv_at hl 1 rfl) ?_
  refine lv_iload_n hx hb dX8_setsOnTrial_1 rfl (lv_at hl 2 rfl) ?_
  refine kr_Si (As := [.int v1, .int v2]) (rest := []) C0 hK hP hS hl (km_X4_allows l hI hq) kd_X4_allows kq_683 ⟨rfl, rfl, Nat.le_of_ble_eq_true rfl, Nat.le_of_ble_eq_true rfl⟩ rfl (Nat.le_of_ble_eq_true rfl) dX8_setsOnTrial_2 ⟨Nat.zero_le _, Nat.zero_le _⟩ (fun r2 σ1 H locs hq hP hS => ?_)
  refine lv_if_ne (tgt := 10) hx hb dX8_setsOnTrial_5 (by decide) (fun hc => ?_) (fun hc => ?_)
  · have hq := hq.2 hc
    refine lv_aload_n hx hb dX8_setsOnTrial_10 rfl (lv_at hl 0 rfl) ?_
    refine kg_X8_trial C0 hK hP (kv_s (by decide) (by decide)) kq_234 dX8_setsOnTrial_11 ?_
    refine lv_iload_n hx hb dX8_setsOnTrial_14 rfl (lv_at hl 1 rfl) ?_
    refine lv_iload_n hx hb dX8_setsOnTrial_15 rfl (lv_at hl 2 rfl) ?_
    refine kr_Vi (k := (0, 1, 0)) (As := [.int v1, .int v2]) (rest := []) C0 hK hP hS hl (km_X4_change l hI (by decide) hq) kd_X4_change kq_794 (kv_p (by decide) (by decide)) rfl rfl rfl ⟨rfl, rfl, Nat.le_of_ble_eq_true rfl, Nat.le_of_ble_eq_true rfl⟩ rfl (Nat.le_of_ble_eq_true rfl) dX8_setsOnTrial_16 ⟨Nat.zero_le _, Nat.zero_le _⟩ (fun r4 σ3 H locs hq hP hS => ?_)
    refine lv_pop hx hb dX8_setsOnTrial_19 rfl ?_
    refine lv_iconst (v := 1) hx hb dX8_setsOnTrial_20 (by decide) ?_
    exact kr_zret C0 hK hP hS rfl hq dX8_setsOnTrial_21
  · have hq := hq.1 hc
    refine lv_iconst (v := 0) hx hb dX8_setsOnTrial_8 (by decide) ?_
    exact kr_zret C0 hK hP hS rfl hq dX8_setsOnTrial_9
/-! GlossRows.succeeds(I)Z -/
def rm_X8_succeeds : Room := { frames := 6, cells := 0, slots := 0, locals := 136 }
def kw_X8_succeeds (σ : ka_S) (v1 : Int32) (Q : Int32 → ka_S → Prop) : Prop := ∀ x1 : Int32, x1 = (v1 / (1000 : Int32)) → 
  ∀ x2 : Int32, x2 = ((v1 / (100 : Int32)) - (v1 / (100 : Int32)) / (10 : Int32) * (10 : Int32)) → 
  ∀ x3 : Int32, x3 = (v1 - v1 / (100 : Int32) * (100 : Int32)) → 
  (x1 = (6 : Int32) → kw_X8_learnsOnTrial σ x3 x2 (fun r20 σ19 => 
    (r20 = 0 ∨ r20 = 1) ∧
    Q r20 σ19)) ∧
  (¬ x1 = (6 : Int32) → (x2 = (0 : Int32) → (x1 = (1 : Int32) → kw_X8_setsOnTrial σ (9 : Int32) x3 (fun r5 σ4 => 
      (r5 = 0 ∨ r5 = 1) ∧
      Q r5 σ4)) ∧
      (¬ x1 = (1 : Int32) → (x1 = (2 : Int32) → kw_X8_setsOnTrial σ (11 : Int32) x3 (fun r7 σ6 => 
      (r7 = 0 ∨ r7 = 1) ∧
      Q r7 σ6)) ∧
      (¬ x1 = (2 : Int32) → (x1 = (3 : Int32) → kw_X8_changesWordOfTrial σ x1 x3 (fun r9 σ8 => 
      (r9 = 0 ∨ r9 = 1) ∧
      Q r9 σ8)) ∧
      (¬ x1 = (3 : Int32) → (x1 = (4 : Int32) → kw_X8_changesWordOfTrial σ x1 x3 (fun r11 σ10 => 
      (r11 = 0 ∨ r11 = 1) ∧
      Q r11 σ10)) ∧
      (¬ x1 = (4 : Int32) → (x1 = (5 : Int32) → kw_X8_changesWordOfTrial σ x1 x3 (fun r13 σ12 => 
      (r13 = 0 ∨ r13 = 1) ∧
      Q r13 σ12)) ∧
      (¬ x1 = (5 : Int32) → (x1 = (6 : Int32) → Q (0 : Int32) σ) ∧
      (¬ x1 = (6 : Int32) → (x1 = (7 : Int32) → (x3 = (0 : Int32) → kw_X8_fillsTrial σ (fun r15 σ14 => 
        (r15 = (0 : Int32) → Q (0 : Int32) σ14) ∧
        (¬ r15 = (0 : Int32) → Q (1 : Int32) σ14))) ∧
      (¬ x3 = (0 : Int32) → Q (0 : Int32) σ)) ∧
      (¬ x1 = (7 : Int32) → (x1 = (8 : Int32) → kw_X8_arranged σ 1 (fun σ16 => 
      (x3 < (σ16.1 (12, 0, 0) 4) → Q (0 : Int32) σ16) ∧
      (¬ x3 < (σ16.1 (12, 0, 0) 4) → Q (1 : Int32) σ16))) ∧
      (¬ x1 = (8 : Int32) → (x1 = (9 : Int32) → kw_X4_countGaps σ 1 (fun r18 σ17 => 
      (r18 = x3 → Q (1 : Int32) σ17) ∧
      (¬ r18 = x3 → Q (0 : Int32) σ17))) ∧
      (¬ x1 = (9 : Int32) → Q (0 : Int32) σ)))))))))) ∧
    (¬ x2 = (0 : Int32) → Q (0 : Int32) σ))
set_option maxHeartbeats 4000000 in
set_option maxRecDepth 100000 in
theorem km_X8_succeeds (l : Launch) {G : ka_G} (hI : ka_I G) {σ : ka_S} {v1 : Int32} {Q : Int32 → ka_S → Prop} (hq : kw_X8_succeeds σ v1 Q) : kc_i l yX8_succeeds (kw_ yX8_succeeds cX8_succeeds 5 (some .boolean)) rm_X8_succeeds G [.ref (ka_a G (22, 0, 0)), .int v1] σ Q := by
  refine ka_of "GlossRows" rfl (by decide) (Nat.le_of_ble_eq_true rfl) ?_
  intro p e s m below meth c C0 hK H locs hP hS ls hl
  obtain ⟨hx, hb, -, hml, hown, hts, -⟩ := id C0
  have hl : lv_has ls 5 [(0, .ref (ka_a G (22, 0, 0))), (1, .int v1)] := hl
  unfold kw_X8_succeeds at hq
  refine lv_iload_n hx hb dX8_succeeds_0 rfl (lv_at hl 1 rfl) ?_
  refine lv_sipush (v := 1000) hx hb dX8_succeeds_1 (by decide) ?_
  refine lv_idiv hx hb dX8_succeeds_4 (by decide) ?_
  refine lv_topi (fun x1 ex1 => ?_)
  have hq := hq x1 ex1
  refine lv_istore_n (lv' := [(2, .int x1), (0, .ref (ka_a G (22, 0, 0))), (1, .int v1)]) hx hb dX8_succeeds_5 rfl hl (by decide) rfl (fun ls hl => ?_)
  refine lv_iload_n hx hb dX8_succeeds_6 rfl (lv_at hl 2 rfl) ?_
  refine lv_bipush (v := 100) hx hb dX8_succeeds_7 (by decide) ?_
  refine lv_idiv hx hb dX8_succeeds_9 (by decide) ?_
  refine lv_bipush (v := 10) hx hb dX8_succeeds_10 (by decide) ?_
  refine lv_irem hx hb dX8_succeeds_12 (by decide) ?_
  refine lv_topi (fun x2 ex2 => ?_)
  have hq := hq x2 ex2
  refine lv_istore_n (lv' := [(3, .int x2), (2, .int x1), (0, .ref (ka_a G (22, 0, 0))), (1, .int v1)]) hx hb dX8_succeeds_13 rfl hl (by decide) rfl (fun ls hl => ?_)
  refine lv_iload_n hx hb dX8_succeeds_14 rfl (lv_at hl 3 rfl) ?_
  refine lv_bipush (v := 100) hx hb dX8_succeeds_15 (by decide) ?_
  refine lv_irem hx hb dX8_succeeds_17 (by decide) ?_
  refine lv_topi (fun x3 ex3 => ?_)
  have hq := hq x3 ex3
  refine lv_istore (lv' := [(4, .int x3), (3, .int x2), (2, .int x1), (0, .ref (ka_a G (22, 0, 0))), (1, .int v1)]) hx hb dX8_succeeds_18 hl (by decide) rfl (fun ls hl => ?_)
  refine lv_iload_n hx hb dX8_succeeds_20 rfl (lv_at hl 2 rfl) ?_
  refine lv_bipush (v := 6) hx hb dX8_succeeds_21 (by decide) ?_
  refine lv_icmp_ne (tgt := 34) hx hb dX8_succeeds_23 (by decide) (fun hc => ?_) (fun hc => ?_)
  · have hq := hq.2 hc
    refine lv_iload_n hx hb dX8_succeeds_34 rfl (lv_at hl 1 rfl) ?_
    refine lv_if_eq (tgt := 40) hx hb dX8_succeeds_35 (by decide) (fun hc => ?_) (fun hc => ?_)
    · have hq := hq.1 hc
      refine lv_iload_n hx hb dX8_succeeds_40 rfl (lv_at hl 2 rfl) ?_
      by_cases hsw1 : x1 = (1 : Int32)
      · have hq := hq.1 hsw1
        refine lv_tableIn (off := 51) (tgt := 92) hx hb dX8_succeeds_41 (by rw [hsw1]; decide) (by rw [hsw1]; decide) (by rw [hsw1]; decide) (by decide) ?_
        refine lv_aload_n hx hb dX8_succeeds_92 rfl (lv_at hl 3 rfl) ?_
        refine lv_bipush (v := 9) hx hb dX8_succeeds_93 (by decide) ?_
        refine lv_iload hx hb dX8_succeeds_95 (lv_at hl 0 rfl) ?_
        refine kr_Vi (k := (22, 0, 0)) (As := [.int (9 : Int32), .int x3]) (rest := []) C0 hK hP hS hl (km_X8_setsOnTrial l hI hq) kd_X8_setsOnTrial kq_790 (kv_s (by decide) (by decide)) rfl rfl rfl ⟨rfl, rfl, Nat.le_of_ble_eq_true rfl, Nat.le_of_ble_eq_true rfl⟩ rfl (Nat.le_of_ble_eq_true rfl) dX8_succeeds_97 ⟨Nat.zero_le _, Nat.zero_le _⟩ (fun r5 σ4 H locs hq hP hS => ?_)
        obtain ⟨hz, hq⟩ := hq
        exact kr_zret C0 hK hP hS (kz_n hz) hq dX8_succeeds_100
      · have hq := hq.2 hsw1
        by_cases hsw2 : x1 = (2 : Int32)
        · have hq := hq.1 hsw2
          refine lv_tableIn (off := 60) (tgt := 101) hx hb dX8_succeeds_41 (by rw [hsw2]; decide) (by rw [hsw2]; decide) (by rw [hsw2]; decide) (by decide) ?_
          refine lv_aload_n hx hb dX8_succeeds_101 rfl (lv_at hl 3 rfl) ?_
          refine lv_bipush (v := 11) hx hb dX8_succeeds_102 (by decide) ?_
          refine lv_iload hx hb dX8_succeeds_104 (lv_at hl 0 rfl) ?_
          refine kr_Vi (k := (22, 0, 0)) (As := [.int (11 : Int32), .int x3]) (rest := []) C0 hK hP hS hl (km_X8_setsOnTrial l hI hq) kd_X8_setsOnTrial kq_790 (kv_s (by decide) (by decide)) rfl rfl rfl ⟨rfl, rfl, Nat.le_of_ble_eq_true rfl, Nat.le_of_ble_eq_true rfl⟩ rfl (Nat.le_of_ble_eq_true rfl) dX8_succeeds_106 ⟨Nat.zero_le _, Nat.zero_le _⟩ (fun r7 σ6 H locs hq hP hS => ?_)
          obtain ⟨hz, hq⟩ := hq
          exact kr_zret C0 hK hP hS (kz_n hz) hq dX8_succeeds_109
        · have hq := hq.2 hsw2
          by_cases hsw3 : x1 = (3 : Int32)
          · have hq := hq.1 hsw3
            refine lv_tableIn (off := 69) (tgt := 110) hx hb dX8_succeeds_41 (by rw [hsw3]; decide) (by rw [hsw3]; decide) (by rw [hsw3]; decide) (by decide) ?_
            refine lv_aload_n hx hb dX8_succeeds_110 rfl (lv_at hl 3 rfl) ?_
            refine lv_iload_n hx hb dX8_succeeds_111 rfl (lv_at hl 2 rfl) ?_
            refine lv_iload hx hb dX8_succeeds_112 (lv_at hl 0 rfl) ?_
            refine kr_Vi (k := (22, 0, 0)) (As := [.int x1, .int x3]) (rest := []) C0 hK hP hS hl (km_X8_changesWordOfTrial l hI hq) kd_X8_changesWordOfTrial kq_798 (kv_s (by decide) (by decide)) rfl rfl rfl ⟨rfl, rfl, Nat.le_of_ble_eq_true rfl, Nat.le_of_ble_eq_true rfl⟩ rfl (Nat.le_of_ble_eq_true rfl) dX8_succeeds_114 ⟨Nat.zero_le _, Nat.zero_le _⟩ (fun r9 σ8 H locs hq hP hS => ?_)
            obtain ⟨hz, hq⟩ := hq
            exact kr_zret C0 hK hP hS (kz_n hz) hq dX8_succeeds_117
          · have hq := hq.2 hsw3
            by_cases hsw4 : x1 = (4 : Int32)
            · have hq := hq.1 hsw4
              refine lv_tableIn (off := 69) (tgt := 110) hx hb dX8_succeeds_41 (by rw [hsw4]; decide) (by rw [hsw4]; decide) (by rw [hsw4]; decide) (by decide) ?_
              refine lv_aload_n hx hb dX8_succeeds_110 rfl (lv_at hl 3 rfl) ?_
              refine lv_iload_n hx hb dX8_succeeds_111 rfl (lv_at hl 2 rfl) ?_
              refine lv_iload hx hb dX8_succeeds_112 (lv_at hl 0 rfl) ?_
              refine kr_Vi (k := (22, 0, 0)) (As := [.int x1, .int x3]) (rest := []) C0 hK hP hS hl (km_X8_changesWordOfTrial l hI hq) kd_X8_changesWordOfTrial kq_798 (kv_s (by decide) (by decide)) rfl rfl rfl ⟨rfl, rfl, Nat.le_of_ble_eq_true rfl, Nat.le_of_ble_eq_true rfl⟩ rfl (Nat.le_of_ble_eq_true rfl) dX8_succeeds_114 ⟨Nat.zero_le _, Nat.zero_le _⟩ (fun r11 σ10 H locs hq hP hS => ?_)
              obtain ⟨hz, hq⟩ := hq
              exact kr_zret C0 hK hP hS (kz_n hz) hq dX8_succeeds_117
            · have hq := hq.2 hsw4
              by_cases hsw5 : x1 = (5 : Int32)
              · have hq := hq.1 hsw5
                refine lv_tableIn (off := 69) (tgt := 110) hx hb dX8_succeeds_41 (by rw [hsw5]; decide) (by rw [hsw5]; decide) (by rw [hsw5]; decide) (by decide) ?_
                refine lv_aload_n hx hb dX8_succeeds_110 rfl (lv_at hl 3 rfl) ?_
                refine lv_iload_n hx hb dX8_succeeds_111 rfl (lv_at hl 2 rfl) ?_
                refine lv_iload hx hb dX8_succeeds_112 (lv_at hl 0 rfl) ?_
                refine kr_Vi (k := (22, 0, 0)) (As := [.int x1, .int x3]) (rest := []) C0 hK hP hS hl (km_X8_changesWordOfTrial l hI hq) kd_X8_changesWordOfTrial kq_798 (kv_s (by decide) (by decide)) rfl rfl rfl ⟨rfl, rfl, Nat.le_of_ble_eq_true rfl, Nat.le_of_ble_eq_true rfl⟩ rfl (Nat.le_of_ble_eq_true rfl) dX8_succeeds_114 ⟨Nat.zero_le _, Nat.zero_le _⟩ (fun r13 σ12 H locs hq hP hS => ?_)
                obtain ⟨hz, hq⟩ := hq
                exact kr_zret C0 hK hP hS (kz_n hz) hq dX8_succeeds_117
              · have hq := hq.2 hsw5
                by_cases hsw6 : x1 = (6 : Int32)
                · have hq := hq.1 hsw6
                  refine lv_tableIn (off := 135) (tgt := 176) hx hb dX8_succeeds_41 (by rw [hsw6]; decide) (by rw [hsw6]; decide) (by rw [hsw6]; decide) (by decide) ?_
                  refine lv_iconst (v := 0) hx hb dX8_succeeds_176 (by decide) ?_
                  exact kr_zret C0 hK hP hS rfl hq dX8_succeeds_177
                · have hq := hq.2 hsw6
                  by_cases hsw7 : x1 = (7 : Int32)
                  · have hq := hq.1 hsw7
                    refine lv_tableIn (off := 77) (tgt := 118) hx hb dX8_succeeds_41 (by rw [hsw7]; decide) (by rw [hsw7]; decide) (by rw [hsw7]; decide) (by decide) ?_
                    refine lv_iload hx hb dX8_succeeds_118 (lv_at hl 0 rfl) ?_
                    refine lv_if_ne (tgt := 134) hx hb dX8_succeeds_120 (by decide) (fun hc => ?_) (fun hc => ?_)
                    · have hq := hq.2 hc
                      refine lv_iconst (v := 0) hx hb dX8_succeeds_134 (by decide) ?_
                      exact kr_zret C0 hK hP hS rfl hq dX8_succeeds_135
                    · have hq := hq.1 hc
                      refine lv_aload_n hx hb dX8_succeeds_123 rfl (lv_at hl 3 rfl) ?_
                      refine kr_Vi (k := (22, 0, 0)) (As := []) (rest := []) C0 hK hP hS hl (km_X8_fillsTrial l hI hq) kd_X8_fillsTrial kq_810 (kv_s (by decide) (by decide)) rfl rfl rfl ⟨rfl, rfl, Nat.le_of_ble_eq_true rfl, Nat.le_of_ble_eq_true rfl⟩ rfl (Nat.le_of_ble_eq_true rfl) dX8_succeeds_124 ⟨Nat.zero_le _, Nat.zero_le _⟩ (fun r15 σ14 H locs hq hP hS => ?_)
                      refine lv_if_eq (tgt := 134) hx hb dX8_succeeds_127 (by decide) (fun hc => ?_) (fun hc => ?_)
                      · have hq := hq.1 hc
                        refine lv_iconst (v := 0) hx hb dX8_succeeds_134 (by decide) ?_
                        exact kr_zret C0 hK hP hS rfl hq dX8_succeeds_135
                      · have hq := hq.2 hc
                        refine lv_iconst (v := 1) hx hb dX8_succeeds_130 (by decide) ?_
                        refine lv_goto (tgt := 135) hx hb dX8_succeeds_131 (by decide) ?_
                        exact kr_zret C0 hK hP hS rfl hq dX8_succeeds_135
                  · have hq := hq.2 hsw7
                    by_cases hsw8 : x1 = (8 : Int32)
                    · have hq := hq.1 hsw8
                      refine lv_tableIn (off := 95) (tgt := 136) hx hb dX8_succeeds_41 (by rw [hsw8]; decide) (by rw [hsw8]; decide) (by rw [hsw8]; decide) (by decide) ?_
                      refine lv_aload_n hx hb dX8_succeeds_136 rfl (lv_at hl 3 rfl) ?_
                      refine lv_aload_n hx hb dX8_succeeds_137 rfl (lv_at hl 3 rfl) ?_
                      refine kg_X8_trial C0 hK hP (kv_s (by decide) (by decide)) kq_234 dX8_succeeds_138 ?_
                      refine kr_Vr (k := (22, 0, 0)) (As := [.ref (ka_a G (0, 1, 0))]) (rest := []) C0 hK hP hS hl (km_X8_arranged l hI (by decide) hq) kd_X8_arranged kq_502 (kv_s (by decide) (by decide)) rfl rfl rfl ⟨rfl, rfl, Nat.le_of_ble_eq_true rfl, Nat.le_of_ble_eq_true rfl⟩ rfl (Nat.le_of_ble_eq_true rfl) dX8_succeeds_141 ⟨Nat.zero_le _, Nat.zero_le _⟩ (fun σ16 H locs hq hP hS => ?_)
                      refine kg_X1_rowCount C0 hK hP (kv_s (by decide) (by decide)) kq_193 dX8_succeeds_144 ?_
                      refine lv_iload hx hb dX8_succeeds_147 (lv_at hl 0 rfl) ?_
                      refine lv_icmp_gt (tgt := 156) hx hb dX8_succeeds_149 (by decide) (fun hc => ?_) (fun hc => ?_)
                      · have hq := hq.1 hc
                        refine lv_iconst (v := 0) hx hb dX8_succeeds_156 (by decide) ?_
                        exact kr_zret C0 hK hP hS rfl hq dX8_succeeds_157
                      · have hq := hq.2 hc
                        refine lv_iconst (v := 1) hx hb dX8_succeeds_152 (by decide) ?_
                        refine lv_goto (tgt := 157) hx hb dX8_succeeds_153 (by decide) ?_
                        exact kr_zret C0 hK hP hS rfl hq dX8_succeeds_157
                    · have hq := hq.2 hsw8
                      by_cases hsw9 : x1 = (9 : Int32)
                      · have hq := hq.1 hsw9
                        refine lv_tableIn (off := 117) (tgt := 158) hx hb dX8_succeeds_41 (by rw [hsw9]; decide) (by rw [hsw9]; decide) (by rw [hsw9]; decide) (by decide) ?_
                        refine lv_aload_n hx hb dX8_succeeds_158 rfl (lv_at hl 3 rfl) ?_
                        refine kg_X8_trial C0 hK hP (kv_s (by decide) (by decide)) kq_234 dX8_succeeds_159 ?_
                        refine kr_Vi (k := (0, 1, 0)) (As := []) (rest := []) C0 hK hP hS hl (km_X4_countGaps l hI (by decide) hq) kd_X4_countGaps kq_490 (kv_p (by decide) (by decide)) rfl rfl rfl ⟨rfl, rfl, Nat.le_of_ble_eq_true rfl, Nat.le_of_ble_eq_true rfl⟩ rfl (Nat.le_of_ble_eq_true rfl) dX8_succeeds_162 ⟨Nat.zero_le _, Nat.zero_le _⟩ (fun r18 σ17 H locs hq hP hS => ?_)
                        refine lv_iload hx hb dX8_succeeds_165 (lv_at hl 0 rfl) ?_
                        refine lv_icmp_ne (tgt := 174) hx hb dX8_succeeds_167 (by decide) (fun hc => ?_) (fun hc => ?_)
                        · have hq := hq.2 hc
                          refine lv_iconst (v := 0) hx hb dX8_succeeds_174 (by decide) ?_
                          exact kr_zret C0 hK hP hS rfl hq dX8_succeeds_175
                        · have hq := hq.1 hc
                          refine lv_iconst (v := 1) hx hb dX8_succeeds_170 (by decide) ?_
                          refine lv_goto (tgt := 175) hx hb dX8_succeeds_171 (by decide) ?_
                          exact kr_zret C0 hK hP hS rfl hq dX8_succeeds_175
                      · have hq := hq.2 hsw9
                        refine lv_tableOut (tgt := 176) hx hb dX8_succeeds_41 (kt_1_9 (x := x1) hsw1 hsw2 hsw3 hsw4 hsw5 hsw6 hsw7 hsw8 hsw9) (by decide) ?_
                        refine lv_iconst (v := 0) hx hb dX8_succeeds_176 (by decide) ?_
                        exact kr_zret C0 hK hP hS rfl hq dX8_succeeds_177
    · have hq := hq.2 hc
      refine lv_iconst (v := 0) hx hb dX8_succeeds_38 (by decide) ?_
      exact kr_zret C0 hK hP hS rfl hq dX8_succeeds_39
  · have hq := hq.1 hc
    refine lv_aload_n hx hb dX8_succeeds_26 rfl (lv_at hl 3 rfl) ?_
    refine lv_iload hx hb dX8_succeeds_27 (lv_at hl 0 rfl) ?_
    refine lv_iload_n hx hb dX8_succeeds_29 rfl (lv_at hl 1 rfl) ?_
    refine kr_Vi (k := (22, 0, 0)) (As := [.int x3, .int x2]) (rest := []) C0 hK hP hS hl (km_X8_learnsOnTrial l hI hq) kd_X8_learnsOnTrial kq_763 (kv_s (by decide) (by decide)) rfl rfl rfl ⟨rfl, rfl, Nat.le_of_ble_eq_true rfl, Nat.le_of_ble_eq_true rfl⟩ rfl (Nat.le_of_ble_eq_true rfl) dX8_succeeds_30 ⟨Nat.zero_le _, Nat.zero_le _⟩ (fun r20 σ19 H locs hq hP hS => ?_)
    obtain ⟨hz, hq⟩ := hq
    exact kr_zret C0 hK hP hS (kz_n hz) hq dX8_succeeds_33
/-! GlossRows.playRound(I)V -/
def rm_X8_playRound : Room := { frames := 2, cells := 0, slots := 0, locals := 40 }
def kw_X8_playRound (σ : ka_S) (v1 : Int32) (Q : ka_S → Prop) : Prop := ∀ x1 : Int32, x1 = (v1 / (4 : Int32)) → 
  ∀ x2 : Int32, x2 = (v1 - v1 / (4 : Int32) * (4 : Int32)) →
  (x2 = (0 : Int32) → kw_X4_change σ 1 (9 : Int32) ((10 : Int32) + (x1 - x1 / (51 : Int32) * (51 : Int32))) (fun r4 σ3 => 
  Q σ3)) ∧
  (¬ x2 = (0 : Int32) → (x2 = (1 : Int32) → kw_X4_change σ 1 (11 : Int32) (x1 - x1 / (2 : Int32) * (2 : Int32)) (fun r6 σ5 => 
  Q σ5)) ∧
  (¬ x2 = (1 : Int32) → (x2 = (2 : Int32) → kw_X4_change σ 1 (10 : Int32) ((1 : Int32) + (x1 - x1 / (3 : Int32) * (3 : Int32))) (fun r8 σ7 => 
  Q σ7)) ∧
  (¬ x2 = (2 : Int32) → ((σ.1 (0, 1, 0) 2) ≤ (0 : Int32) → Q σ) ∧
  (¬ (σ.1 (0, 1, 0) 2) ≤ (0 : Int32) → ¬ (σ.1 (0, 1, 0) 2) = 0 ∧
    vp_in (x1 - x1 / (σ.1 (0, 1, 0) 2) * (σ.1 (0, 1, 0) 2)) 12 ∧
    kw_X7_turnEnd σ 1 ((x1 - x1 / (σ.1 (0, 1, 0) 2) * (σ.1 (0, 1, 0) 2)).toNatClampNeg) (fun σ10 => 
    Q σ10)))))
set_option maxHeartbeats 4000000 in
set_option maxRecDepth 100000 in
theorem km_X8_playRound (l : Launch) {G : ka_G} (hI : ka_I G) {σ : ka_S} {v1 : Int32} {Q : ka_S → Prop} (hq : kw_X8_playRound σ v1 Q) : kc_v l yX8_playRound (kw_ yX8_playRound cX8_playRound 3 none) rm_X8_playRound G [.ref (ka_a G (22, 0, 0)), .int v1] σ Q := by
  refine ka_of "GlossRows" rfl (by decide) (Nat.le_of_ble_eq_true rfl) ?_
  intro p e s m below meth c C0 hK H locs hP hS ls hl
  obtain ⟨hx, hb, -, hml, hown, hts, -⟩ := id C0
  have hl : lv_has ls 3 [(0, .ref (ka_a G (22, 0, 0))), (1, .int v1)] := hl
  unfold kw_X8_playRound at hq
  refine lv_iload_n hx hb dX8_playRound_0 rfl (lv_at hl 1 rfl) ?_
  refine lv_iconst (v := 4) hx hb dX8_playRound_1 (by decide) ?_
  refine lv_idiv hx hb dX8_playRound_2 (by decide) ?_
  refine lv_topi (fun x1 ex1 => ?_)
  have hq := hq x1 ex1
  refine lv_istore_n (lv' := [(2, .int x1), (0, .ref (ka_a G (22, 0, 0))), (1, .int v1)]) hx hb dX8_playRound_3 rfl hl (by decide) rfl (fun ls hl => ?_)
  refine lv_iload_n hx hb dX8_playRound_4 rfl (lv_at hl 2 rfl) ?_
  refine lv_iconst (v := 4) hx hb dX8_playRound_5 (by decide) ?_
  refine lv_irem hx hb dX8_playRound_6 (by decide) ?_
  refine lv_topi (fun x2 ex2 => ?_)
  have hq := hq x2 ex2
  by_cases hsw0 : x2 = (0 : Int32)
  · have hq := hq.1 hsw0
    refine lv_tableIn (off := 25) (tgt := 32) hx hb dX8_playRound_7 (by rw [hsw0]; decide) (by rw [hsw0]; decide) (by rw [hsw0]; decide) (by decide) ?_
    refine lv_aload_n hx hb dX8_playRound_32 rfl (lv_at hl 1 rfl) ?_
    refine kg_X8_trial C0 hK hP (kv_s (by decide) (by decide)) kq_234 dX8_playRound_33 ?_
    refine lv_bipush (v := 9) hx hb dX8_playRound_36 (by decide) ?_
    refine lv_bipush (v := 10) hx hb dX8_playRound_38 (by decide) ?_
    refine lv_iload_n hx hb dX8_playRound_40 rfl (lv_at hl 0 rfl) ?_
    refine lv_bipush (v := 51) hx hb dX8_playRound_41 (by decide) ?_
    refine lv_irem hx hb dX8_playRound_43 (by decide) ?_
    refine lv_iadd hx hb dX8_playRound_44 ?_
    refine kr_Vi (k := (0, 1, 0)) (As := [.int (9 : Int32), .int ((10 : Int32) + (x1 - x1 / (51 : Int32) * (51 : Int32)))]) (rest := []) C0 hK hP hS hl (km_X4_change l hI (by decide) hq) kd_X4_change kq_794 (kv_p (by decide) (by decide)) rfl rfl rfl ⟨rfl, rfl, Nat.le_of_ble_eq_true rfl, Nat.le_of_ble_eq_true rfl⟩ rfl (Nat.le_of_ble_eq_true rfl) dX8_playRound_45 ⟨Nat.zero_le _, Nat.zero_le _⟩ (fun r4 σ3 H locs hq hP hS => ?_)
    refine lv_pop hx hb dX8_playRound_48 rfl ?_
    refine lv_goto (tgt := 116) hx hb dX8_playRound_49 (by decide) ?_
    exact kr_vret C0 hK hP hS hq dX8_playRound_116
  · have hq := hq.2 hsw0
    by_cases hsw1 : x2 = (1 : Int32)
    · have hq := hq.1 hsw1
      refine lv_tableIn (off := 45) (tgt := 52) hx hb dX8_playRound_7 (by rw [hsw1]; decide) (by rw [hsw1]; decide) (by rw [hsw1]; decide) (by decide) ?_
      refine lv_aload_n hx hb dX8_playRound_52 rfl (lv_at hl 1 rfl) ?_
      refine kg_X8_trial C0 hK hP (kv_s (by decide) (by decide)) kq_234 dX8_playRound_53 ?_
      refine lv_bipush (v := 11) hx hb dX8_playRound_56 (by decide) ?_
      refine lv_iload_n hx hb dX8_playRound_58 rfl (lv_at hl 0 rfl) ?_
      refine lv_iconst (v := 2) hx hb dX8_playRound_59 (by decide) ?_
      refine lv_irem hx hb dX8_playRound_60 (by decide) ?_
      refine kr_Vi (k := (0, 1, 0)) (As := [.int (11 : Int32), .int (x1 - x1 / (2 : Int32) * (2 : Int32))]) (rest := []) C0 hK hP hS hl (km_X4_change l hI (by decide) hq) kd_X4_change kq_794 (kv_p (by decide) (by decide)) rfl rfl rfl ⟨rfl, rfl, Nat.le_of_ble_eq_true rfl, Nat.le_of_ble_eq_true rfl⟩ rfl (Nat.le_of_ble_eq_true rfl) dX8_playRound_61 ⟨Nat.zero_le _, Nat.zero_le _⟩ (fun r6 σ5 H locs hq hP hS => ?_)
      refine lv_pop hx hb dX8_playRound_64 rfl ?_
      refine lv_goto (tgt := 116) hx hb dX8_playRound_65 (by decide) ?_
      exact kr_vret C0 hK hP hS hq dX8_playRound_116
    · have hq := hq.2 hsw1
      by_cases hsw2 : x2 = (2 : Int32)
      · have hq := hq.1 hsw2
        refine lv_tableIn (off := 61) (tgt := 68) hx hb dX8_playRound_7 (by rw [hsw2]; decide) (by rw [hsw2]; decide) (by rw [hsw2]; decide) (by decide) ?_
        refine lv_aload_n hx hb dX8_playRound_68 rfl (lv_at hl 1 rfl) ?_
        refine kg_X8_trial C0 hK hP (kv_s (by decide) (by decide)) kq_234 dX8_playRound_69 ?_
        refine lv_bipush (v := 10) hx hb dX8_playRound_72 (by decide) ?_
        refine lv_iconst (v := 1) hx hb dX8_playRound_74 (by decide) ?_
        refine lv_iload_n hx hb dX8_playRound_75 rfl (lv_at hl 0 rfl) ?_
        refine lv_iconst (v := 3) hx hb dX8_playRound_76 (by decide) ?_
        refine lv_irem hx hb dX8_playRound_77 (by decide) ?_
        refine lv_iadd hx hb dX8_playRound_78 ?_
        refine kr_Vi (k := (0, 1, 0)) (As := [.int (10 : Int32), .int ((1 : Int32) + (x1 - x1 / (3 : Int32) * (3 : Int32)))]) (rest := []) C0 hK hP hS hl (km_X4_change l hI (by decide) hq) kd_X4_change kq_794 (kv_p (by decide) (by decide)) rfl rfl rfl ⟨rfl, rfl, Nat.le_of_ble_eq_true rfl, Nat.le_of_ble_eq_true rfl⟩ rfl (Nat.le_of_ble_eq_true rfl) dX8_playRound_79 ⟨Nat.zero_le _, Nat.zero_le _⟩ (fun r8 σ7 H locs hq hP hS => ?_)
        refine lv_pop hx hb dX8_playRound_82 rfl ?_
        refine lv_goto (tgt := 116) hx hb dX8_playRound_83 (by decide) ?_
        exact kr_vret C0 hK hP hS hq dX8_playRound_116
      · have hq := hq.2 hsw2
        refine lv_tableOut (tgt := 86) hx hb dX8_playRound_7 (kt_0_2 (x := x2) hsw0 hsw1 hsw2) (by decide) ?_
        refine lv_aload_n hx hb dX8_playRound_86 rfl (lv_at hl 1 rfl) ?_
        refine kg_X8_trial C0 hK hP (kv_s (by decide) (by decide)) kq_234 dX8_playRound_87 ?_
        refine kg_X4_count C0 hK hP (kv_p (by decide) (by decide)) kq_155 dX8_playRound_90 ?_
        refine lv_if_le (tgt := 116) hx hb dX8_playRound_93 (by decide) (fun hc => ?_) (fun hc => ?_)
        · have hq := hq.1 hc
          exact kr_vret C0 hK hP hS hq dX8_playRound_116
        · have hq := hq.2 hc
          refine lv_aload_n hx hb dX8_playRound_96 rfl (lv_at hl 1 rfl) ?_
          refine kg_X8_trial C0 hK hP (kv_s (by decide) (by decide)) kq_234 dX8_playRound_97 ?_
          refine kg_X4_words C0 hK hP (kv_p (by decide) (by decide)) kq_150 dX8_playRound_100 ?_
          refine lv_iload_n hx hb dX8_playRound_103 rfl (lv_at hl 0 rfl) ?_
          refine lv_aload_n hx hb dX8_playRound_104 rfl (lv_at hl 1 rfl) ?_
          refine kg_X8_trial C0 hK hP (kv_s (by decide) (by decide)) kq_234 dX8_playRound_105 ?_
          refine kg_X4_count C0 hK hP (kv_p (by decide) (by decide)) kq_155 dX8_playRound_108 ?_
          obtain ⟨hne, hq⟩ := hq
          refine lv_irem hx hb dX8_playRound_111 hne ?_
          obtain ⟨b9, hq⟩ := hq
          refine kr_aald (t := 3) C0 hK hP (kv_p (by decide) (by decide)) rfl rfl b9 rfl dX8_playRound_112 ?_
          refine kr_Vv (k := (5, 1, (x1 - x1 / (σ.1 (0, 1, 0) 2) * (σ.1 (0, 1, 0) 2)).toNatClampNeg)) (As := []) (rest := []) C0 hK hP hS hl (km_X7_turnEnd l hI (k_19 (by decide)) (vp_lt b9) hq) kd_X7_turnEnd kq_832 (kv_w (by decide) (by decide) (k_19 (by decide)) (vp_lt b9)) rfl rfl rfl ⟨rfl, rfl, Nat.le_of_ble_eq_true rfl, Nat.le_of_ble_eq_true rfl⟩ rfl (Nat.le_of_ble_eq_true rfl) dX8_playRound_113 ⟨Nat.zero_le _, Nat.zero_le _⟩ (fun σ10 H locs hq hP hS => ?_)
          exact kr_vret C0 hK hP hS hq dX8_playRound_116
