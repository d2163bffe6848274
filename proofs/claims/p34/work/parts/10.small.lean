/-! GlossRows$Letters.length(J)I -/
def rm_X2_length : Room := { frames := 0, cells := 0, slots := 0, locals := 0 }
def kw_X2_length (σ : ka_S) (v0 : Int64) (Q : Int32 → ka_S → Prop) : Prop := Q ((v0 &&& (15 : Int64)).toInt32) σ
set_option maxHeartbeats 4000000 in
set_option maxRecDepth 100000 in
theorem km_X2_length (l : Launch) {G : ka_G} (hI : ka_I G) {σ : ka_S} {v0 : Int64} {Q : Int32 → ka_S → Prop} (hq : kw_X2_length σ v0 Q) : kc_i l yX2_length (kw_ yX2_length cX2_length 2 (some .int)) rm_X2_length G [.long v0] σ Q := by
  refine ka_of "GlossRows$Letters" rfl (by decide) (Nat.le_of_ble_eq_true rfl) ?_
  intro p e s m below meth c C0 hK H locs hP hS ls hl
  obtain ⟨hx, hb, -, hml, hown, hts, -⟩ := id C0
  have hl : lv_has ls 2 [(0, .long v0)] := hl
  unfold kw_X2_length at hq
  refine lv_lload_n hx hb dX2_length_0 rfl (lv_at hl 0 rfl) ?_
  refine lv_ldc2 hx hb hown (hts _ kq_305) dX2_length_1 ?_
  refine lv_land hx hb dX2_length_4 ?_
  refine lv_l2i hx hb dX2_length_5 rfl ?_
  exact kr_iret C0 hK hP hS hq dX2_length_6
/-! GlossRows$Letters.placeOf(I)I -/
def rm_X2_placeOf : Room := { frames := 0, cells := 0, slots := 0, locals := 0 }
def kw_X2_placeOf (σ : ka_S) (v0 : Int32) (Q : Int32 → ka_S → Prop) : Prop := Q ((4 : Int32) + ((7 : Int32) * ((7 : Int32) - v0))) σ
set_option maxHeartbeats 4000000 in
set_option maxRecDepth 100000 in
theorem km_X2_placeOf (l : Launch) {G : ka_G} (hI : ka_I G) {σ : ka_S} {v0 : Int32} {Q : Int32 → ka_S → Prop} (hq : kw_X2_placeOf σ v0 Q) : kc_i l yX2_placeOf (kw_ yX2_placeOf cX2_placeOf 1 (some .int)) rm_X2_placeOf G [.int v0] σ Q := by
  refine ka_of "GlossRows$Letters" rfl (by decide) (Nat.le_of_ble_eq_true rfl) ?_
  intro p e s m below meth c C0 hK H locs hP hS ls hl
  obtain ⟨hx, hb, -, hml, hown, hts, -⟩ := id C0
  have hl : lv_has ls 1 [(0, .int v0)] := hl
  unfold kw_X2_placeOf at hq
  refine lv_iconst (v := 4) hx hb dX2_placeOf_0 (by decide) ?_
  refine lv_bipush (v := 7) hx hb dX2_placeOf_1 (by decide) ?_
  refine lv_bipush (v := 7) hx hb dX2_placeOf_3 (by decide) ?_
  refine lv_iload_n hx hb dX2_placeOf_5 rfl (lv_at hl 0 rfl) ?_
  refine lv_isub hx hb dX2_placeOf_6 ?_
  refine lv_imul hx hb dX2_placeOf_7 ?_
  refine lv_iadd hx hb dX2_placeOf_8 ?_
  exact kr_iret C0 hK hP hS hq dX2_placeOf_9
/-! GlossRows$Letters.code(JI)I -/
def rm_X2_code : Room := { frames := 1, cells := 0, slots := 0, locals := 21 }
def kw_X2_code (σ : ka_S) (v0 : Int64) (v2 : Int32) (Q : Int32 → ka_S → Prop) : Prop := (v2 < (0 : Int32) → Q (-9 : Int32) σ) ∧
  (¬ v2 < (0 : Int32) → kw_X2_length σ v0 (fun r2 σ1 => 
    (v2 < r2 → kw_X2_placeOf σ1 v2 (fun r4 σ3 => 
      Q ((((v0.toUInt64 >>> (r4.toInt64.toUInt64 &&& Int64.toUInt64 63)).toInt64).toInt32) &&& (127 : Int32)) σ3)) ∧
    (¬ v2 < r2 → Q (-9 : Int32) σ1)))
set_option maxHeartbeats 4000000 in
set_option maxRecDepth 100000 in
theorem km_X2_code (l : Launch) {G : ka_G} (hI : ka_I G) {σ : ka_S} {v0 : Int64} {v2 : Int32} {Q : Int32 → ka_S → Prop} (hq : kw_X2_code σ v0 v2 Q) : kc_i l yX2_code (kw_ yX2_code cX2_code 3 (some .int)) rm_X2_code G [.long v0, .int v2] σ Q := by
  refine ka_of "GlossRows$Letters" rfl (by decide) (Nat.le_of_ble_eq_true rfl) ?_
  intro p e s m below meth c C0 hK H locs hP hS ls hl
  obtain ⟨hx, hb, -, hml, hown, hts, -⟩ := id C0
  have hl : lv_has ls 3 [(0, .long v0), (2, .int v2)] := hl
  unfold kw_X2_code at hq
  refine lv_iload_n hx hb dX2_code_0 rfl (lv_at hl 1 rfl) ?_
  refine lv_if_lt (tgt := 12) hx hb dX2_code_1 (by decide) (fun hc => ?_) (fun hc => ?_)
  · have hq := hq.1 hc
    refine lv_bipush (v := -9) hx hb dX2_code_12 (by decide) ?_
    exact kr_iret C0 hK hP hS hq dX2_code_14
  · have hq := hq.2 hc
    refine lv_iload_n hx hb dX2_code_4 rfl (lv_at hl 1 rfl) ?_
    refine lv_lload_n hx hb dX2_code_5 rfl (lv_at hl 0 rfl) ?_
    refine kr_Si (As := [.long v0]) (rest := [.int v2]) C0 hK hP hS hl (km_X2_length l hI hq) kd_X2_length kq_334 ⟨rfl, rfl, Nat.le_of_ble_eq_true rfl, Nat.le_of_ble_eq_true rfl⟩ rfl (Nat.le_of_ble_eq_true rfl) dX2_code_6 ⟨Nat.zero_le _, Nat.zero_le _⟩ (fun r2 σ1 H locs hq hP hS => ?_)
    refine lv_icmp_lt (tgt := 15) hx hb dX2_code_9 (by decide) (fun hc => ?_) (fun hc => ?_)
    · have hq := hq.1 hc
      refine lv_lload_n hx hb dX2_code_15 rfl (lv_at hl 0 rfl) ?_
      refine lv_iload_n hx hb dX2_code_16 rfl (lv_at hl 1 rfl) ?_
      refine kr_Si (As := [.int v2]) (rest := [.long v0]) C0 hK hP hS hl (km_X2_placeOf l hI hq) kd_X2_placeOf kq_335 ⟨rfl, rfl, Nat.le_of_ble_eq_true rfl, Nat.le_of_ble_eq_true rfl⟩ rfl (Nat.le_of_ble_eq_true rfl) dX2_code_17 ⟨Nat.zero_le _, Nat.zero_le _⟩ (fun r4 σ3 H locs hq hP hS => ?_)
      refine lv_lushr hx hb dX2_code_20 rfl ?_
      refine lv_l2i hx hb dX2_code_21 rfl ?_
      refine lv_bipush (v := 127) hx hb dX2_code_22 (by decide) ?_
      refine lv_iand hx hb dX2_code_24 ?_
      exact kr_iret C0 hK hP hS hq dX2_code_25
    · have hq := hq.2 hc
      refine lv_bipush (v := -9) hx hb dX2_code_12 (by decide) ?_
      exact kr_iret C0 hK hP hS hq dX2_code_14
/-! GlossRows$Letters.with(JI)J -/
def rm_X2_with : Room := { frames := 1, cells := 0, slots := 0, locals := 21 }
def kw_X2_with (σ : ka_S) (v0 : Int64) (v2 : Int32) (Q : Int64 → ka_S → Prop) : Prop := kw_X2_length σ v0 (fun r2 σ1 => 
  (r2 < (8 : Int32) → kw_X2_placeOf σ1 r2 (fun r4 σ3 => 
    Q ((v0 + (v2.toInt64 <<< (r4.toInt64 &&& 63))) + (1 : Int64)) σ3)) ∧
  (¬ r2 < (8 : Int32) → Q v0 σ1))
set_option maxHeartbeats 4000000 in
set_option maxRecDepth 100000 in
theorem km_X2_with (l : Launch) {G : ka_G} (hI : ka_I G) {σ : ka_S} {v0 : Int64} {v2 : Int32} {Q : Int64 → ka_S → Prop} (hq : kw_X2_with σ v0 v2 Q) : kc_l l yX2_with (kw_ yX2_with cX2_with 4 (some .long)) rm_X2_with G [.long v0, .int v2] σ Q := by
  refine ka_of "GlossRows$Letters" rfl (by decide) (Nat.le_of_ble_eq_true rfl) ?_
  intro p e s m below meth c C0 hK H locs hP hS ls hl
  obtain ⟨hx, hb, -, hml, hown, hts, -⟩ := id C0
  have hl : lv_has ls 4 [(0, .long v0), (2, .int v2)] := hl
  unfold kw_X2_with at hq
  refine lv_lload_n hx hb dX2_with_0 rfl (lv_at hl 0 rfl) ?_
  refine kr_Si (As := [.long v0]) (rest := []) C0 hK hP hS hl (km_X2_length l hI hq) kd_X2_length kq_334 ⟨rfl, rfl, Nat.le_of_ble_eq_true rfl, Nat.le_of_ble_eq_true rfl⟩ rfl (Nat.le_of_ble_eq_true rfl) dX2_with_1 ⟨Nat.zero_le _, Nat.zero_le _⟩ (fun r2 σ1 H locs hq hP hS => ?_)
  refine lv_istore_n (lv' := [(3, .int r2), (0, .long v0), (2, .int v2)]) hx hb dX2_with_4 rfl hl (by decide) rfl (fun ls hl => ?_)
  refine lv_iload_n hx hb dX2_with_5 rfl (lv_at hl 0 rfl) ?_
  refine lv_bipush (v := 8) hx hb dX2_with_6 (by decide) ?_
  refine lv_icmp_lt (tgt := 13) hx hb dX2_with_8 (by decide) (fun hc => ?_) (fun hc => ?_)
  · have hq := hq.1 hc
    refine lv_lload_n hx hb dX2_with_13 rfl (lv_at hl 1 rfl) ?_
    refine lv_iload_n hx hb dX2_with_14 rfl (lv_at hl 2 rfl) ?_
    refine lv_i2l hx hb dX2_with_15 rfl ?_
    refine lv_iload_n hx hb dX2_with_16 rfl (lv_at hl 0 rfl) ?_
    refine kr_Si (As := [.int r2]) (rest := [.long v2.toInt64, .long v0]) C0 hK hP hS hl (km_X2_placeOf l hI hq) kd_X2_placeOf kq_335 ⟨rfl, rfl, Nat.le_of_ble_eq_true rfl, Nat.le_of_ble_eq_true rfl⟩ rfl (Nat.le_of_ble_eq_true rfl) dX2_with_17 ⟨Nat.zero_le _, Nat.zero_le _⟩ (fun r4 σ3 H locs hq hP hS => ?_)
    refine lv_lshl hx hb dX2_with_20 rfl ?_
    refine lv_ladd hx hb dX2_with_21 ?_
    refine lv_lconst (v := 1) hx hb dX2_with_22 (by decide) ?_
    refine lv_ladd hx hb dX2_with_23 ?_
    exact kr_lret C0 hK hP hS hq dX2_with_24
  · have hq := hq.2 hc
    refine lv_lload_n hx hb dX2_with_11 rfl (lv_at hl 1 rfl) ?_
    exact kr_lret C0 hK hP hS hq dX2_with_12
/-! GlossRows$Letters.isLetter(I)Z -/
def rm_X2_isLetter : Room := { frames := 0, cells := 0, slots := 0, locals := 0 }
def kw_X2_isLetter (σ : ka_S) (v0 : Int32) (Q : Int32 → ka_S → Prop) : Prop := (v0 < (97 : Int32) → Q (0 : Int32) σ) ∧
  (¬ v0 < (97 : Int32) → ((122 : Int32) < v0 → Q (0 : Int32) σ) ∧
    (¬ (122 : Int32) < v0 → Q (1 : Int32) σ))
set_option maxHeartbeats 4000000 in
set_option maxRecDepth 100000 in
theorem km_X2_isLetter (l : Launch) {G : ka_G} (hI : ka_I G) {σ : ka_S} {v0 : Int32} {Q : Int32 → ka_S → Prop} (hq : kw_X2_isLetter σ v0 Q) : kc_i l yX2_isLetter (kw_ yX2_isLetter cX2_isLetter 1 (some .boolean)) rm_X2_isLetter G [.int v0] σ Q := by
  refine ka_of "GlossRows$Letters" rfl (by decide) (Nat.le_of_ble_eq_true rfl) ?_
  intro p e s m below meth c C0 hK H locs hP hS ls hl
  obtain ⟨hx, hb, -, hml, hown, hts, -⟩ := id C0
  have hl : lv_has ls 1 [(0, .int v0)] := hl
  unfold kw_X2_isLetter at hq
  refine lv_iload_n hx hb dX2_isLetter_0 rfl (lv_at hl 0 rfl) ?_
  refine lv_bipush (v := 97) hx hb dX2_isLetter_1 (by decide) ?_
  refine lv_icmp_lt (tgt := 16) hx hb dX2_isLetter_3 (by decide) (fun hc => ?_) (fun hc => ?_)
  · have hq := hq.1 hc
    refine lv_iconst (v := 0) hx hb dX2_isLetter_16 (by decide) ?_
    exact kr_zret C0 hK hP hS rfl hq dX2_isLetter_17
  · have hq := hq.2 hc
    refine lv_iload_n hx hb dX2_isLetter_6 rfl (lv_at hl 0 rfl) ?_
    refine lv_bipush (v := 122) hx hb dX2_isLetter_7 (by decide) ?_
    refine lv_icmp_gt (tgt := 16) hx hb dX2_isLetter_9 (by decide) (fun hc => ?_) (fun hc => ?_)
    · have hq := hq.1 hc
      refine lv_iconst (v := 0) hx hb dX2_isLetter_16 (by decide) ?_
      exact kr_zret C0 hK hP hS rfl hq dX2_isLetter_17
    · have hq := hq.2 hc
      refine lv_iconst (v := 1) hx hb dX2_isLetter_12 (by decide) ?_
      refine lv_goto (tgt := 17) hx hb dX2_isLetter_13 (by decide) ?_
      exact kr_zret C0 hK hP hS rfl hq dX2_isLetter_17
/-! GlossRows$Letters.isGlossLetter(I)Z -/
def rm_X2_isGlossLetter : Room := { frames := 1, cells := 0, slots := 0, locals := 20 }
def kw_X2_isGlossLetter (σ : ka_S) (v0 : Int32) (Q : Int32 → ka_S → Prop) : Prop := kw_X2_isLetter σ v0 (fun r2 σ1 => 
  (r2 = (0 : Int32) → (v0 = (46 : Int32) → Q (1 : Int32) σ1) ∧
    (¬ v0 = (46 : Int32) → Q (0 : Int32) σ1)) ∧
  (¬ r2 = (0 : Int32) → Q (1 : Int32) σ1))
set_option maxHeartbeats 4000000 in
set_option maxRecDepth 100000 in
theorem km_X2_isGlossLetter (l : Launch) {G : ka_G} (hI : ka_I G) {σ : ka_S} {v0 : Int32} {Q : Int32 → ka_S → Prop} (hq : kw_X2_isGlossLetter σ v0 Q) : kc_i l yX2_isGlossLetter (kw_ yX2_isGlossLetter cX2_isGlossLetter 1 (some .boolean)) rm_X2_isGlossLetter G [.int v0] σ Q := by
  refine ka_of "GlossRows$Letters" rfl (by decide) (Nat.le_of_ble_eq_true rfl) ?_
  intro p e s m below meth c C0 hK H locs hP hS ls hl
  obtain ⟨hx, hb, -, hml, hown, hts, -⟩ := id C0
  have hl : lv_has ls 1 [(0, .int v0)] := hl
  unfold kw_X2_isGlossLetter at hq
  refine lv_iload_n hx hb dX2_isGlossLetter_0 rfl (lv_at hl 0 rfl) ?_
  refine kr_Si (As := [.int v0]) (rest := []) C0 hK hP hS hl (km_X2_isLetter l hI hq) kd_X2_isLetter kq_328 ⟨rfl, rfl, Nat.le_of_ble_eq_true rfl, Nat.le_of_ble_eq_true rfl⟩ rfl (Nat.le_of_ble_eq_true rfl) dX2_isGlossLetter_1 ⟨Nat.zero_le _, Nat.zero_le _⟩ (fun r2 σ1 H locs hq hP hS => ?_)
  refine lv_if_ne (tgt := 13) hx hb dX2_isGlossLetter_4 (by decide) (fun hc => ?_) (fun hc => ?_)
  · have hq := hq.2 hc
    refine lv_iconst (v := 1) hx hb dX2_isGlossLetter_13 (by decide) ?_
    refine lv_goto (tgt := 18) hx hb dX2_isGlossLetter_14 (by decide) ?_
    exact kr_zret C0 hK hP hS rfl hq dX2_isGlossLetter_18
  · have hq := hq.1 hc
    refine lv_iload_n hx hb dX2_isGlossLetter_7 rfl (lv_at hl 0 rfl) ?_
    refine lv_bipush (v := 46) hx hb dX2_isGlossLetter_8 (by decide) ?_
    refine lv_icmp_ne (tgt := 17) hx hb dX2_isGlossLetter_10 (by decide) (fun hc => ?_) (fun hc => ?_)
    · have hq := hq.2 hc
      refine lv_iconst (v := 0) hx hb dX2_isGlossLetter_17 (by decide) ?_
      exact kr_zret C0 hK hP hS rfl hq dX2_isGlossLetter_18
    · have hq := hq.1 hc
      refine lv_iconst (v := 1) hx hb dX2_isGlossLetter_13 (by decide) ?_
      refine lv_goto (tgt := 18) hx hb dX2_isGlossLetter_14 (by decide) ?_
      exact kr_zret C0 hK hP hS rfl hq dX2_isGlossLetter_18
/-! GlossRows$Letters.isMark(I)Z -/
def rm_X2_isMark : Room := { frames := 0, cells := 0, slots := 0, locals := 0 }
def kw_X2_isMark (σ : ka_S) (v0 : Int32) (Q : Int32 → ka_S → Prop) : Prop := (v0 = (45 : Int32) → Q (1 : Int32) σ) ∧
  (¬ v0 = (45 : Int32) → (v0 = (61 : Int32) → Q (1 : Int32) σ) ∧
    (¬ v0 = (61 : Int32) → Q (0 : Int32) σ))
set_option maxHeartbeats 4000000 in
set_option maxRecDepth 100000 in
theorem km_X2_isMark (l : Launch) {G : ka_G} (hI : ka_I G) {σ : ka_S} {v0 : Int32} {Q : Int32 → ka_S → Prop} (hq : kw_X2_isMark σ v0 Q) : kc_i l yX2_isMark (kw_ yX2_isMark cX2_isMark 1 (some .boolean)) rm_X2_isMark G [.int v0] σ Q := by
  refine ka_of "GlossRows$Letters" rfl (by decide) (Nat.le_of_ble_eq_true rfl) ?_
  intro p e s m below meth c C0 hK H locs hP hS ls hl
  obtain ⟨hx, hb, -, hml, hown, hts, -⟩ := id C0
  have hl : lv_has ls 1 [(0, .int v0)] := hl
  unfold kw_X2_isMark at hq
  refine lv_iload_n hx hb dX2_isMark_0 rfl (lv_at hl 0 rfl) ?_
  refine lv_bipush (v := 45) hx hb dX2_isMark_1 (by decide) ?_
  refine lv_icmp_eq (tgt := 12) hx hb dX2_isMark_3 (by decide) (fun hc => ?_) (fun hc => ?_)
  · have hq := hq.1 hc
    refine lv_iconst (v := 1) hx hb dX2_isMark_12 (by decide) ?_
    refine lv_goto (tgt := 17) hx hb dX2_isMark_13 (by decide) ?_
    exact kr_zret C0 hK hP hS rfl hq dX2_isMark_17
  · have hq := hq.2 hc
    refine lv_iload_n hx hb dX2_isMark_6 rfl (lv_at hl 0 rfl) ?_
    refine lv_bipush (v := 61) hx hb dX2_isMark_7 (by decide) ?_
    refine lv_icmp_ne (tgt := 16) hx hb dX2_isMark_9 (by decide) (fun hc => ?_) (fun hc => ?_)
    · have hq := hq.2 hc
      refine lv_iconst (v := 0) hx hb dX2_isMark_16 (by decide) ?_
      exact kr_zret C0 hK hP hS rfl hq dX2_isMark_17
    · have hq := hq.1 hc
      refine lv_iconst (v := 1) hx hb dX2_isMark_12 (by decide) ?_
      refine lv_goto (tgt := 17) hx hb dX2_isMark_13 (by decide) ?_
      exact kr_zret C0 hK hP hS rfl hq dX2_isMark_17
/-! GlossRows$Lexicon.copyFrom(LGlossRows$Lexicon;)V -/
def rm_X3_copyFrom : Room := { frames := 0, cells := 0, slots := 0, locals := 0 }
def kw_X3_copyFrom_10 (o : Nat) (o2 : Nat) (Q : ka_S → Prop) : Nat → ka_S → Int32 → Prop
  | 0, _, _ => False
  | n + 1, σ, v2 => ((σ.1 (2, o, 0) 2) ≤ v2 → Q σ) ∧
    (¬ (σ.1 (2, o, 0) 2) ≤ v2 → vp_in v2 16 ∧
      vp_in v2 16 ∧
      ∀ σ5 : ka_S, σ5 = ka_wL σ (3, o, 0) v2.toNatClampNeg (σ.2 (3, o2, 0) v2.toNatClampNeg) →
      vp_in v2 16 ∧
      vp_in v2 16 ∧
      ∀ σ8 : ka_S, σ8 = ka_wL σ5 (4, o, 0) v2.toNatClampNeg (σ5.2 (4, o2, 0) v2.toNatClampNeg) →
      ∀ x9 : Int32, x9 = v2 + (1 : Int32) →
      (kw_X3_copyFrom_10 o o2 Q n) σ8 x9)
def kw_X3_copyFrom (σ : ka_S) (o : Nat) (o2 : Nat) (Q : ka_S → Prop) : Prop := ∀ σ1 : ka_S, σ1 = ka_wI σ (2, o, 0) 2 (σ.1 (2, o2, 0) 2) →
  ∃ n2 : Nat, kw_X3_copyFrom_10 o o2 Q n2 σ1 (0 : Int32)
set_option maxHeartbeats 4000000 in
set_option maxRecDepth 100000 in
theorem kb_X3_copyFrom_10 {p : Program} {l : Launch} {e : Env} {s : State} {m : MethodId} {args : Array Value} {below : List Frame} {meth : Method} {c : Code} {G : ka_G} (hI : ka_I G) {o : Nat} {o2 : Nat} (ho : o < 18) (ho2 : o2 < 18) (C0 : ka_C p s m args meth c cX3_copyFrom 3 "GlossRows$Lexicon" none) (hK : ka_Kn G s) {Q : ka_S → Prop} : ∀ (n : Nat) (σ : ka_S) (v2 : Int32), kw_X3_copyFrom_10 o o2 Q n σ v2 → ∀ (H : Heap) (locs : List Loc), ka_P G σ H → va_S (ka_A G) s.heap H locs → ∀ ls : Array Slot, lv_has ls 3 [(0, .ref (ka_a G (2, o, 0))), (1, .ref (ka_a G (2, o2, 0))), (2, .int v2)] → W p l e rm_X3_copyFrom s m args below meth c H locs 0 0 (MQ below (va_Qv Q (ka_B G) (ka_A G)) args s 0 0 (ka_A G)) (F0 m 10 ls []) := by
  obtain ⟨hx, hb, -, hml, hown, hts, -⟩ := id C0
  intro n
  induction n with
  | zero =>
    intro σ v2 hq
    rw [kw_X3_copyFrom_10] at hq
    exact hq.elim
  | succ n ih =>
    intro σ v2 hq H locs hP hS ls hl
    rw [kw_X3_copyFrom_10] at hq
    refine lv_iload_n hx hb dX3_copyFrom_10 rfl (lv_at hl 2 rfl) ?_
    refine lv_aload_n hx hb dX3_copyFrom_11 rfl (lv_at hl 0 rfl) ?_
    refine kg_X3_size C0 hK hP (kv_p (by decide) ho) kq_133 dX3_copyFrom_12 ?_
    refine lv_icmp_ge (tgt := 48) hx hb dX3_copyFrom_15 (by decide) (fun hc => ?_) (fun hc => ?_)
    · have hq := hq.1 hc
      exact kr_vret C0 hK hP hS hq dX3_copyFrom_48
    · have hq := hq.2 hc
      refine lv_aload_n hx hb dX3_copyFrom_18 rfl (lv_at hl 0 rfl) ?_
      refine kg_X3_parts C0 hK hP (kv_p (by decide) ho) kq_128 dX3_copyFrom_19 ?_
      refine lv_iload_n hx hb dX3_copyFrom_22 rfl (lv_at hl 2 rfl) ?_
      refine lv_aload_n hx hb dX3_copyFrom_23 rfl (lv_at hl 1 rfl) ?_
      refine kg_X3_parts C0 hK hP (kv_p (by decide) ho2) kq_128 dX3_copyFrom_24 ?_
      refine lv_iload_n hx hb dX3_copyFrom_27 rfl (lv_at hl 2 rfl) ?_
      obtain ⟨b3, hq⟩ := hq
      refine kr_lald C0 hK hP (kv_p (by decide) ho2) rfl b3 dX3_copyFrom_28 ?_
      obtain ⟨b4, hq⟩ := hq
      refine kr_last C0 hK hI hP hS (kv_p (by decide) ho) (fun _ => rfl) b4 dX3_copyFrom_29 (fun H locs hP hS => ?_)
      obtain ⟨σ5, eσ5⟩ : ∃ z : ka_S, z = ka_wL σ (3, o, 0) v2.toNatClampNeg (σ.2 (3, o2, 0) v2.toNatClampNeg) := ⟨_, rfl⟩
      rw [← eσ5] at hP
      have hq := hq σ5 eσ5
      refine lv_aload_n hx hb dX3_copyFrom_30 rfl (lv_at hl 0 rfl) ?_
      refine kg_X3_glosses C0 hK hP (kv_p (by decide) ho) kq_130 dX3_copyFrom_31 ?_
      refine lv_iload_n hx hb dX3_copyFrom_34 rfl (lv_at hl 2 rfl) ?_
      refine lv_aload_n hx hb dX3_copyFrom_35 rfl (lv_at hl 1 rfl) ?_
      refine kg_X3_glosses C0 hK hP (kv_p (by decide) ho2) kq_130 dX3_copyFrom_36 ?_
      refine lv_iload_n hx hb dX3_copyFrom_39 rfl (lv_at hl 2 rfl) ?_
      obtain ⟨b6, hq⟩ := hq
      refine kr_lald C0 hK hP (kv_p (by decide) ho2) rfl b6 dX3_copyFrom_40 ?_
      obtain ⟨b7, hq⟩ := hq
      refine kr_last C0 hK hI hP hS (kv_p (by decide) ho) (fun _ => rfl) b7 dX3_copyFrom_41 (fun H locs hP hS => ?_)
      obtain ⟨σ8, eσ8⟩ : ∃ z : ka_S, z = ka_wL σ5 (4, o, 0) v2.toNatClampNeg (σ5.2 (4, o2, 0) v2.toNatClampNeg) := ⟨_, rfl⟩
      rw [← eσ8] at hP
      have hq := hq σ8 eσ8
      obtain ⟨x9, ex9⟩ : ∃ y : Int32, y = v2 + (1 : Int32) := ⟨_, rfl⟩
      have hq := hq x9 ex9
      refine lv_iinc (v := x9) (lv' := [(2, .int x9), (0, .ref (ka_a G (2, o, 0))), (1, .ref (ka_a G (2, o2, 0)))]) hx hb dX3_copyFrom_42 hl (k := 2) rfl (by rw [ex9]; rfl) (by decide) rfl (fun ls hl => ?_)
      refine lv_goto (tgt := 10) hx hb dX3_copyFrom_45 (by decide) ?_
      exact ih σ8 x9 hq H locs hP hS ls (lv_sub hl [1, 2, 0] rfl)
set_option maxHeartbeats 4000000 in
set_option maxRecDepth 100000 in
theorem km_X3_copyFrom (l : Launch) {G : ka_G} (hI : ka_I G) {o : Nat} {o2 : Nat} (ho : o < 18) (ho2 : o2 < 18) {σ : ka_S} {Q : ka_S → Prop} (hq : kw_X3_copyFrom σ o o2 Q) : kc_v l yX3_copyFrom (kw_ yX3_copyFrom cX3_copyFrom 3 none) rm_X3_copyFrom G [.ref (ka_a G (2, o, 0)), .ref (ka_a G (2, o2, 0))] σ Q := by
  refine ka_of "GlossRows$Lexicon" rfl (by decide) (Nat.le_of_ble_eq_true rfl) ?_
  intro p e s m below meth c C0 hK H locs hP hS ls hl
  obtain ⟨hx, hb, -, hml, hown, hts, -⟩ := id C0
  have hl : lv_has ls 3 [(0, .ref (ka_a G (2, o, 0))), (1, .ref (ka_a G (2, o2, 0)))] := hl
  unfold kw_X3_copyFrom at hq
  refine lv_aload_n hx hb dX3_copyFrom_0 rfl (lv_at hl 0 rfl) ?_
  refine lv_aload_n hx hb dX3_copyFrom_1 rfl (lv_at hl 1 rfl) ?_
  refine kg_X3_size C0 hK hP (kv_p (by decide) ho2) kq_133 dX3_copyFrom_2 ?_
  refine kp_X3_size C0 hK hI hP hS (kv_p (by decide) ho) kq_133 dX3_copyFrom_5 (fun H locs hP hS => ?_)
  obtain ⟨σ1, eσ1⟩ : ∃ z : ka_S, z = ka_wI σ (2, o, 0) 2 (σ.1 (2, o2, 0) 2) := ⟨_, rfl⟩
  rw [← eσ1] at hP
  have hq := hq σ1 eσ1
  refine lv_iconst (v := 0) hx hb dX3_copyFrom_8 (by decide) ?_
  refine lv_istore_n (lv' := [(2, .int (0 : Int32)), (0, .ref (ka_a G (2, o, 0))), (1, .ref (ka_a G (2, o2, 0)))]) hx hb dX3_copyFrom_9 rfl hl (by decide) rfl (fun ls hl => ?_)
  obtain ⟨n2, hq⟩ := hq
  exact kb_X3_copyFrom_10 hI ho ho2 C0 hK n2 σ1 (0 : Int32) hq H locs hP hS ls (lv_sub hl [1, 2, 0] rfl)
/-! GlossRows$Lexicon.find(J)I -/
def rm_X3_find : Room := { frames := 0, cells := 0, slots := 0, locals := 0 }
def kw_X3_find_2 (o : Nat) (Q : Int32 → ka_S → Prop) : Nat → ka_S → Int64 → Int32 → Prop
  | 0, _, _, _ => False
  | n + 1, σ, v1, v3 => ((σ.1 (2, o, 0) 2) ≤ v3 → Q (-9 : Int32) σ) ∧
    (¬ (σ.1 (2, o, 0) 2) ≤ v3 → vp_in v3 16 ∧
      ((σ.2 (3, o, 0) v3.toNatClampNeg) = v1 → Q v3 σ) ∧
      (¬ (σ.2 (3, o, 0) v3.toNatClampNeg) = v1 → ∀ x3 : Int32, x3 = v3 + (1 : Int32) →
        (kw_X3_find_2 o Q n) σ v1 x3))
def kw_X3_find (σ : ka_S) (o : Nat) (v1 : Int64) (Q : Int32 → ka_S → Prop) : Prop := ∃ n1 : Nat, kw_X3_find_2 o Q n1 σ v1 (0 : Int32)
set_option maxHeartbeats 4000000 in
set_option maxRecDepth 100000 in
theorem kb_X3_find_2 {p : Program} {l : Launch} {e : Env} {s : State} {m : MethodId} {args : Array Value} {below : List Frame} {meth : Method} {c : Code} {G : ka_G} (hI : ka_I G) {o : Nat} (ho : o < 18) (C0 : ka_C p s m args meth c cX3_find 4 "GlossRows$Lexicon" (some .int)) (hK : ka_Kn G s) {Q : Int32 → ka_S → Prop} : ∀ (n : Nat) (σ : ka_S) (v1 : Int64) (v3 : Int32), kw_X3_find_2 o Q n σ v1 v3 → ∀ (H : Heap) (locs : List Loc), ka_P G σ H → va_S (ka_A G) s.heap H locs → ∀ ls : Array Slot, lv_has ls 4 [(0, .ref (ka_a G (2, o, 0))), (1, .long v1), (3, .int v3)] → W p l e rm_X3_find s m args below meth c H locs 0 0 (MQ below (va_Qi Q (ka_B G) (ka_A G)) args s 0 0 (ka_A G)) (F0 m 2 ls []) := by
  obtain ⟨hx, hb, -, hml, hown, hts, -⟩ := id C0
  intro n
  induction n with
  | zero =>
    intro σ v1 v3 hq
    rw [kw_X3_find_2] at hq
    exact hq.elim
  | succ n ih =>
    intro σ v1 v3 hq H locs hP hS ls hl
    rw [kw_X3_find_2] at hq
    refine lv_iload_n hx hb dX3_find_2 rfl (lv_at hl 2 rfl) ?_
    refine lv_aload_n hx hb dX3_find_3 rfl (lv_at hl 0 rfl) ?_
    refine kg_X3_size C0 hK hP (kv_p (by decide) ho) kq_133 dX3_find_4 ?_
    refine lv_icmp_ge (tgt := 29) hx hb dX3_find_7 (by decide) (fun hc => ?_) (fun hc => ?_)
    · have hq := hq.1 hc
      refine lv_bipush (v := -9) hx hb dX3_find_29 (by decide) ?_
      exact kr_iret C0 hK hP hS hq dX3_find_31
    · have hq := hq.2 hc
      refine lv_aload_n hx hb dX3_find_10 rfl (lv_at hl 0 rfl) ?_
      refine kg_X3_parts C0 hK hP (kv_p (by decide) ho) kq_128 dX3_find_11 ?_
      refine lv_iload_n hx hb dX3_find_14 rfl (lv_at hl 2 rfl) ?_
      obtain ⟨b2, hq⟩ := hq
      refine kr_lald C0 hK hP (kv_p (by decide) ho) rfl b2 dX3_find_15 ?_
      refine lv_lload_n hx hb dX3_find_16 rfl (lv_at hl 1 rfl) ?_
      refine kr_cne (tgt := 23) C0 dX3_find_17 dX3_find_18 (by decide) (fun hc => ?_) (fun hc => ?_)
      · have hq := hq.2 hc
        obtain ⟨x3, ex3⟩ : ∃ y : Int32, y = v3 + (1 : Int32) := ⟨_, rfl⟩
        have hq := hq x3 ex3
        refine lv_iinc (v := x3) (lv' := [(3, .int x3), (0, .ref (ka_a G (2, o, 0))), (1, .long v1)]) hx hb dX3_find_23 hl (k := 2) rfl (by rw [ex3]; rfl) (by decide) rfl (fun ls hl => ?_)
        refine lv_goto (tgt := 2) hx hb dX3_find_26 (by decide) ?_
        exact ih σ v1 x3 hq H locs hP hS ls (lv_sub hl [1, 2, 0] rfl)
      · have hq := hq.1 hc
        refine lv_iload_n hx hb dX3_find_21 rfl (lv_at hl 2 rfl) ?_
        exact kr_iret C0 hK hP hS hq dX3_find_22
set_option maxHeartbeats 4000000 in
set_option maxRecDepth 100000 in
theorem km_X3_find (l : Launch) {G : ka_G} (hI : ka_I G) {o : Nat} (ho : o < 18) {σ : ka_S} {v1 : Int64} {Q : Int32 → ka_S → Prop} (hq : kw_X3_find σ o v1 Q) : kc_i l yX3_find (kw_ yX3_find cX3_find 4 (some .int)) rm_X3_find G [.ref (ka_a G (2, o, 0)), .long v1] σ Q := by
  refine ka_of "GlossRows$Lexicon" rfl (by decide) (Nat.le_of_ble_eq_true rfl) ?_
  intro p e s m below meth c C0 hK H locs hP hS ls hl
  obtain ⟨hx, hb, -, hml, hown, hts, -⟩ := id C0
  have hl : lv_has ls 4 [(0, .ref (ka_a G (2, o, 0))), (1, .long v1)] := hl
  unfold kw_X3_find at hq
  refine lv_iconst (v := 0) hx hb dX3_find_0 (by decide) ?_
  refine lv_istore_n (lv' := [(3, .int (0 : Int32)), (0, .ref (ka_a G (2, o, 0))), (1, .long v1)]) hx hb dX3_find_1 rfl hl (by decide) rfl (fun ls hl => ?_)
  obtain ⟨n1, hq⟩ := hq
  exact kb_X3_find_2 hI ho C0 hK n1 σ v1 (0 : Int32) hq H locs hP hS ls (lv_sub hl [1, 2, 0] rfl)
/-! GlossRows$Lexicon.canTake(J)Z -/
def rm_X3_canTake : Room := { frames := 1, cells := 0, slots := 0, locals := 23 }
def kw_X3_canTake (σ : ka_S) (o : Nat) (v1 : Int64) (Q : Int32 → ka_S → Prop) : Prop := ((σ.1 (2, o, 0) 2) < (16 : Int32) → Q (1 : Int32) σ) ∧
  (¬ (σ.1 (2, o, 0) 2) < (16 : Int32) → kw_X3_find σ o v1 (fun r2 σ1 => 
    (r2 = (-9 : Int32) → Q (0 : Int32) σ1) ∧
    (¬ r2 = (-9 : Int32) → Q (1 : Int32) σ1)))
set_option maxHeartbeats 4000000 in
set_option maxRecDepth 100000 in
theorem km_X3_canTake (l : Launch) {G : ka_G} (hI : ka_I G) {o : Nat} (ho : o < 18) {σ : ka_S} {v1 : Int64} {Q : Int32 → ka_S → Prop} (hq : kw_X3_canTake σ o v1 Q) : kc_i l yX3_canTake (kw_ yX3_canTake cX3_canTake 3 (some .boolean)) rm_X3_canTake G [.ref (ka_a G (2, o, 0)), .long v1] σ Q := by
  refine ka_of "GlossRows$Lexicon" rfl (by decide) (Nat.le_of_ble_eq_true rfl) ?_
  intro p e s m below meth c C0 hK H locs hP hS ls hl
  obtain ⟨hx, hb, -, hml, hown, hts, -⟩ := id C0
  have hl : lv_has ls 3 [(0, .ref (ka_a G (2, o, 0))), (1, .long v1)] := hl
  unfold kw_X3_canTake at hq
  refine lv_aload_n hx hb dX3_canTake_0 rfl (lv_at hl 0 rfl) ?_
  refine kg_X3_size C0 hK hP (kv_p (by decide) ho) kq_133 dX3_canTake_1 ?_
  refine lv_bipush (v := 16) hx hb dX3_canTake_4 (by decide) ?_
  refine lv_icmp_lt (tgt := 19) hx hb dX3_canTake_6 (by decide) (fun hc => ?_) (fun hc => ?_)
  · have hq := hq.1 hc
    refine lv_iconst (v := 1) hx hb dX3_canTake_19 (by decide) ?_
    refine lv_goto (tgt := 24) hx hb dX3_canTake_20 (by decide) ?_
    exact kr_zret C0 hK hP hS rfl hq dX3_canTake_24
  · have hq := hq.2 hc
    refine lv_aload_n hx hb dX3_canTake_9 rfl (lv_at hl 0 rfl) ?_
    refine lv_lload_n hx hb dX3_canTake_10 rfl (lv_at hl 1 rfl) ?_
    refine kr_Vi (k := (2, o, 0)) (As := [.long v1]) (rest := []) C0 hK hP hS hl (km_X3_find l hI ho hq) kd_X3_find kq_776 (kv_p (by decide) ho) rfl rfl rfl ⟨rfl, rfl, Nat.le_of_ble_eq_true rfl, Nat.le_of_ble_eq_true rfl⟩ rfl (Nat.le_of_ble_eq_true rfl) dX3_canTake_11 ⟨Nat.zero_le _, Nat.zero_le _⟩ (fun r2 σ1 H locs hq hP hS => ?_)
    refine lv_bipush (v := -9) hx hb dX3_canTake_14 (by decide) ?_
    refine lv_icmp_eq (tgt := 23) hx hb dX3_canTake_16 (by decide) (fun hc => ?_) (fun hc => ?_)
    · have hq := hq.1 hc
      refine lv_iconst (v := 0) hx hb dX3_canTake_23 (by decide) ?_
      exact kr_zret C0 hK hP hS rfl hq dX3_canTake_24
    · have hq := hq.2 hc
      refine lv_iconst (v := 1) hx hb dX3_canTake_19 (by decide) ?_
      refine lv_goto (tgt := 24) hx hb dX3_canTake_20 (by decide) ?_
      exact kr_zret C0 hK hP hS rfl hq dX3_canTake_24
/-! GlossRows$Lexicon.makePlaceFor(J)I -/
def rm_X3_makePlaceFor : Room := { frames := 0, cells := 0, slots := 0, locals := 0 }
def kw_X3_makePlaceFor_68 (o : Nat) (Q : Int32 → ka_S → Prop) (σ : ka_S) (v3 : Int32) : Prop := ∀ σ11 : ka_S, σ11 = ka_wI σ (2, o, 0) 2 ((σ.1 (2, o, 0) 2) + (1 : Int32)) →
  Q v3 σ11
def kw_X3_makePlaceFor_17 (o : Nat) (Q : Int32 → ka_S → Prop) : Nat → ka_S → Int64 → Int32 → Prop
  | 0, _, _, _ => False
  | n + 1, σ, v1, v3 => (v3 ≤ (0 : Int32) → kw_X3_makePlaceFor_68 o Q σ v3) ∧
    (¬ v3 ≤ (0 : Int32) → vp_in (v3 - (1 : Int32)) 16 ∧
      ((σ.2 (3, o, 0) (v3 - (1 : Int32)).toNatClampNeg) ≤ v1 → kw_X3_makePlaceFor_68 o Q σ v3) ∧
      (¬ (σ.2 (3, o, 0) (v3 - (1 : Int32)).toNatClampNeg) ≤ v1 → vp_in (v3 - (1 : Int32)) 16 ∧
        vp_in v3 16 ∧
        ∀ σ6 : ka_S, σ6 = ka_wL σ (3, o, 0) v3.toNatClampNeg (σ.2 (3, o, 0) (v3 - (1 : Int32)).toNatClampNeg) →
        vp_in (v3 - (1 : Int32)) 16 ∧
        vp_in v3 16 ∧
        ∀ σ9 : ka_S, σ9 = ka_wL σ6 (4, o, 0) v3.toNatClampNeg (σ6.2 (4, o, 0) (v3 - (1 : Int32)).toNatClampNeg) →
        ∀ x10 : Int32, x10 = v3 + (-1 : Int32) →
        (kw_X3_makePlaceFor_17 o Q n) σ9 v1 x10))
def kw_X3_makePlaceFor (σ : ka_S) (o : Nat) (v1 : Int64) (Q : Int32 → ka_S → Prop) : Prop := ((σ.1 (2, o, 0) 2) < (16 : Int32) → ∀ x1 : Int32, x1 = (σ.1 (2, o, 0) 2) → 
    ∃ n2 : Nat, kw_X3_makePlaceFor_17 o Q n2 σ v1 x1) ∧
  (¬ (σ.1 (2, o, 0) 2) < (16 : Int32) → Q (-9 : Int32) σ)
set_option maxHeartbeats 4000000 in
set_option maxRecDepth 100000 in
theorem kb_X3_makePlaceFor_68 {p : Program} {l : Launch} {e : Env} {s : State} {m : MethodId} {args : Array Value} {below : List Frame} {meth : Method} {c : Code} {G : ka_G} (hI : ka_I G) {o : Nat} (ho : o < 18) (C0 : ka_C p s m args meth c cX3_makePlaceFor 4 "GlossRows$Lexicon" (some .int)) (hK : ka_Kn G s) {Q : Int32 → ka_S → Prop} : ∀ (σ : ka_S) (v3 : Int32), kw_X3_makePlaceFor_68 o Q σ v3 → ∀ (H : Heap) (locs : List Loc), ka_P G σ H → va_S (ka_A G) s.heap H locs → ∀ ls : Array Slot, lv_has ls 4 [(0, .ref (ka_a G (2, o, 0))), (3, .int v3)] → W p l e rm_X3_makePlaceFor s m args below meth c H locs 0 0 (MQ below (va_Qi Q (ka_B G) (ka_A G)) args s 0 0 (ka_A G)) (F0 m 68 ls []) := by
  obtain ⟨hx, hb, -, hml, hown, hts, -⟩ := id C0
  intro σ v3 hq H locs hP hS ls hl
  unfold kw_X3_makePlaceFor_68 at hq
  refine lv_aload_n hx hb dX3_makePlaceFor_68 rfl (lv_at hl 0 rfl) ?_
  refine lv_dup hx hb dX3_makePlaceFor_69 rfl ?_
  refine kg_X3_size C0 hK hP (kv_p (by decide) ho) kq_133 dX3_makePlaceFor_70 ?_
  refine lv_iconst (v := 1) hx hb dX3_makePlaceFor_73 (by decide) ?_
  refine lv_iadd hx hb dX3_makePlaceFor_74 ?_
  refine kp_X3_size C0 hK hI hP hS (kv_p (by decide) ho) kq_133 dX3_makePlaceFor_75 (fun H locs hP hS => ?_)
  obtain ⟨σ11, eσ11⟩ : ∃ z : ka_S, z = ka_wI σ (2, o, 0) 2 ((σ.1 (2, o, 0) 2) + (1 : Int32)) := ⟨_, rfl⟩
  rw [← eσ11] at hP
  have hq := hq σ11 eσ11
  refine lv_iload_n hx hb dX3_makePlaceFor_78 rfl (lv_at hl 1 rfl) ?_
  exact kr_iret C0 hK hP hS hq dX3_makePlaceFor_79
set_option maxHeartbeats 4000000 in
set_option maxRecDepth 100000 in
theorem kb_X3_makePlaceFor_17 {p : Program} {l : Launch} {e : Env} {s : State} {m : MethodId} {args : Array Value} {below : List Frame} {meth : Method} {c : Code} {G : ka_G} (hI : ka_I G) {o : Nat} (ho : o < 18) (C0 : ka_C p s m args meth c cX3_makePlaceFor 4 "GlossRows$Lexicon" (some .int)) (hK : ka_Kn G s) {Q : Int32 → ka_S → Prop} : ∀ (n : Nat) (σ : ka_S) (v1 : Int64) (v3 : Int32), kw_X3_makePlaceFor_17 o Q n σ v1 v3 → ∀ (H : Heap) (locs : List Loc), ka_P G σ H → va_S (ka_A G) s.heap H locs → ∀ ls : Array Slot, lv_has ls 4 [(0, .ref (ka_a G (2, o, 0))), (1, .long v1), (3, .int v3)] → W p l e rm_X3_makePlaceFor s m args below meth c H locs 0 0 (MQ below (va_Qi Q (ka_B G) (ka_A G)) args s 0 0 (ka_A G)) (F0 m 17 ls []) := by
  obtain ⟨hx, hb, -, hml, hown, hts, -⟩ := id C0
  intro n
  induction n with
  | zero =>
    intro σ v1 v3 hq
    rw [kw_X3_makePlaceFor_17] at hq
    exact hq.elim
  | succ n ih =>
    intro σ v1 v3 hq H locs hP hS ls hl
    rw [kw_X3_makePlaceFor_17] at hq
    refine lv_iload_n hx hb dX3_makePlaceFor_17 rfl (lv_at hl 2 rfl) ?_
    refine lv_if_le (tgt := 68) hx hb dX3_makePlaceFor_18 (by decide) (fun hc => ?_) (fun hc => ?_)
    · have hq := hq.1 hc
      exact kb_X3_makePlaceFor_68 hI ho C0 hK σ v3 hq H locs hP hS ls (lv_sub hl [0, 2] rfl)
    · have hq := hq.2 hc
      refine lv_aload_n hx hb dX3_makePlaceFor_21 rfl (lv_at hl 0 rfl) ?_
      refine kg_X3_parts C0 hK hP (kv_p (by decide) ho) kq_128 dX3_makePlaceFor_22 ?_
      refine lv_iload_n hx hb dX3_makePlaceFor_25 rfl (lv_at hl 2 rfl) ?_
      refine lv_iconst (v := 1) hx hb dX3_makePlaceFor_26 (by decide) ?_
      refine lv_isub hx hb dX3_makePlaceFor_27 ?_
      obtain ⟨b3, hq⟩ := hq
      refine kr_lald C0 hK hP (kv_p (by decide) ho) rfl b3 dX3_makePlaceFor_28 ?_
      refine lv_lload_n hx hb dX3_makePlaceFor_29 rfl (lv_at hl 1 rfl) ?_
      refine kr_cle (tgt := 68) C0 dX3_makePlaceFor_30 dX3_makePlaceFor_31 (by decide) (fun hc => ?_) (fun hc => ?_)
      · have hq := hq.1 hc
        exact kb_X3_makePlaceFor_68 hI ho C0 hK σ v3 hq H locs hP hS ls (lv_sub hl [0, 2] rfl)
      · have hq := hq.2 hc
        refine lv_aload_n hx hb dX3_makePlaceFor_34 rfl (lv_at hl 0 rfl) ?_
        refine kg_X3_parts C0 hK hP (kv_p (by decide) ho) kq_128 dX3_makePlaceFor_35 ?_
        refine lv_iload_n hx hb dX3_makePlaceFor_38 rfl (lv_at hl 2 rfl) ?_
        refine lv_aload_n hx hb dX3_makePlaceFor_39 rfl (lv_at hl 0 rfl) ?_
        refine kg_X3_parts C0 hK hP (kv_p (by decide) ho) kq_128 dX3_makePlaceFor_40 ?_
        refine lv_iload_n hx hb dX3_makePlaceFor_43 rfl (lv_at hl 2 rfl) ?_
        refine lv_iconst (v := 1) hx hb dX3_makePlaceFor_44 (by decide) ?_
        refine lv_isub hx hb dX3_makePlaceFor_45 ?_
        obtain ⟨b4, hq⟩ := hq
        refine kr_lald C0 hK hP (kv_p (by decide) ho) rfl b4 dX3_makePlaceFor_46 ?_
        obtain ⟨b5, hq⟩ := hq
        refine kr_last C0 hK hI hP hS (kv_p (by decide) ho) (fun _ => rfl) b5 dX3_makePlaceFor_47 (fun H locs hP hS => ?_)
        obtain ⟨σ6, eσ6⟩ : ∃ z : ka_S, z = ka_wL σ (3, o, 0) v3.toNatClampNeg (σ.2 (3, o, 0) (v3 - (1 : Int32)).toNatClampNeg) := ⟨_, rfl⟩
        rw [← eσ6] at hP
        have hq := hq σ6 eσ6
        refine lv_aload_n hx hb dX3_makePlaceFor_48 rfl (lv_at hl 0 rfl) ?_
        refine kg_X3_glosses C0 hK hP (kv_p (by decide) ho) kq_130 dX3_makePlaceFor_49 ?_
        refine lv_iload_n hx hb dX3_makePlaceFor_52 rfl (lv_at hl 2 rfl) ?_
        refine lv_aload_n hx hb dX3_makePlaceFor_53 rfl (lv_at hl 0 rfl) ?_
        refine kg_X3_glosses C0 hK hP (kv_p (by decide) ho) kq_130 dX3_makePlaceFor_54 ?_
        refine lv_iload_n hx hb dX3_makePlaceFor_57 rfl (lv_at hl 2 rfl) ?_
        refine lv_iconst (v := 1) hx hb dX3_makePlaceFor_58 (by decide) ?_
        refine lv_isub hx hb dX3_makePlaceFor_59 ?_
        obtain ⟨b7, hq⟩ := hq
        refine kr_lald C0 hK hP (kv_p (by decide) ho) rfl b7 dX3_makePlaceFor_60 ?_
        obtain ⟨b8, hq⟩ := hq
        refine kr_last C0 hK hI hP hS (kv_p (by decide) ho) (fun _ => rfl) b8 dX3_makePlaceFor_61 (fun H locs hP hS => ?_)
        obtain ⟨σ9, eσ9⟩ : ∃ z : ka_S, z = ka_wL σ6 (4, o, 0) v3.toNatClampNeg (σ6.2 (4, o, 0) (v3 - (1 : Int32)).toNatClampNeg) := ⟨_, rfl⟩
        rw [← eσ9] at hP
        have hq := hq σ9 eσ9
        obtain ⟨x10, ex10⟩ : ∃ y : Int32, y = v3 + (-1 : Int32) := ⟨_, rfl⟩
        have hq := hq x10 ex10
        refine lv_iinc (v := x10) (lv' := [(3, .int x10), (0, .ref (ka_a G (2, o, 0))), (1, .long v1)]) hx hb dX3_makePlaceFor_62 hl (k := 2) rfl (by rw [ex10]; rfl) (by decide) rfl (fun ls hl => ?_)
        refine lv_goto (tgt := 17) hx hb dX3_makePlaceFor_65 (by decide) ?_
        exact ih σ9 v1 x10 hq H locs hP hS ls (lv_sub hl [1, 2, 0] rfl)
set_option maxHeartbeats 4000000 in
set_option maxRecDepth 100000 in
theorem km_X3_makePlaceFor (l : Launch) {G : ka_G} (hI : ka_I G) {o : Nat} (ho : o < 18) {σ : ka_S} {v1 : Int64} {Q : Int32 → ka_S → Prop} (hq : kw_X3_makePlaceFor σ o v1 Q) : kc_i l yX3_makePlaceFor (kw_ yX3_makePlaceFor cX3_makePlaceFor 4 (some .int)) rm_X3_makePlaceFor G [.ref (ka_a G (2, o, 0)), .long v1] σ Q := by
  refine ka_of "GlossRows$Lexicon" rfl (by decide) (Nat.le_of_ble_eq_true rfl) ?_
  intro p e s m below meth c C0 hK H locs hP hS ls hl
  obtain ⟨hx, hb, -, hml, hown, hts, -⟩ := id C0
  have hl : lv_has ls 4 [(0, .ref (ka_a G (2, o, 0))), (1, .long v1)] := hl
  unfold kw_X3_makePlaceFor at hq
  refine lv_aload_n hx hb dX3_makePlaceFor_0 rfl (lv_at hl 0 rfl) ?_
  refine kg_X3_size C0 hK hP (kv_p (by decide) ho) kq_133 dX3_makePlaceFor_1 ?_
  refine lv_bipush (v := 16) hx hb dX3_makePlaceFor_4 (by decide) ?_
  refine lv_icmp_lt (tgt := 12) hx hb dX3_makePlaceFor_6 (by decide) (fun hc => ?_) (fun hc => ?_)
  · have hq := hq.1 hc
    refine lv_aload_n hx hb dX3_makePlaceFor_12 rfl (lv_at hl 0 rfl) ?_
    refine kg_X3_size C0 hK hP (kv_p (by decide) ho) kq_133 dX3_makePlaceFor_13 ?_
    refine lv_topi (fun x1 ex1 => ?_)
    have hq := hq x1 ex1
    refine lv_istore_n (lv' := [(3, .int x1), (0, .ref (ka_a G (2, o, 0))), (1, .long v1)]) hx hb dX3_makePlaceFor_16 rfl hl (by decide) rfl (fun ls hl => ?_)
    obtain ⟨n2, hq⟩ := hq
    exact kb_X3_makePlaceFor_17 hI ho C0 hK n2 σ v1 x1 hq H locs hP hS ls (lv_sub hl [1, 2, 0] rfl)
  · have hq := hq.2 hc
    refine lv_bipush (v := -9) hx hb dX3_makePlaceFor_9 (by decide) ?_
    exact kr_iret C0 hK hP hS hq dX3_makePlaceFor_11
/-! GlossRows$Lexicon.take(JJ)V -/
def rm_X3_take : Room := { frames := 1, cells := 0, slots := 0, locals := 23 }
def kw_X3_take_21 (o : Nat) (Q : ka_S → Prop) (σ : ka_S) (v1 : Int64) (v3 : Int64) (v5 : Int32) : Prop := (v5 = (-9 : Int32) → Q σ) ∧
  (¬ v5 = (-9 : Int32) → vp_in v5 16 ∧
    ∀ σ6 : ka_S, σ6 = ka_wL σ (3, o, 0) v5.toNatClampNeg v1 →
    vp_in v5 16 ∧
    ∀ σ8 : ka_S, σ8 = ka_wL σ6 (4, o, 0) v5.toNatClampNeg v3 →
    Q σ8)
def kw_X3_take (σ : ka_S) (o : Nat) (v1 : Int64) (v3 : Int64) (Q : ka_S → Prop) : Prop := kw_X3_find σ o v1 (fun r2 σ1 => 
  (r2 = (-9 : Int32) → kw_X3_makePlaceFor σ1 o v1 (fun r4 σ3 => 
    kw_X3_take_21 o Q σ3 v1 v3 r4)) ∧
  (¬ r2 = (-9 : Int32) → kw_X3_take_21 o Q σ1 v1 v3 r2))
set_option maxHeartbeats 4000000 in
set_option maxRecDepth 100000 in
theorem kb_X3_take_21 {p : Program} {l : Launch} {e : Env} {s : State} {m : MethodId} {args : Array Value} {below : List Frame} {meth : Method} {c : Code} {G : ka_G} (hI : ka_I G) {o : Nat} (ho : o < 18) (C0 : ka_C p s m args meth c cX3_take 6 "GlossRows$Lexicon" none) (hK : ka_Kn G s) {Q : ka_S → Prop} : ∀ (σ : ka_S) (v1 : Int64) (v3 : Int64) (v5 : Int32), kw_X3_take_21 o Q σ v1 v3 v5 → ∀ (H : Heap) (locs : List Loc), ka_P G σ H → va_S (ka_A G) s.heap H locs → ∀ ls : Array Slot, lv_has ls 6 [(0, .ref (ka_a G (2, o, 0))), (1, .long v1), (3, .long v3), (5, .int v5)] → W p l e rm_X3_take s m args below meth c H locs 0 0 (MQ below (va_Qv Q (ka_B G) (ka_A G)) args s 0 0 (ka_A G)) (F0 m 21 ls []) := by
  obtain ⟨hx, hb, -, hml, hown, hts, -⟩ := id C0
  intro σ v1 v3 v5 hq H locs hP hS ls hl
  unfold kw_X3_take_21 at hq
  refine lv_iload hx hb dX3_take_21 (lv_at hl 3 rfl) ?_
  refine lv_bipush (v := -9) hx hb dX3_take_23 (by decide) ?_
  refine lv_icmp_eq (tgt := 44) hx hb dX3_take_25 (by decide) (fun hc => ?_) (fun hc => ?_)
  · have hq := hq.1 hc
    exact kr_vret C0 hK hP hS hq dX3_take_44
  · have hq := hq.2 hc
    refine lv_aload_n hx hb dX3_take_28 rfl (lv_at hl 0 rfl) ?_
    refine kg_X3_parts C0 hK hP (kv_p (by decide) ho) kq_128 dX3_take_29 ?_
    refine lv_iload hx hb dX3_take_32 (lv_at hl 3 rfl) ?_
    refine lv_lload_n hx hb dX3_take_34 rfl (lv_at hl 1 rfl) ?_
    obtain ⟨b5, hq⟩ := hq
    refine kr_last C0 hK hI hP hS (kv_p (by decide) ho) (fun _ => rfl) b5 dX3_take_35 (fun H locs hP hS => ?_)
    obtain ⟨σ6, eσ6⟩ : ∃ z : ka_S, z = ka_wL σ (3, o, 0) v5.toNatClampNeg v1 := ⟨_, rfl⟩
    rw [← eσ6] at hP
    have hq := hq σ6 eσ6
    refine lv_aload_n hx hb dX3_take_36 rfl (lv_at hl 0 rfl) ?_
    refine kg_X3_glosses C0 hK hP (kv_p (by decide) ho) kq_130 dX3_take_37 ?_
    refine lv_iload hx hb dX3_take_40 (lv_at hl 3 rfl) ?_
    refine lv_lload_n hx hb dX3_take_42 rfl (lv_at hl 2 rfl) ?_
    obtain ⟨b7, hq⟩ := hq
    refine kr_last C0 hK hI hP hS (kv_p (by decide) ho) (fun _ => rfl) b7 dX3_take_43 (fun H locs hP hS => ?_)
    obtain ⟨σ8, eσ8⟩ : ∃ z : ka_S, z = ka_wL σ6 (4, o, 0) v5.toNatClampNeg v3 := ⟨_, rfl⟩
    rw [← eσ8] at hP
    have hq := hq σ8 eσ8
    exact kr_vret C0 hK hP hS hq dX3_take_44
set_option maxHeartbeats 4000000 in
set_option maxRecDepth 100000 in
theorem km_X3_take (l : Launch) {G : ka_G} (hI : ka_I G) {o : Nat} (ho : o < 18) {σ : ka_S} {v1 : Int64} {v3 : Int64} {Q : ka_S → Prop} (hq : kw_X3_take σ o v1 v3 Q) : kc_v l yX3_take (kw_ yX3_take cX3_take 6 none) rm_X3_take G [.ref (ka_a G (2, o, 0)), .long v1, .long v3] σ Q := by
  refine ka_of "GlossRows$Lexicon" rfl (by decide) (Nat.le_of_ble_eq_true rfl) ?_
  intro p e s m below meth c C0 hK H locs hP hS ls hl
  obtain ⟨hx, hb, -, hml, hown, hts, -⟩ := id C0
  have hl : lv_has ls 6 [(0, .ref (ka_a G (2, o, 0))), (1, .long v1), (3, .long v3)] := hl
  unfold kw_X3_take at hq
  refine lv_aload_n hx hb dX3_take_0 rfl (lv_at hl 0 rfl) ?_
  refine lv_lload_n hx hb dX3_take_1 rfl (lv_at hl 1 rfl) ?_
  refine kr_Vi (k := (2, o, 0)) (As := [.long v1]) (rest := []) C0 hK hP hS hl (km_X3_find l hI ho hq) kd_X3_find kq_776 (kv_p (by decide) ho) rfl rfl rfl ⟨rfl, rfl, Nat.le_of_ble_eq_true rfl, Nat.le_of_ble_eq_true rfl⟩ rfl (Nat.le_of_ble_eq_true rfl) dX3_take_2 ⟨Nat.zero_le _, Nat.zero_le _⟩ (fun r2 σ1 H locs hq hP hS => ?_)
  refine lv_istore (lv' := [(5, .int r2), (0, .ref (ka_a G (2, o, 0))), (1, .long v1), (3, .long v3)]) hx hb dX3_take_5 hl (by decide) rfl (fun ls hl => ?_)
  refine lv_iload hx hb dX3_take_7 (lv_at hl 0 rfl) ?_
  refine lv_bipush (v := -9) hx hb dX3_take_9 (by decide) ?_
  refine lv_icmp_ne (tgt := 21) hx hb dX3_take_11 (by decide) (fun hc => ?_) (fun hc => ?_)
  · have hq := hq.2 hc
    exact kb_X3_take_21 hI ho C0 hK σ1 v1 v3 r2 hq H locs hP hS ls (lv_sub hl [1, 2, 3, 0] rfl)
  · have hq := hq.1 hc
    refine lv_aload_n hx hb dX3_take_14 rfl (lv_at hl 1 rfl) ?_
    refine lv_lload_n hx hb dX3_take_15 rfl (lv_at hl 2 rfl) ?_
    refine kr_Vi (k := (2, o, 0)) (As := [.long v1]) (rest := []) C0 hK hP hS hl (km_X3_makePlaceFor l hI ho hq) kd_X3_makePlaceFor kq_786 (kv_p (by decide) ho) rfl rfl rfl ⟨rfl, rfl, Nat.le_of_ble_eq_true rfl, Nat.le_of_ble_eq_true rfl⟩ rfl (Nat.le_of_ble_eq_true rfl) dX3_take_16 ⟨Nat.zero_le _, Nat.zero_le _⟩ (fun r4 σ3 H locs hq hP hS => ?_)
    refine lv_istore (lv' := [(5, .int r4), (0, .ref (ka_a G (2, o, 0))), (1, .long v1), (3, .long v3)]) hx hb dX3_take_19 hl (by decide) rfl (fun ls hl => ?_)
    exact kb_X3_take_21 hI ho C0 hK σ3 v1 v3 r4 hq H locs hP hS ls (lv_sub hl [1, 2, 3, 0] rfl)
/-! GlossRows$Lexicon.drop(I)V -/
def rm_X3_drop : Room := { frames := 0, cells := 0, slots := 0, locals := 0 }
def kw_X3_drop_25 (o : Nat) (Q : ka_S → Prop) : Nat → ka_S → Int32 → Prop
  | 0, _, _ => False
  | n + 1, σ, v2 => ((σ.1 (2, o, 0) 2) ≤ v2 → Q σ) ∧
    (¬ (σ.1 (2, o, 0) 2) ≤ v2 → vp_in (v2 + (1 : Int32)) 16 ∧
      vp_in v2 16 ∧
      ∀ σ5 : ka_S, σ5 = ka_wL σ (3, o, 0) v2.toNatClampNeg (σ.2 (3, o, 0) (v2 + (1 : Int32)).toNatClampNeg) →
      vp_in (v2 + (1 : Int32)) 16 ∧
      vp_in v2 16 ∧
      ∀ σ8 : ka_S, σ8 = ka_wL σ5 (4, o, 0) v2.toNatClampNeg (σ5.2 (4, o, 0) (v2 + (1 : Int32)).toNatClampNeg) →
      ∀ x9 : Int32, x9 = v2 + (1 : Int32) →
      (kw_X3_drop_25 o Q n) σ8 x9)
def kw_X3_drop (σ : ka_S) (o : Nat) (v1 : Int32) (Q : ka_S → Prop) : Prop := (v1 < (0 : Int32) → Q σ) ∧
  (¬ v1 < (0 : Int32) → (v1 < (σ.1 (2, o, 0) 2) → ∀ σ1 : ka_S, σ1 = ka_wI σ (2, o, 0) 2 ((σ.1 (2, o, 0) 2) - (1 : Int32)) →
      ∃ n2 : Nat, kw_X3_drop_25 o Q n2 σ1 v1) ∧
    (¬ v1 < (σ.1 (2, o, 0) 2) → Q σ))
set_option maxHeartbeats 4000000 in
set_option maxRecDepth 100000 in
theorem kb_X3_drop_25 {p : Program} {l : Launch} {e : Env} {s : State} {m : MethodId} {args : Array Value} {below : List Frame} {meth : Method} {c : Code} {G : ka_G} (hI : ka_I G) {o : Nat} (ho : o < 18) (C0 : ka_C p s m args meth c cX3_drop 3 "GlossRows$Lexicon" none) (hK : ka_Kn G s) {Q : ka_S → Prop} : ∀ (n : Nat) (σ : ka_S) (v2 : Int32), kw_X3_drop_25 o Q n σ v2 → ∀ (H : Heap) (locs : List Loc), ka_P G σ H → va_S (ka_A G) s.heap H locs → ∀ ls : Array Slot, lv_has ls 3 [(0, .ref (ka_a G (2, o, 0))), (2, .int v2)] → W p l e rm_X3_drop s m args below meth c H locs 0 0 (MQ below (va_Qv Q (ka_B G) (ka_A G)) args s 0 0 (ka_A G)) (F0 m 25 ls []) := by
  obtain ⟨hx, hb, -, hml, hown, hts, -⟩ := id C0
  intro n
  induction n with
  | zero =>
    intro σ v2 hq
    rw [kw_X3_drop_25] at hq
    exact hq.elim
  | succ n ih =>
    intro σ v2 hq H locs hP hS ls hl
    rw [kw_X3_drop_25] at hq
    refine lv_iload_n hx hb dX3_drop_25 rfl (lv_at hl 1 rfl) ?_
    refine lv_aload_n hx hb dX3_drop_26 rfl (lv_at hl 0 rfl) ?_
    refine kg_X3_size C0 hK hP (kv_p (by decide) ho) kq_133 dX3_drop_27 ?_
    refine lv_icmp_ge (tgt := 67) hx hb dX3_drop_30 (by decide) (fun hc => ?_) (fun hc => ?_)
    · have hq := hq.1 hc
      exact kr_vret C0 hK hP hS hq dX3_drop_67
    · have hq := hq.2 hc
      refine lv_aload_n hx hb dX3_drop_33 rfl (lv_at hl 0 rfl) ?_
      refine kg_X3_parts C0 hK hP (kv_p (by decide) ho) kq_128 dX3_drop_34 ?_
      refine lv_iload_n hx hb dX3_drop_37 rfl (lv_at hl 1 rfl) ?_
      refine lv_aload_n hx hb dX3_drop_38 rfl (lv_at hl 0 rfl) ?_
      refine kg_X3_parts C0 hK hP (kv_p (by decide) ho) kq_128 dX3_drop_39 ?_
      refine lv_iload_n hx hb dX3_drop_42 rfl (lv_at hl 1 rfl) ?_
      refine lv_iconst (v := 1) hx hb dX3_drop_43 (by decide) ?_
      refine lv_iadd hx hb dX3_drop_44 ?_
      obtain ⟨b3, hq⟩ := hq
      refine kr_lald C0 hK hP (kv_p (by decide) ho) rfl b3 dX3_drop_45 ?_
      obtain ⟨b4, hq⟩ := hq
      refine kr_last C0 hK hI hP hS (kv_p (by decide) ho) (fun _ => rfl) b4 dX3_drop_46 (fun H locs hP hS => ?_)
      obtain ⟨σ5, eσ5⟩ : ∃ z : ka_S, z = ka_wL σ (3, o, 0) v2.toNatClampNeg (σ.2 (3, o, 0) (v2 + (1 : Int32)).toNatClampNeg) := ⟨_, rfl⟩
      rw [← eσ5] at hP
      have hq := hq σ5 eσ5
      refine lv_aload_n hx hb dX3_drop_47 rfl (lv_at hl 0 rfl) ?_
      refine kg_X3_glosses C0 hK hP (kv_p (by decide) ho) kq_130 dX3_drop_48 ?_
      refine lv_iload_n hx hb dX3_drop_51 rfl (lv_at hl 1 rfl) ?_
      refine lv_aload_n hx hb dX3_drop_52 rfl (lv_at hl 0 rfl) ?_
      refine kg_X3_glosses C0 hK hP (kv_p (by decide) ho) kq_130 dX3_drop_53 ?_
      refine lv_iload_n hx hb dX3_drop_56 rfl (lv_at hl 1 rfl) ?_
      refine lv_iconst (v := 1) hx hb dX3_drop_57 (by decide) ?_
      refine lv_iadd hx hb dX3_drop_58 ?_
      obtain ⟨b6, hq⟩ := hq
      refine kr_lald C0 hK hP (kv_p (by decide) ho) rfl b6 dX3_drop_59 ?_
      obtain ⟨b7, hq⟩ := hq
      refine kr_last C0 hK hI hP hS (kv_p (by decide) ho) (fun _ => rfl) b7 dX3_drop_60 (fun H locs hP hS => ?_)
      obtain ⟨σ8, eσ8⟩ : ∃ z : ka_S, z = ka_wL σ5 (4, o, 0) v2.toNatClampNeg (σ5.2 (4, o, 0) (v2 + (1 : Int32)).toNatClampNeg) := ⟨_, rfl⟩
      rw [← eσ8] at hP
      have hq := hq σ8 eσ8
      obtain ⟨x9, ex9⟩ : ∃ y : Int32, y = v2 + (1 : Int32) := ⟨_, rfl⟩
      have hq := hq x9 ex9
      refine lv_iinc (v := x9) (lv' := [(2, .int x9), (0, .ref (ka_a G (2, o, 0)))]) hx hb dX3_drop_61 hl (k := 1) rfl (by rw [ex9]; rfl) (by decide) rfl (fun ls hl => ?_)
      refine lv_goto (tgt := 25) hx hb dX3_drop_64 (by decide) ?_
      exact ih σ8 x9 hq H locs hP hS ls (lv_sub hl [1, 0] rfl)
set_option maxHeartbeats 4000000 in
set_option maxRecDepth 100000 in
theorem km_X3_drop (l : Launch) {G : ka_G} (hI : ka_I G) {o : Nat} (ho : o < 18) {σ : ka_S} {v1 : Int32} {Q : ka_S → Prop} (hq : kw_X3_drop σ o v1 Q) : kc_v l yX3_drop (kw_ yX3_drop cX3_drop 3 none) rm_X3_drop G [.ref (ka_a G (2, o, 0)), .int v1] σ Q := by
  refine ka_of "GlossRows$Lexicon" rfl (by decide) (Nat.le_of_ble_eq_true rfl) ?_
  intro p e s m below meth c C0 hK H locs hP hS ls hl
  obtain ⟨hx, hb, -, hml, hown, hts, -⟩ := id C0
  have hl : lv_has ls 3 [(0, .ref (ka_a G (2, o, 0))), (1, .int v1)] := hl
  unfold kw_X3_drop at hq
  refine lv_iload_n hx hb dX3_drop_0 rfl (lv_at hl 1 rfl) ?_
  refine lv_if_lt (tgt := 12) hx hb dX3_drop_1 (by decide) (fun hc => ?_) (fun hc => ?_)
  · have hq := hq.1 hc
    exact kr_vret C0 hK hP hS hq dX3_drop_12
  · have hq := hq.2 hc
    refine lv_iload_n hx hb dX3_drop_4 rfl (lv_at hl 1 rfl) ?_
    refine lv_aload_n hx hb dX3_drop_5 rfl (lv_at hl 0 rfl) ?_
    refine kg_X3_size C0 hK hP (kv_p (by decide) ho) kq_133 dX3_drop_6 ?_
    refine lv_icmp_lt (tgt := 13) hx hb dX3_drop_9 (by decide) (fun hc => ?_) (fun hc => ?_)
    · have hq := hq.1 hc
      refine lv_aload_n hx hb dX3_drop_13 rfl (lv_at hl 0 rfl) ?_
      refine lv_dup hx hb dX3_drop_14 rfl ?_
      refine kg_X3_size C0 hK hP (kv_p (by decide) ho) kq_133 dX3_drop_15 ?_
      refine lv_iconst (v := 1) hx hb dX3_drop_18 (by decide) ?_
      refine lv_isub hx hb dX3_drop_19 ?_
      refine kp_X3_size C0 hK hI hP hS (kv_p (by decide) ho) kq_133 dX3_drop_20 (fun H locs hP hS => ?_)
      obtain ⟨σ1, eσ1⟩ : ∃ z : ka_S, z = ka_wI σ (2, o, 0) 2 ((σ.1 (2, o, 0) 2) - (1 : Int32)) := ⟨_, rfl⟩
      rw [← eσ1] at hP
      have hq := hq σ1 eσ1
      refine lv_iload_n hx hb dX3_drop_23 rfl (lv_at hl 1 rfl) ?_
      refine lv_istore_n (lv' := [(2, .int v1), (0, .ref (ka_a G (2, o, 0))), (1, .int v1)]) hx hb dX3_drop_24 rfl hl (by decide) rfl (fun ls hl => ?_)
      obtain ⟨n2, hq⟩ := hq
      exact kb_X3_drop_25 hI ho C0 hK n2 σ1 v1 hq H locs hP hS ls (lv_sub hl [1, 0] rfl)
    · have hq := hq.2 hc
      exact kr_vret C0 hK hP hS hq dX3_drop_12
/-! GlossRows$Text.add(I)V -/
def rm_X6_add : Room := { frames := 0, cells := 0, slots := 0, locals := 0 }
def kw_X6_add (σ : ka_S) (v1 : Int32) (Q : ka_S → Prop) : Prop := ((60 : Int32) ≤ (σ.1 (10, 0, 0) 1) → Q σ) ∧
  (¬ (60 : Int32) ≤ (σ.1 (10, 0, 0) 1) → vp_in (σ.1 (10, 0, 0) 1) 60 ∧
    ∀ σ2 : ka_S, σ2 = ka_wI σ (11, 0, 0) (σ.1 (10, 0, 0) 1).toNatClampNeg v1 →
    ∀ σ3 : ka_S, σ3 = ka_wI σ2 (10, 0, 0) 1 ((σ2.1 (10, 0, 0) 1) + (1 : Int32)) →
    Q σ3)
set_option maxHeartbeats 4000000 in
set_option maxRecDepth 100000 in
theorem km_X6_add (l : Launch) {G : ka_G} (hI : ka_I G) {σ : ka_S} {v1 : Int32} {Q : ka_S → Prop} (hq : kw_X6_add σ v1 Q) : kc_v l yX6_add (kw_ yX6_add cX6_add 2 none) rm_X6_add G [.ref (ka_a G (10, 0, 0)), .int v1] σ Q := by
  refine ka_of "GlossRows$Text" rfl (by decide) (Nat.le_of_ble_eq_true rfl) ?_
  intro p e s m below meth c C0 hK H locs hP hS ls hl
  obtain ⟨hx, hb, -, hml, hown, hts, -⟩ := id C0
  have hl : lv_has ls 2 [(0, .ref (ka_a G (10, 0, 0))), (1, .int v1)] := hl
  unfold kw_X6_add at hq
  refine lv_aload_n hx hb dX6_add_0 rfl (lv_at hl 0 rfl) ?_
  refine kg_X6_length C0 hK hP (kv_s (by decide) (by decide)) kq_34 dX6_add_1 ?_
  refine lv_bipush (v := 60) hx hb dX6_add_4 (by decide) ?_
  refine lv_icmp_ge (tgt := 29) hx hb dX6_add_6 (by decide) (fun hc => ?_) (fun hc => ?_)
  · have hq := hq.1 hc
    exact kr_vret C0 hK hP hS hq dX6_add_29
  · have hq := hq.2 hc
    refine lv_aload_n hx hb dX6_add_9 rfl (lv_at hl 0 rfl) ?_
    refine kg_X6_codes C0 hK hP (kv_s (by decide) (by decide)) kq_31 dX6_add_10 ?_
    refine lv_aload_n hx hb dX6_add_13 rfl (lv_at hl 0 rfl) ?_
    refine kg_X6_length C0 hK hP (kv_s (by decide) (by decide)) kq_34 dX6_add_14 ?_
    refine lv_iload_n hx hb dX6_add_17 rfl (lv_at hl 1 rfl) ?_
    obtain ⟨b1, hq⟩ := hq
    refine kr_iast C0 hK hI hP hS (kv_s (by decide) (by decide)) (fun _ => rfl) b1 dX6_add_18 (fun H locs hP hS => ?_)
    obtain ⟨σ2, eσ2⟩ : ∃ z : ka_S, z = ka_wI σ (11, 0, 0) (σ.1 (10, 0, 0) 1).toNatClampNeg v1 := ⟨_, rfl⟩
    rw [← eσ2] at hP
    have hq := hq σ2 eσ2
    refine lv_aload_n hx hb dX6_add_19 rfl (lv_at hl 0 rfl) ?_
    refine lv_dup hx hb dX6_add_20 rfl ?_
    refine kg_X6_length C0 hK hP (kv_s (by decide) (by decide)) kq_34 dX6_add_21 ?_
    refine lv_iconst (v := 1) hx hb dX6_add_24 (by decide) ?_
    refine lv_iadd hx hb dX6_add_25 ?_
    refine kp_X6_length C0 hK hI hP hS (kv_s (by decide) (by decide)) kq_34 dX6_add_26 (fun H locs hP hS => ?_)
    obtain ⟨σ3, eσ3⟩ : ∃ z : ka_S, z = ka_wI σ2 (10, 0, 0) 1 ((σ2.1 (10, 0, 0) 1) + (1 : Int32)) := ⟨_, rfl⟩
    rw [← eσ3] at hP
    have hq := hq σ3 eσ3
    exact kr_vret C0 hK hP hS hq dX6_add_29
/-! GlossRows$Text.isFreeLine()Z -/
def rm_X6_isFreeLine : Room := { frames := 0, cells := 0, slots := 0, locals := 0 }
def kw_X6_isFreeLine_2 (Q : Int32 → ka_S → Prop) : Nat → ka_S → Int32 → Prop
  | 0, _, _ => False
  | n + 1, σ, v1 => ((σ.1 (10, 0, 0) 1) ≤ v1 → ((24 : Int32) < (σ.1 (10, 0, 0) 1) → Q (0 : Int32) σ) ∧
      (¬ (24 : Int32) < (σ.1 (10, 0, 0) 1) → Q (1 : Int32) σ)) ∧
    (¬ (σ.1 (10, 0, 0) 1) ≤ v1 → vp_in v1 60 ∧
      ((σ.1 (11, 0, 0) v1.toNatClampNeg) < (32 : Int32) → Q (0 : Int32) σ) ∧
      (¬ (σ.1 (11, 0, 0) v1.toNatClampNeg) < (32 : Int32) → vp_in v1 60 ∧
        ((σ.1 (11, 0, 0) v1.toNatClampNeg) ≤ (126 : Int32) → ∀ x4 : Int32, x4 = v1 + (1 : Int32) →
          (kw_X6_isFreeLine_2 Q n) σ x4) ∧
        (¬ (σ.1 (11, 0, 0) v1.toNatClampNeg) ≤ (126 : Int32) → Q (0 : Int32) σ)))
def kw_X6_isFreeLine (σ : ka_S) (Q : Int32 → ka_S → Prop) : Prop := ∃ n1 : Nat, kw_X6_isFreeLine_2 Q n1 σ (0 : Int32)
set_option maxHeartbeats 4000000 in
set_option maxRecDepth 100000 in
theorem kb_X6_isFreeLine_2 {p : Program} {l : Launch} {e : Env} {s : State} {m : MethodId} {args : Array Value} {below : List Frame} {meth : Method} {c : Code} {G : ka_G} (hI : ka_I G) (C0 : ka_C p s m args meth c cX6_isFreeLine 2 "GlossRows$Text" (some .boolean)) (hK : ka_Kn G s) {Q : Int32 → ka_S → Prop} : ∀ (n : Nat) (σ : ka_S) (v1 : Int32), kw_X6_isFreeLine_2 Q n σ v1 → ∀ (H : Heap) (locs : List Loc), ka_P G σ H → va_S (ka_A G) s.heap H locs → ∀ ls : Array Slot, lv_has ls 2 [(0, .ref (ka_a G (10, 0, 0))), (1, .int v1)] → W p l e rm_X6_isFreeLine s m args below meth c H locs 0 0 (MQ below (va_Qi Q (ka_B G) (ka_A G)) args s 0 0 (ka_A G)) (F0 m 2 ls []) := by
  obtain ⟨hx, hb, -, hml, hown, hts, -⟩ := id C0
  intro n
  induction n with
  | zero =>
    intro σ v1 hq
    rw [kw_X6_isFreeLine_2] at hq
    exact hq.elim
  | succ n ih =>
    intro σ v1 hq H locs hP hS ls hl
    rw [kw_X6_isFreeLine_2] at hq
    refine lv_iload_n hx hb dX6_isFreeLine_2 rfl (lv_at hl 1 rfl) ?_
    refine lv_aload_n hx hb dX6_isFreeLine_3 rfl (lv_at hl 0 rfl) ?_
    refine kg_X6_length C0 hK hP (kv_s (by decide) (by decide)) kq_34 dX6_isFreeLine_4 ?_
    refine lv_icmp_ge (tgt := 40) hx hb dX6_isFreeLine_7 (by decide) (fun hc => ?_) (fun hc => ?_)
    · have hq := hq.1 hc
      refine lv_aload_n hx hb dX6_isFreeLine_40 rfl (lv_at hl 0 rfl) ?_
      refine kg_X6_length C0 hK hP (kv_s (by decide) (by decide)) kq_34 dX6_isFreeLine_41 ?_
      refine lv_bipush (v := 24) hx hb dX6_isFreeLine_44 (by decide) ?_
      refine lv_icmp_gt (tgt := 53) hx hb dX6_isFreeLine_46 (by decide) (fun hc => ?_) (fun hc => ?_)
      · have hq := hq.1 hc
        refine lv_iconst (v := 0) hx hb dX6_isFreeLine_53 (by decide) ?_
        exact kr_zret C0 hK hP hS rfl hq dX6_isFreeLine_54
      · have hq := hq.2 hc
        refine lv_iconst (v := 1) hx hb dX6_isFreeLine_49 (by decide) ?_
        refine lv_goto (tgt := 54) hx hb dX6_isFreeLine_50 (by decide) ?_
        exact kr_zret C0 hK hP hS rfl hq dX6_isFreeLine_54
    · have hq := hq.2 hc
      refine lv_aload_n hx hb dX6_isFreeLine_10 rfl (lv_at hl 0 rfl) ?_
      refine kg_X6_codes C0 hK hP (kv_s (by decide) (by decide)) kq_31 dX6_isFreeLine_11 ?_
      refine lv_iload_n hx hb dX6_isFreeLine_14 rfl (lv_at hl 1 rfl) ?_
      obtain ⟨b2, hq⟩ := hq
      refine kr_iald C0 hK hP (kv_s (by decide) (by decide)) rfl b2 dX6_isFreeLine_15 ?_
      refine lv_bipush (v := 32) hx hb dX6_isFreeLine_16 (by decide) ?_
      refine lv_icmp_lt (tgt := 32) hx hb dX6_isFreeLine_18 (by decide) (fun hc => ?_) (fun hc => ?_)
      · have hq := hq.1 hc
        refine lv_iconst (v := 0) hx hb dX6_isFreeLine_32 (by decide) ?_
        exact kr_zret C0 hK hP hS rfl hq dX6_isFreeLine_33
      · have hq := hq.2 hc
        refine lv_aload_n hx hb dX6_isFreeLine_21 rfl (lv_at hl 0 rfl) ?_
        refine kg_X6_codes C0 hK hP (kv_s (by decide) (by decide)) kq_31 dX6_isFreeLine_22 ?_
        refine lv_iload_n hx hb dX6_isFreeLine_25 rfl (lv_at hl 1 rfl) ?_
        obtain ⟨b3, hq⟩ := hq
        refine kr_iald C0 hK hP (kv_s (by decide) (by decide)) rfl b3 dX6_isFreeLine_26 ?_
        refine lv_bipush (v := 126) hx hb dX6_isFreeLine_27 (by decide) ?_
        refine lv_icmp_le (tgt := 34) hx hb dX6_isFreeLine_29 (by decide) (fun hc => ?_) (fun hc => ?_)
        · have hq := hq.1 hc
          obtain ⟨x4, ex4⟩ : ∃ y : Int32, y = v1 + (1 : Int32) := ⟨_, rfl⟩
          have hq := hq x4 ex4
          refine lv_iinc (v := x4) (lv' := [(1, .int x4), (0, .ref (ka_a G (10, 0, 0)))]) hx hb dX6_isFreeLine_34 hl (k := 1) rfl (by rw [ex4]; rfl) (by decide) rfl (fun ls hl => ?_)
          refine lv_goto (tgt := 2) hx hb dX6_isFreeLine_37 (by decide) ?_
          exact ih σ x4 hq H locs hP hS ls (lv_sub hl [1, 0] rfl)
        · have hq := hq.2 hc
          refine lv_iconst (v := 0) hx hb dX6_isFreeLine_32 (by decide) ?_
          exact kr_zret C0 hK hP hS rfl hq dX6_isFreeLine_33
set_option maxHeartbeats 4000000 in
set_option maxRecDepth 100000 in
theorem km_X6_isFreeLine (l : Launch) {G : ka_G} (hI : ka_I G) {σ : ka_S} {Q : Int32 → ka_S → Prop} (hq : kw_X6_isFreeLine σ Q) : kc_i l yX6_isFreeLine (kw_ yX6_isFreeLine cX6_isFreeLine 2 (some .boolean)) rm_X6_isFreeLine G [.ref (ka_a G (10, 0, 0))] σ Q := by
  refine ka_of "GlossRows$Text" rfl (by decide) (Nat.le_of_ble_eq_true rfl) ?_
  intro p e s m below meth c C0 hK H locs hP hS ls hl
  obtain ⟨hx, hb, -, hml, hown, hts, -⟩ := id C0
  have hl : lv_has ls 2 [(0, .ref (ka_a G (10, 0, 0)))] := hl
  unfold kw_X6_isFreeLine at hq
  refine lv_iconst (v := 0) hx hb dX6_isFreeLine_0 (by decide) ?_
  refine lv_istore_n (lv' := [(1, .int (0 : Int32)), (0, .ref (ka_a G (10, 0, 0)))]) hx hb dX6_isFreeLine_1 rfl hl (by decide) rfl (fun ls hl => ?_)
  obtain ⟨n1, hq⟩ := hq
  exact kb_X6_isFreeLine_2 hI C0 hK n1 σ (0 : Int32) hq H locs hP hS ls (lv_sub hl [1, 0] rfl)
/-! GlossRows$Text.isGloss()Z -/
def rm_X6_isGloss : Room := { frames := 2, cells := 0, slots := 0, locals := 40 }
def kw_X6_isGloss_2 (Q : Int32 → ka_S → Prop) : Nat → ka_S → Int32 → Prop
  | 0, _, _ => False
  | n + 1, σ, v1 => ((σ.1 (10, 0, 0) 1) ≤ v1 → ((8 : Int32) < (σ.1 (10, 0, 0) 1) → Q (0 : Int32) σ) ∧
      (¬ (8 : Int32) < (σ.1 (10, 0, 0) 1) → Q (1 : Int32) σ)) ∧
    (¬ (σ.1 (10, 0, 0) 1) ≤ v1 → vp_in v1 60 ∧
      kw_X2_isGlossLetter σ (σ.1 (11, 0, 0) v1.toNatClampNeg) (fun r4 σ3 => 
      (r4 = (0 : Int32) → Q (0 : Int32) σ3) ∧
      (¬ r4 = (0 : Int32) → ∀ x5 : Int32, x5 = v1 + (1 : Int32) →
        (kw_X6_isGloss_2 Q n) σ3 x5)))
def kw_X6_isGloss (σ : ka_S) (Q : Int32 → ka_S → Prop) : Prop := ∃ n1 : Nat, kw_X6_isGloss_2 Q n1 σ (0 : Int32)
set_option maxHeartbeats 4000000 in
set_option maxRecDepth 100000 in
theorem kb_X6_isGloss_2 {p : Program} {l : Launch} {e : Env} {s : State} {m : MethodId} {args : Array Value} {below : List Frame} {meth : Method} {c : Code} {G : ka_G} (hI : ka_I G) (C0 : ka_C p s m args meth c cX6_isGloss 2 "GlossRows$Text" (some .boolean)) (hK : ka_Kn G s) {Q : Int32 → ka_S → Prop} : ∀ (n : Nat) (σ : ka_S) (v1 : Int32), kw_X6_isGloss_2 Q n σ v1 → ∀ (H : Heap) (locs : List Loc), ka_P G σ H → va_S (ka_A G) s.heap H locs → ∀ ls : Array Slot, lv_has ls 2 [(0, .ref (ka_a G (10, 0, 0))), (1, .int v1)] → W p l e rm_X6_isGloss s m args below meth c H locs 0 0 (MQ below (va_Qi Q (ka_B G) (ka_A G)) args s 0 0 (ka_A G)) (F0 m 2 ls []) := by
  obtain ⟨hx, hb, -, hml, hown, hts, -⟩ := id C0
  intro n
  induction n with
  | zero =>
    intro σ v1 hq
    rw [kw_X6_isGloss_2] at hq
    exact hq.elim
  | succ n ih =>
    intro σ v1 hq H locs hP hS ls hl
    rw [kw_X6_isGloss_2] at hq
    refine lv_iload_n hx hb dX6_isGloss_2 rfl (lv_at hl 1 rfl) ?_
    refine lv_aload_n hx hb dX6_isGloss_3 rfl (lv_at hl 0 rfl) ?_
    refine kg_X6_length C0 hK hP (kv_s (by decide) (by decide)) kq_34 dX6_isGloss_4 ?_
    refine lv_icmp_ge (tgt := 30) hx hb dX6_isGloss_7 (by decide) (fun hc => ?_) (fun hc => ?_)
    · have hq := hq.1 hc
      refine lv_aload_n hx hb dX6_isGloss_30 rfl (lv_at hl 0 rfl) ?_
      refine kg_X6_length C0 hK hP (kv_s (by decide) (by decide)) kq_34 dX6_isGloss_31 ?_
      refine lv_bipush (v := 8) hx hb dX6_isGloss_34 (by decide) ?_
      refine lv_icmp_gt (tgt := 43) hx hb dX6_isGloss_36 (by decide) (fun hc => ?_) (fun hc => ?_)
      · have hq := hq.1 hc
        refine lv_iconst (v := 0) hx hb dX6_isGloss_43 (by decide) ?_
        exact kr_zret C0 hK hP hS rfl hq dX6_isGloss_44
      · have hq := hq.2 hc
        refine lv_iconst (v := 1) hx hb dX6_isGloss_39 (by decide) ?_
        refine lv_goto (tgt := 44) hx hb dX6_isGloss_40 (by decide) ?_
        exact kr_zret C0 hK hP hS rfl hq dX6_isGloss_44
    · have hq := hq.2 hc
      refine lv_aload_n hx hb dX6_isGloss_10 rfl (lv_at hl 0 rfl) ?_
      refine kg_X6_codes C0 hK hP (kv_s (by decide) (by decide)) kq_31 dX6_isGloss_11 ?_
      refine lv_iload_n hx hb dX6_isGloss_14 rfl (lv_at hl 1 rfl) ?_
      obtain ⟨b2, hq⟩ := hq
      refine kr_iald C0 hK hP (kv_s (by decide) (by decide)) rfl b2 dX6_isGloss_15 ?_
      refine kr_Si (As := [.int (σ.1 (11, 0, 0) v1.toNatClampNeg)]) (rest := []) C0 hK hP hS hl (km_X2_isGlossLetter l hI hq) kd_X2_isGlossLetter kq_916 ⟨rfl, rfl, Nat.le_of_ble_eq_true rfl, Nat.le_of_ble_eq_true rfl⟩ rfl (Nat.le_of_ble_eq_true rfl) dX6_isGloss_16 ⟨Nat.zero_le _, Nat.zero_le _⟩ (fun r4 σ3 H locs hq hP hS => ?_)
      refine lv_if_ne (tgt := 24) hx hb dX6_isGloss_19 (by decide) (fun hc => ?_) (fun hc => ?_)
      · have hq := hq.2 hc
        obtain ⟨x5, ex5⟩ : ∃ y : Int32, y = v1 + (1 : Int32) := ⟨_, rfl⟩
        have hq := hq x5 ex5
        refine lv_iinc (v := x5) (lv' := [(1, .int x5), (0, .ref (ka_a G (10, 0, 0)))]) hx hb dX6_isGloss_24 hl (k := 1) rfl (by rw [ex5]; rfl) (by decide) rfl (fun ls hl => ?_)
        refine lv_goto (tgt := 2) hx hb dX6_isGloss_27 (by decide) ?_
        exact ih σ3 x5 hq H locs hP hS ls (lv_sub hl [1, 0] rfl)
      · have hq := hq.1 hc
        refine lv_iconst (v := 0) hx hb dX6_isGloss_22 (by decide) ?_
        exact kr_zret C0 hK hP hS rfl hq dX6_isGloss_23
set_option maxHeartbeats 4000000 in
set_option maxRecDepth 100000 in
theorem km_X6_isGloss (l : Launch) {G : ka_G} (hI : ka_I G) {σ : ka_S} {Q : Int32 → ka_S → Prop} (hq : kw_X6_isGloss σ Q) : kc_i l yX6_isGloss (kw_ yX6_isGloss cX6_isGloss 2 (some .boolean)) rm_X6_isGloss G [.ref (ka_a G (10, 0, 0))] σ Q := by
  refine ka_of "GlossRows$Text" rfl (by decide) (Nat.le_of_ble_eq_true rfl) ?_
  intro p e s m below meth c C0 hK H locs hP hS ls hl
  obtain ⟨hx, hb, -, hml, hown, hts, -⟩ := id C0
  have hl : lv_has ls 2 [(0, .ref (ka_a G (10, 0, 0)))] := hl
  unfold kw_X6_isGloss at hq
  refine lv_iconst (v := 0) hx hb dX6_isGloss_0 (by decide) ?_
  refine lv_istore_n (lv' := [(1, .int (0 : Int32)), (0, .ref (ka_a G (10, 0, 0)))]) hx hb dX6_isGloss_1 rfl hl (by decide) rfl (fun ls hl => ?_)
  obtain ⟨n1, hq⟩ := hq
  exact kb_X6_isGloss_2 hI C0 hK n1 σ (0 : Int32) hq H locs hP hS ls (lv_sub hl [1, 0] rfl)
/-! GlossRows$Text.letters()J -/
def rm_X6_letters : Room := { frames := 2, cells := 0, slots := 0, locals := 44 }
def kw_X6_letters_4 (Q : Int64 → ka_S → Prop) : Nat → ka_S → Int64 → Int32 → Prop
  | 0, _, _, _ => False
  | n + 1, σ, v1, v3 => ((σ.1 (10, 0, 0) 1) ≤ v3 → Q v1 σ) ∧
    (¬ (σ.1 (10, 0, 0) 1) ≤ v3 → vp_in v3 60 ∧
      kw_X2_with σ v1 (σ.1 (11, 0, 0) v3.toNatClampNeg) (fun r4 σ3 => 
      ∀ x5 : Int32, x5 = v3 + (1 : Int32) →
      (kw_X6_letters_4 Q n) σ3 r4 x5))
def kw_X6_letters (σ : ka_S) (Q : Int64 → ka_S → Prop) : Prop := ∃ n1 : Nat, kw_X6_letters_4 Q n1 σ (0 : Int64) (0 : Int32)
set_option maxHeartbeats 4000000 in
set_option maxRecDepth 100000 in
theorem kb_X6_letters_4 {p : Program} {l : Launch} {e : Env} {s : State} {m : MethodId} {args : Array Value} {below : List Frame} {meth : Method} {c : Code} {G : ka_G} (hI : ka_I G) (C0 : ka_C p s m args meth c cX6_letters 4 "GlossRows$Text" (some .long)) (hK : ka_Kn G s) {Q : Int64 → ka_S → Prop} : ∀ (n : Nat) (σ : ka_S) (v1 : Int64) (v3 : Int32), kw_X6_letters_4 Q n σ v1 v3 → ∀ (H : Heap) (locs : List Loc), ka_P G σ H → va_S (ka_A G) s.heap H locs → ∀ ls : Array Slot, lv_has ls 4 [(0, .ref (ka_a G (10, 0, 0))), (1, .long v1), (3, .int v3)] → W p l e rm_X6_letters s m args below meth c H locs 0 0 (MQ below (va_Ql Q (ka_B G) (ka_A G)) args s 0 0 (ka_A G)) (F0 m 4 ls []) := by
  obtain ⟨hx, hb, -, hml, hown, hts, -⟩ := id C0
  intro n
  induction n with
  | zero =>
    intro σ v1 v3 hq
    rw [kw_X6_letters_4] at hq
    exact hq.elim
  | succ n ih =>
    intro σ v1 v3 hq H locs hP hS ls hl
    rw [kw_X6_letters_4] at hq
    refine lv_iload_n hx hb dX6_letters_4 rfl (lv_at hl 2 rfl) ?_
    refine lv_aload_n hx hb dX6_letters_5 rfl (lv_at hl 0 rfl) ?_
    refine kg_X6_length C0 hK hP (kv_s (by decide) (by decide)) kq_34 dX6_letters_6 ?_
    refine lv_icmp_ge (tgt := 29) hx hb dX6_letters_9 (by decide) (fun hc => ?_) (fun hc => ?_)
    · have hq := hq.1 hc
      refine lv_lload_n hx hb dX6_letters_29 rfl (lv_at hl 1 rfl) ?_
      exact kr_lret C0 hK hP hS hq dX6_letters_30
    · have hq := hq.2 hc
      refine lv_lload_n hx hb dX6_letters_12 rfl (lv_at hl 1 rfl) ?_
      refine lv_aload_n hx hb dX6_letters_13 rfl (lv_at hl 0 rfl) ?_
      refine kg_X6_codes C0 hK hP (kv_s (by decide) (by decide)) kq_31 dX6_letters_14 ?_
      refine lv_iload_n hx hb dX6_letters_17 rfl (lv_at hl 2 rfl) ?_
      obtain ⟨b2, hq⟩ := hq
      refine kr_iald C0 hK hP (kv_s (by decide) (by decide)) rfl b2 dX6_letters_18 ?_
      refine kr_Sl (As := [.long v1, .int (σ.1 (11, 0, 0) v3.toNatClampNeg)]) (rest := []) C0 hK hP hS hl (km_X2_with l hI hq) kd_X2_with kq_922 ⟨rfl, rfl, Nat.le_of_ble_eq_true rfl, Nat.le_of_ble_eq_true rfl⟩ rfl (Nat.le_of_ble_eq_true rfl) dX6_letters_19 ⟨Nat.zero_le _, Nat.zero_le _⟩ (fun r4 σ3 H locs hq hP hS => ?_)
      refine lv_lstore_n (lv' := [(1, .long r4), (0, .ref (ka_a G (10, 0, 0))), (3, .int v3)]) hx hb dX6_letters_22 rfl hl (by decide) rfl (fun ls hl => ?_)
      obtain ⟨x5, ex5⟩ : ∃ y : Int32, y = v3 + (1 : Int32) := ⟨_, rfl⟩
      have hq := hq x5 ex5
      refine lv_iinc (v := x5) (lv' := [(3, .int x5), (1, .long r4), (0, .ref (ka_a G (10, 0, 0)))]) hx hb dX6_letters_23 hl (k := 2) rfl (by rw [ex5]; rfl) (by decide) rfl (fun ls hl => ?_)
      refine lv_goto (tgt := 4) hx hb dX6_letters_26 (by decide) ?_
      exact ih σ3 r4 x5 hq H locs hP hS ls (lv_sub hl [2, 1, 0] rfl)
set_option maxHeartbeats 4000000 in
set_option maxRecDepth 100000 in
theorem km_X6_letters (l : Launch) {G : ka_G} (hI : ka_I G) {σ : ka_S} {Q : Int64 → ka_S → Prop} (hq : kw_X6_letters σ Q) : kc_l l yX6_letters (kw_ yX6_letters cX6_letters 4 (some .long)) rm_X6_letters G [.ref (ka_a G (10, 0, 0))] σ Q := by
  refine ka_of "GlossRows$Text" rfl (by decide) (Nat.le_of_ble_eq_true rfl) ?_
  intro p e s m below meth c C0 hK H locs hP hS ls hl
  obtain ⟨hx, hb, -, hml, hown, hts, -⟩ := id C0
  have hl : lv_has ls 4 [(0, .ref (ka_a G (10, 0, 0)))] := hl
  unfold kw_X6_letters at hq
  refine lv_lconst (v := 0) hx hb dX6_letters_0 (by decide) ?_
  refine lv_lstore_n (lv' := [(1, .long (0 : Int64)), (0, .ref (ka_a G (10, 0, 0)))]) hx hb dX6_letters_1 rfl hl (by decide) rfl (fun ls hl => ?_)
  refine lv_iconst (v := 0) hx hb dX6_letters_2 (by decide) ?_
  refine lv_istore_n (lv' := [(3, .int (0 : Int32)), (1, .long (0 : Int64)), (0, .ref (ka_a G (10, 0, 0)))]) hx hb dX6_letters_3 rfl hl (by decide) rfl (fun ls hl => ?_)
  obtain ⟨n1, hq⟩ := hq
  exact kb_X6_letters_4 hI C0 hK n1 σ (0 : Int64) (0 : Int32) hq H locs hP hS ls (lv_sub hl [2, 1, 0] rfl)
/-! GlossRows$Word.reset()V -/
def rm_X7_reset : Room := { frames := 0, cells := 0, slots := 0, locals := 0 }
def kw_X7_reset (σ : ka_S) (o : Nat) (i : Nat) (Q : ka_S → Prop) : Prop := ∀ σ1 : ka_S, σ1 = ka_wI σ (5, o, i) 4 (0 : Int32) →
  ∀ σ2 : ka_S, σ2 = ka_wI σ1 (5, o, i) 5 (0 : Int32) →
  ∀ σ3 : ka_S, σ3 = ka_wI σ2 (5, o, i) 6 (0 : Int32) →
  Q σ3
set_option maxHeartbeats 4000000 in
set_option maxRecDepth 100000 in
theorem km_X7_reset (l : Launch) {G : ka_G} (hI : ka_I G) {o : Nat} {i : Nat} (ho : o < 19) (hi : i < 12) {σ : ka_S} {Q : ka_S → Prop} (hq : kw_X7_reset σ o i Q) : kc_v l yX7_reset (kw_ yX7_reset cX7_reset 1 none) rm_X7_reset G [.ref (ka_a G (5, o, i))] σ Q := by
  refine ka_of "GlossRows$Word" rfl (by decide) (Nat.le_of_ble_eq_true rfl) ?_
  intro p e s m below meth c C0 hK H locs hP hS ls hl
  obtain ⟨hx, hb, -, hml, hown, hts, -⟩ := id C0
  have hl : lv_has ls 1 [(0, .ref (ka_a G (5, o, i)))] := hl
  unfold kw_X7_reset at hq
  refine lv_aload_n hx hb dX7_reset_0 rfl (lv_at hl 0 rfl) ?_
  refine lv_iconst (v := 0) hx hb dX7_reset_1 (by decide) ?_
  refine kp_X7_size C0 hK hI hP hS (kv_w (by decide) (by decide) ho hi) kq_69 dX7_reset_2 (fun H locs hP hS => ?_)
  obtain ⟨σ1, eσ1⟩ : ∃ z : ka_S, z = ka_wI σ (5, o, i) 4 (0 : Int32) := ⟨_, rfl⟩
  rw [← eσ1] at hP
  have hq := hq σ1 eσ1
  refine lv_aload_n hx hb dX7_reset_5 rfl (lv_at hl 0 rfl) ?_
  refine lv_iconst (v := 0) hx hb dX7_reset_6 (by decide) ?_
  refine kp_X7_freeLength C0 hK hI hP hS (kv_w (by decide) (by decide) ho hi) kq_73 dX7_reset_7 (fun H locs hP hS => ?_)
  obtain ⟨σ2, eσ2⟩ : ∃ z : ka_S, z = ka_wI σ1 (5, o, i) 5 (0 : Int32) := ⟨_, rfl⟩
  rw [← eσ2] at hP
  have hq := hq σ2 eσ2
  refine lv_aload_n hx hb dX7_reset_10 rfl (lv_at hl 0 rfl) ?_
  refine lv_iconst (v := 0) hx hb dX7_reset_11 (by decide) ?_
  refine kp_X7_ended C0 hK hI hP hS (kv_w (by decide) (by decide) ho hi) (by decide) kq_76 dX7_reset_12 (fun H locs hP hS => ?_)
  obtain ⟨σ3, eσ3⟩ : ∃ z : ka_S, z = ka_wI σ2 (5, o, i) 6 (0 : Int32) := ⟨_, rfl⟩
  rw [← eσ3] at hP
  have hq := hq σ3 eσ3
  exact kr_vret C0 hK hP hS hq dX7_reset_15
/-! GlossRows$Word.copyFrom(LGlossRows$Word;)V -/
def rm_X7_copyFrom : Room := { frames := 0, cells := 0, slots := 0, locals := 0 }
def kw_X7_copyFrom_78 (o : Nat) (i : Nat) (o2 : Nat) (i2 : Nat) (Q : ka_S → Prop) : Nat → ka_S → Int32 → Prop
  | 0, _, _ => False
  | n + 1, σ, v2 => ((σ.1 (5, o, i) 5) ≤ v2 → Q σ) ∧
    (¬ (σ.1 (5, o, i) 5) ≤ v2 → vp_in v2 24 ∧
      vp_in v2 24 ∧
      ∀ σ18 : ka_S, σ18 = ka_wI σ (9, o, i) v2.toNatClampNeg (σ.1 (9, o2, i2) v2.toNatClampNeg) →
      ∀ x19 : Int32, x19 = v2 + (1 : Int32) →
      (kw_X7_copyFrom_78 o i o2 i2 Q n) σ18 x19)
def kw_X7_copyFrom_26 (o : Nat) (i : Nat) (o2 : Nat) (i2 : Nat) (Q : ka_S → Prop) : Nat → ka_S → Int32 → Prop
  | 0, _, _ => False
  | n + 1, σ, v2 => ((σ.1 (5, o, i) 4) ≤ v2 → ∃ n5 : Nat, kw_X7_copyFrom_78 o i o2 i2 Q n5 σ (0 : Int32)) ∧
    (¬ (σ.1 (5, o, i) 4) ≤ v2 → vp_in v2 4 ∧
      vp_in v2 4 ∧
      ∀ σ8 : ka_S, σ8 = ka_wL σ (6, o, i) v2.toNatClampNeg (σ.2 (6, o2, i2) v2.toNatClampNeg) →
      vp_in v2 4 ∧
      vp_in v2 4 ∧
      ∀ σ11 : ka_S, σ11 = ka_wL σ8 (7, o, i) v2.toNatClampNeg (σ8.2 (7, o2, i2) v2.toNatClampNeg) →
      vp_in v2 4 ∧
      vp_in v2 4 ∧
      ∀ σ14 : ka_S, σ14 = ka_wI σ11 (8, o, i) v2.toNatClampNeg (σ11.1 (8, o2, i2) v2.toNatClampNeg) →
      ∀ x15 : Int32, x15 = v2 + (1 : Int32) →
      (kw_X7_copyFrom_26 o i o2 i2 Q n) σ14 x15)
def kw_X7_copyFrom (σ : ka_S) (o : Nat) (i : Nat) (o2 : Nat) (i2 : Nat) (Q : ka_S → Prop) : Prop := ∀ σ1 : ka_S, σ1 = ka_wI σ (5, o, i) 4 (σ.1 (5, o2, i2) 4) →
  ∀ σ2 : ka_S, σ2 = ka_wI σ1 (5, o, i) 5 (σ1.1 (5, o2, i2) 5) →
  ((σ2.1 (5, o2, i2) 6) = 0 ∨ (σ2.1 (5, o2, i2) 6) = 1) ∧
  ∀ σ3 : ka_S, σ3 = ka_wI σ2 (5, o, i) 6 (σ2.1 (5, o2, i2) 6) →
  ∃ n4 : Nat, kw_X7_copyFrom_26 o i o2 i2 Q n4 σ3 (0 : Int32)
set_option maxHeartbeats 4000000 in
set_option maxRecDepth 100000 in
theorem kb_X7_copyFrom_78 {p : Program} {l : Launch} {e : Env} {s : State} {m : MethodId} {args : Array Value} {below : List Frame} {meth : Method} {c : Code} {G : ka_G} (hI : ka_I G) {o : Nat} {i : Nat} {o2 : Nat} {i2 : Nat} (ho : o < 19) (hi : i < 12) (ho2 : o2 < 19) (hi2 : i2 < 12) (C0 : ka_C p s m args meth c cX7_copyFrom 3 "GlossRows$Word" none) (hK : ka_Kn G s) {Q : ka_S → Prop} : ∀ (n : Nat) (σ : ka_S) (v2 : Int32), kw_X7_copyFrom_78 o i o2 i2 Q n σ v2 → ∀ (H : Heap) (locs : List Loc), ka_P G σ H → va_S (ka_A G) s.heap H locs → ∀ ls : Array Slot, lv_has ls 3 [(0, .ref (ka_a G (5, o, i))), (1, .ref (ka_a G (5, o2, i2))), (2, .int v2)] → W p l e rm_X7_copyFrom s m args below meth c H locs 0 0 (MQ below (va_Qv Q (ka_B G) (ka_A G)) args s 0 0 (ka_A G)) (F0 m 78 ls []) := by
  obtain ⟨hx, hb, -, hml, hown, hts, -⟩ := id C0
  intro n
  induction n with
  | zero =>
    intro σ v2 hq
    rw [kw_X7_copyFrom_78] at hq
    exact hq.elim
  | succ n ih =>
    intro σ v2 hq H locs hP hS ls hl
    rw [kw_X7_copyFrom_78] at hq
    refine lv_iload_n hx hb dX7_copyFrom_78 rfl (lv_at hl 2 rfl) ?_
    refine lv_aload_n hx hb dX7_copyFrom_79 rfl (lv_at hl 0 rfl) ?_
    refine kg_X7_freeLength C0 hK hP (kv_w (by decide) (by decide) ho hi) kq_73 dX7_copyFrom_80 ?_
    refine lv_icmp_ge (tgt := 104) hx hb dX7_copyFrom_83 (by decide) (fun hc => ?_) (fun hc => ?_)
    · have hq := hq.1 hc
      exact kr_vret C0 hK hP hS hq dX7_copyFrom_104
    · have hq := hq.2 hc
      refine lv_aload_n hx hb dX7_copyFrom_86 rfl (lv_at hl 0 rfl) ?_
      refine kg_X7_free C0 hK hP (kv_w (by decide) (by decide) ho hi) kq_68 dX7_copyFrom_87 ?_
      refine lv_iload_n hx hb dX7_copyFrom_90 rfl (lv_at hl 2 rfl) ?_
      refine lv_aload_n hx hb dX7_copyFrom_91 rfl (lv_at hl 1 rfl) ?_
      refine kg_X7_free C0 hK hP (kv_w (by decide) (by decide) ho2 hi2) kq_68 dX7_copyFrom_92 ?_
      refine lv_iload_n hx hb dX7_copyFrom_95 rfl (lv_at hl 2 rfl) ?_
      obtain ⟨b16, hq⟩ := hq
      refine kr_iald C0 hK hP (kv_w (by decide) (by decide) ho2 hi2) rfl b16 dX7_copyFrom_96 ?_
      obtain ⟨b17, hq⟩ := hq
      refine kr_iast C0 hK hI hP hS (kv_w (by decide) (by decide) ho hi) (fun _ => rfl) b17 dX7_copyFrom_97 (fun H locs hP hS => ?_)
      obtain ⟨σ18, eσ18⟩ : ∃ z : ka_S, z = ka_wI σ (9, o, i) v2.toNatClampNeg (σ.1 (9, o2, i2) v2.toNatClampNeg) := ⟨_, rfl⟩
      rw [← eσ18] at hP
      have hq := hq σ18 eσ18
      obtain ⟨x19, ex19⟩ : ∃ y : Int32, y = v2 + (1 : Int32) := ⟨_, rfl⟩
      have hq := hq x19 ex19
      refine lv_iinc (v := x19) (lv' := [(2, .int x19), (0, .ref (ka_a G (5, o, i))), (1, .ref (ka_a G (5, o2, i2)))]) hx hb dX7_copyFrom_98 hl (k := 2) rfl (by rw [ex19]; rfl) (by decide) rfl (fun ls hl => ?_)
      refine lv_goto (tgt := 78) hx hb dX7_copyFrom_101 (by decide) ?_
      exact ih σ18 x19 hq H locs hP hS ls (lv_sub hl [1, 2, 0] rfl)
set_option maxHeartbeats 4000000 in
set_option maxRecDepth 100000 in
theorem kb_X7_copyFrom_26 {p : Program} {l : Launch} {e : Env} {s : State} {m : MethodId} {args : Array Value} {below : List Frame} {meth : Method} {c : Code} {G : ka_G} (hI : ka_I G) {o : Nat} {i : Nat} {o2 : Nat} {i2 : Nat} (ho : o < 19) (hi : i < 12) (ho2 : o2 < 19) (hi2 : i2 < 12) (C0 : ka_C p s m args meth c cX7_copyFrom 3 "GlossRows$Word" none) (hK : ka_Kn G s) {Q : ka_S → Prop} : ∀ (n : Nat) (σ : ka_S) (v2 : Int32), kw_X7_copyFrom_26 o i o2 i2 Q n σ v2 → ∀ (H : Heap) (locs : List Loc), ka_P G σ H → va_S (ka_A G) s.heap H locs → ∀ ls : Array Slot, lv_has ls 3 [(0, .ref (ka_a G (5, o, i))), (1, .ref (ka_a G (5, o2, i2))), (2, .int v2)] → W p l e rm_X7_copyFrom s m args below meth c H locs 0 0 (MQ below (va_Qv Q (ka_B G) (ka_A G)) args s 0 0 (ka_A G)) (F0 m 26 ls []) := by
  obtain ⟨hx, hb, -, hml, hown, hts, -⟩ := id C0
  intro n
  induction n with
  | zero =>
    intro σ v2 hq
    rw [kw_X7_copyFrom_26] at hq
    exact hq.elim
  | succ n ih =>
    intro σ v2 hq H locs hP hS ls hl
    rw [kw_X7_copyFrom_26] at hq
    refine lv_iload_n hx hb dX7_copyFrom_26 rfl (lv_at hl 2 rfl) ?_
    refine lv_aload_n hx hb dX7_copyFrom_27 rfl (lv_at hl 0 rfl) ?_
    refine kg_X7_size C0 hK hP (kv_w (by decide) (by decide) ho hi) kq_69 dX7_copyFrom_28 ?_
    refine lv_icmp_ge (tgt := 76) hx hb dX7_copyFrom_31 (by decide) (fun hc => ?_) (fun hc => ?_)
    · have hq := hq.1 hc
      refine lv_iconst (v := 0) hx hb dX7_copyFrom_76 (by decide) ?_
      refine lv_istore_n (lv' := [(2, .int (0 : Int32)), (0, .ref (ka_a G (5, o, i))), (1, .ref (ka_a G (5, o2, i2)))]) hx hb dX7_copyFrom_77 rfl hl (by decide) rfl (fun ls hl => ?_)
      obtain ⟨n5, hq⟩ := hq
      exact kb_X7_copyFrom_78 hI ho hi ho2 hi2 C0 hK n5 σ (0 : Int32) hq H locs hP hS ls (lv_sub hl [1, 2, 0] rfl)
    · have hq := hq.2 hc
      refine lv_aload_n hx hb dX7_copyFrom_34 rfl (lv_at hl 0 rfl) ?_
      refine kg_X7_parts C0 hK hP (kv_w (by decide) (by decide) ho hi) kq_57 dX7_copyFrom_35 ?_
      refine lv_iload_n hx hb dX7_copyFrom_38 rfl (lv_at hl 2 rfl) ?_
      refine lv_aload_n hx hb dX7_copyFrom_39 rfl (lv_at hl 1 rfl) ?_
      refine kg_X7_parts C0 hK hP (kv_w (by decide) (by decide) ho2 hi2) kq_57 dX7_copyFrom_40 ?_
      refine lv_iload_n hx hb dX7_copyFrom_43 rfl (lv_at hl 2 rfl) ?_
      obtain ⟨b6, hq⟩ := hq
      refine kr_lald C0 hK hP (kv_w (by decide) (by decide) ho2 hi2) rfl b6 dX7_copyFrom_44 ?_
      obtain ⟨b7, hq⟩ := hq
      refine kr_last C0 hK hI hP hS (kv_w (by decide) (by decide) ho hi) (fun _ => rfl) b7 dX7_copyFrom_45 (fun H locs hP hS => ?_)
      obtain ⟨σ8, eσ8⟩ : ∃ z : ka_S, z = ka_wL σ (6, o, i) v2.toNatClampNeg (σ.2 (6, o2, i2) v2.toNatClampNeg) := ⟨_, rfl⟩
      rw [← eσ8] at hP
      have hq := hq σ8 eσ8
      refine lv_aload_n hx hb dX7_copyFrom_46 rfl (lv_at hl 0 rfl) ?_
      refine kg_X7_glosses C0 hK hP (kv_w (by decide) (by decide) ho hi) kq_61 dX7_copyFrom_47 ?_
      refine lv_iload_n hx hb dX7_copyFrom_50 rfl (lv_at hl 2 rfl) ?_
      refine lv_aload_n hx hb dX7_copyFrom_51 rfl (lv_at hl 1 rfl) ?_
      refine kg_X7_glosses C0 hK hP (kv_w (by decide) (by decide) ho2 hi2) kq_61 dX7_copyFrom_52 ?_
      refine lv_iload_n hx hb dX7_copyFrom_55 rfl (lv_at hl 2 rfl) ?_
      obtain ⟨b9, hq⟩ := hq
      refine kr_lald C0 hK hP (kv_w (by decide) (by decide) ho2 hi2) rfl b9 dX7_copyFrom_56 ?_
      obtain ⟨b10, hq⟩ := hq
      refine kr_last C0 hK hI hP hS (kv_w (by decide) (by decide) ho hi) (fun _ => rfl) b10 dX7_copyFrom_57 (fun H locs hP hS => ?_)
      obtain ⟨σ11, eσ11⟩ : ∃ z : ka_S, z = ka_wL σ8 (7, o, i) v2.toNatClampNeg (σ8.2 (7, o2, i2) v2.toNatClampNeg) := ⟨_, rfl⟩
      rw [← eσ11] at hP
      have hq := hq σ11 eσ11
      refine lv_aload_n hx hb dX7_copyFrom_58 rfl (lv_at hl 0 rfl) ?_
      refine kg_X7_marks C0 hK hP (kv_w (by decide) (by decide) ho hi) kq_65 dX7_copyFrom_59 ?_
      refine lv_iload_n hx hb dX7_copyFrom_62 rfl (lv_at hl 2 rfl) ?_
      refine lv_aload_n hx hb dX7_copyFrom_63 rfl (lv_at hl 1 rfl) ?_
      refine kg_X7_marks C0 hK hP (kv_w (by decide) (by decide) ho2 hi2) kq_65 dX7_copyFrom_64 ?_
      refine lv_iload_n hx hb dX7_copyFrom_67 rfl (lv_at hl 2 rfl) ?_
      obtain ⟨b12, hq⟩ := hq
      refine kr_iald C0 hK hP (kv_w (by decide) (by decide) ho2 hi2) rfl b12 dX7_copyFrom_68 ?_
      obtain ⟨b13, hq⟩ := hq
      refine kr_iast C0 hK hI hP hS (kv_w (by decide) (by decide) ho hi) (fun _ => rfl) b13 dX7_copyFrom_69 (fun H locs hP hS => ?_)
      obtain ⟨σ14, eσ14⟩ : ∃ z : ka_S, z = ka_wI σ11 (8, o, i) v2.toNatClampNeg (σ11.1 (8, o2, i2) v2.toNatClampNeg) := ⟨_, rfl⟩
      rw [← eσ14] at hP
      have hq := hq σ14 eσ14
      obtain ⟨x15, ex15⟩ : ∃ y : Int32, y = v2 + (1 : Int32) := ⟨_, rfl⟩
      have hq := hq x15 ex15
      refine lv_iinc (v := x15) (lv' := [(2, .int x15), (0, .ref (ka_a G (5, o, i))), (1, .ref (ka_a G (5, o2, i2)))]) hx hb dX7_copyFrom_70 hl (k := 2) rfl (by rw [ex15]; rfl) (by decide) rfl (fun ls hl => ?_)
      refine lv_goto (tgt := 26) hx hb dX7_copyFrom_73 (by decide) ?_
      exact ih σ14 x15 hq H locs hP hS ls (lv_sub hl [1, 2, 0] rfl)
set_option maxHeartbeats 4000000 in
set_option maxRecDepth 100000 in
theorem km_X7_copyFrom (l : Launch) {G : ka_G} (hI : ka_I G) {o : Nat} {i : Nat} {o2 : Nat} {i2 : Nat} (ho : o < 19) (hi : i < 12) (ho2 : o2 < 19) (hi2 : i2 < 12) {σ : ka_S} {Q : ka_S → Prop} (hq : kw_X7_copyFrom σ o i o2 i2 Q) : kc_v l yX7_copyFrom (kw_ yX7_copyFrom cX7_copyFrom 3 none) rm_X7_copyFrom G [.ref (ka_a G (5, o, i)), .ref (ka_a G (5, o2, i2))] σ Q := by
  refine ka_of "GlossRows$Word" rfl (by decide) (Nat.le_of_ble_eq_true rfl) ?_
  intro p e s m below meth c C0 hK H locs hP hS ls hl
  obtain ⟨hx, hb, -, hml, hown, hts, -⟩ := id C0
  have hl : lv_has ls 3 [(0, .ref (ka_a G (5, o, i))), (1, .ref (ka_a G (5, o2, i2)))] := hl
  unfold kw_X7_copyFrom at hq
  refine lv_aload_n hx hb dX7_copyFrom_0 rfl (lv_at hl 0 rfl) ?_
  refine lv_aload_n hx hb dX7_copyFrom_1 rfl (lv_at hl 1 rfl) ?_
  refine kg_X7_size C0 hK hP (kv_w (by decide) (by decide) ho2 hi2) kq_69 dX7_copyFrom_2 ?_
  refine kp_X7_size C0 hK hI hP hS (kv_w (by decide) (by decide) ho hi) kq_69 dX7_copyFrom_5 (fun H locs hP hS => ?_)
  obtain ⟨σ1, eσ1⟩ : ∃ z : ka_S, z = ka_wI σ (5, o, i) 4 (σ.1 (5, o2, i2) 4) := ⟨_, rfl⟩
  rw [← eσ1] at hP
  have hq := hq σ1 eσ1
  refine lv_aload_n hx hb dX7_copyFrom_8 rfl (lv_at hl 0 rfl) ?_
  refine lv_aload_n hx hb dX7_copyFrom_9 rfl (lv_at hl 1 rfl) ?_
  refine kg_X7_freeLength C0 hK hP (kv_w (by decide) (by decide) ho2 hi2) kq_73 dX7_copyFrom_10 ?_
  refine kp_X7_freeLength C0 hK hI hP hS (kv_w (by decide) (by decide) ho hi) kq_73 dX7_copyFrom_13 (fun H locs hP hS => ?_)
  obtain ⟨σ2, eσ2⟩ : ∃ z : ka_S, z = ka_wI σ1 (5, o, i) 5 (σ1.1 (5, o2, i2) 5) := ⟨_, rfl⟩
  rw [← eσ2] at hP
  have hq := hq σ2 eσ2
  refine lv_aload_n hx hb dX7_copyFrom_16 rfl (lv_at hl 0 rfl) ?_
  refine lv_aload_n hx hb dX7_copyFrom_17 rfl (lv_at hl 1 rfl) ?_
  refine kg_X7_ended C0 hK hP (kv_w (by decide) (by decide) ho2 hi2) kq_76 dX7_copyFrom_18 ?_
  obtain ⟨hz, hq⟩ := hq
  refine kp_X7_ended C0 hK hI hP hS (kv_w (by decide) (by decide) ho hi) hz kq_76 dX7_copyFrom_21 (fun H locs hP hS => ?_)
  obtain ⟨σ3, eσ3⟩ : ∃ z : ka_S, z = ka_wI σ2 (5, o, i) 6 (σ2.1 (5, o2, i2) 6) := ⟨_, rfl⟩
  rw [← eσ3] at hP
  have hq := hq σ3 eσ3
  refine lv_iconst (v := 0) hx hb dX7_copyFrom_24 (by decide) ?_
  refine lv_istore_n (lv' := [(2, .int (0 : Int32)), (0, .ref (ka_a G (5, o, i))), (1, .ref (ka_a G (5, o2, i2)))]) hx hb dX7_copyFrom_25 rfl hl (by decide) rfl (fun ls hl => ?_)
  obtain ⟨n4, hq⟩ := hq
  exact kb_X7_copyFrom_26 hI ho hi ho2 hi2 C0 hK n4 σ3 (0 : Int32) hq H locs hP hS ls (lv_sub hl [1, 2, 0] rfl)
/-! GlossRows$Word.openPart(I)V -/
def rm_X7_openPart : Room := { frames := 0, cells := 0, slots := 0, locals := 0 }
def kw_X7_openPart (σ : ka_S) (o : Nat) (i : Nat) (v1 : Int32) (Q : ka_S → Prop) : Prop := ((4 : Int32) ≤ (σ.1 (5, o, i) 4) → Q σ) ∧
  (¬ (4 : Int32) ≤ (σ.1 (5, o, i) 4) → vp_in (σ.1 (5, o, i) 4) 4 ∧
    ∀ σ2 : ka_S, σ2 = ka_wL σ (6, o, i) (σ.1 (5, o, i) 4).toNatClampNeg (0 : Int64) →
    vp_in (σ2.1 (5, o, i) 4) 4 ∧
    ∀ σ4 : ka_S, σ4 = ka_wL σ2 (7, o, i) (σ2.1 (5, o, i) 4).toNatClampNeg (0 : Int64) →
    vp_in (σ4.1 (5, o, i) 4) 4 ∧
    ∀ σ6 : ka_S, σ6 = ka_wI σ4 (8, o, i) (σ4.1 (5, o, i) 4).toNatClampNeg v1 →
    ∀ σ7 : ka_S, σ7 = ka_wI σ6 (5, o, i) 4 ((σ6.1 (5, o, i) 4) + (1 : Int32)) →
    Q σ7)
set_option maxHeartbeats 4000000 in
set_option maxRecDepth 100000 in
theorem km_X7_openPart (l : Launch) {G : ka_G} (hI : ka_I G) {o : Nat} {i : Nat} (ho : o < 19) (hi : i < 12) {σ : ka_S} {v1 : Int32} {Q : ka_S → Prop} (hq : kw_X7_openPart σ o i v1 Q) : kc_v l yX7_openPart (kw_ yX7_openPart cX7_openPart 2 none) rm_X7_openPart G [.ref (ka_a G (5, o, i)), .int v1] σ Q := by
  refine ka_of "GlossRows$Word" rfl (by decide) (Nat.le_of_ble_eq_true rfl) ?_
  intro p e s m below meth c C0 hK H locs hP hS ls hl
  obtain ⟨hx, hb, -, hml, hown, hts, -⟩ := id C0
  have hl : lv_has ls 2 [(0, .ref (ka_a G (5, o, i))), (1, .int v1)] := hl
  unfold kw_X7_openPart at hq
  refine lv_aload_n hx hb dX7_openPart_0 rfl (lv_at hl 0 rfl) ?_
  refine kg_X7_size C0 hK hP (kv_w (by decide) (by decide) ho hi) kq_69 dX7_openPart_1 ?_
  refine lv_iconst (v := 4) hx hb dX7_openPart_4 (by decide) ?_
  refine lv_icmp_ge (tgt := 48) hx hb dX7_openPart_5 (by decide) (fun hc => ?_) (fun hc => ?_)
  · have hq := hq.1 hc
    exact kr_vret C0 hK hP hS hq dX7_openPart_48
  · have hq := hq.2 hc
    refine lv_aload_n hx hb dX7_openPart_8 rfl (lv_at hl 0 rfl) ?_
    refine kg_X7_parts C0 hK hP (kv_w (by decide) (by decide) ho hi) kq_57 dX7_openPart_9 ?_
    refine lv_aload_n hx hb dX7_openPart_12 rfl (lv_at hl 0 rfl) ?_
    refine kg_X7_size C0 hK hP (kv_w (by decide) (by decide) ho hi) kq_69 dX7_openPart_13 ?_
    refine lv_lconst (v := 0) hx hb dX7_openPart_16 (by decide) ?_
    obtain ⟨b1, hq⟩ := hq
    refine kr_last C0 hK hI hP hS (kv_w (by decide) (by decide) ho hi) (fun _ => rfl) b1 dX7_openPart_17 (fun H locs hP hS => ?_)
    obtain ⟨σ2, eσ2⟩ : ∃ z : ka_S, z = ka_wL σ (6, o, i) (σ.1 (5, o, i) 4).toNatClampNeg (0 : Int64) := ⟨_, rfl⟩
    rw [← eσ2] at hP
    have hq := hq σ2 eσ2
    refine lv_aload_n hx hb dX7_openPart_18 rfl (lv_at hl 0 rfl) ?_
    refine kg_X7_glosses C0 hK hP (kv_w (by decide) (by decide) ho hi) kq_61 dX7_openPart_19 ?_
    refine lv_aload_n hx hb dX7_openPart_22 rfl (lv_at hl 0 rfl) ?_
    refine kg_X7_size C0 hK hP (kv_w (by decide) (by decide) ho hi) kq_69 dX7_openPart_23 ?_
    refine lv_lconst (v := 0) hx hb dX7_openPart_26 (by decide) ?_
    obtain ⟨b3, hq⟩ := hq
    refine kr_last C0 hK hI hP hS (kv_w (by decide) (by decide) ho hi) (fun _ => rfl) b3 dX7_openPart_27 (fun H locs hP hS => ?_)
    obtain ⟨σ4, eσ4⟩ : ∃ z : ka_S, z = ka_wL σ2 (7, o, i) (σ2.1 (5, o, i) 4).toNatClampNeg (0 : Int64) := ⟨_, rfl⟩
    rw [← eσ4] at hP
    have hq := hq σ4 eσ4
    refine lv_aload_n hx hb dX7_openPart_28 rfl (lv_at hl 0 rfl) ?_
    refine kg_X7_marks C0 hK hP (kv_w (by decide) (by decide) ho hi) kq_65 dX7_openPart_29 ?_
    refine lv_aload_n hx hb dX7_openPart_32 rfl (lv_at hl 0 rfl) ?_
    refine kg_X7_size C0 hK hP (kv_w (by decide) (by decide) ho hi) kq_69 dX7_openPart_33 ?_
    refine lv_iload_n hx hb dX7_openPart_36 rfl (lv_at hl 1 rfl) ?_
    obtain ⟨b5, hq⟩ := hq
    refine kr_iast C0 hK hI hP hS (kv_w (by decide) (by decide) ho hi) (fun _ => rfl) b5 dX7_openPart_37 (fun H locs hP hS => ?_)
    obtain ⟨σ6, eσ6⟩ : ∃ z : ka_S, z = ka_wI σ4 (8, o, i) (σ4.1 (5, o, i) 4).toNatClampNeg v1 := ⟨_, rfl⟩
    rw [← eσ6] at hP
    have hq := hq σ6 eσ6
    refine lv_aload_n hx hb dX7_openPart_38 rfl (lv_at hl 0 rfl) ?_
    refine lv_dup hx hb dX7_openPart_39 rfl ?_
    refine kg_X7_size C0 hK hP (kv_w (by decide) (by decide) ho hi) kq_69 dX7_openPart_40 ?_
    refine lv_iconst (v := 1) hx hb dX7_openPart_43 (by decide) ?_
    refine lv_iadd hx hb dX7_openPart_44 ?_
    refine kp_X7_size C0 hK hI hP hS (kv_w (by decide) (by decide) ho hi) kq_69 dX7_openPart_45 (fun H locs hP hS => ?_)
    obtain ⟨σ7, eσ7⟩ : ∃ z : ka_S, z = ka_wI σ6 (5, o, i) 4 ((σ6.1 (5, o, i) 4) + (1 : Int32)) := ⟨_, rfl⟩
    rw [← eσ7] at hP
    have hq := hq σ7 eσ7
    exact kr_vret C0 hK hP hS hq dX7_openPart_48
/-! GlossRows$Word.dropEnd()V -/
def rm_X7_dropEnd : Room := { frames := 0, cells := 0, slots := 0, locals := 0 }
def kw_X7_dropEnd (σ : ka_S) (o : Nat) (i : Nat) (Q : ka_S → Prop) : Prop := ∀ σ1 : ka_S, σ1 = ka_wI σ (5, o, i) 6 (0 : Int32) →
  ∀ σ2 : ka_S, σ2 = ka_wI σ1 (5, o, i) 5 (0 : Int32) →
  Q σ2
set_option maxHeartbeats 4000000 in
set_option maxRecDepth 100000 in
theorem km_X7_dropEnd (l : Launch) {G : ka_G} (hI : ka_I G) {o : Nat} {i : Nat} (ho : o < 19) (hi : i < 12) {σ : ka_S} {Q : ka_S → Prop} (hq : kw_X7_dropEnd σ o i Q) : kc_v l yX7_dropEnd (kw_ yX7_dropEnd cX7_dropEnd 1 none) rm_X7_dropEnd G [.ref (ka_a G (5, o, i))] σ Q := by
  refine ka_of "GlossRows$Word" rfl (by decide) (Nat.le_of_ble_eq_true rfl) ?_
  intro p e s m below meth c C0 hK H locs hP hS ls hl
  obtain ⟨hx, hb, -, hml, hown, hts, -⟩ := id C0
  have hl : lv_has ls 1 [(0, .ref (ka_a G (5, o, i)))] := hl
  unfold kw_X7_dropEnd at hq
  refine lv_aload_n hx hb dX7_dropEnd_0 rfl (lv_at hl 0 rfl) ?_
  refine lv_iconst (v := 0) hx hb dX7_dropEnd_1 (by decide) ?_
  refine kp_X7_ended C0 hK hI hP hS (kv_w (by decide) (by decide) ho hi) (by decide) kq_76 dX7_dropEnd_2 (fun H locs hP hS => ?_)
  obtain ⟨σ1, eσ1⟩ : ∃ z : ka_S, z = ka_wI σ (5, o, i) 6 (0 : Int32) := ⟨_, rfl⟩
  rw [← eσ1] at hP
  have hq := hq σ1 eσ1
  refine lv_aload_n hx hb dX7_dropEnd_5 rfl (lv_at hl 0 rfl) ?_
  refine lv_iconst (v := 0) hx hb dX7_dropEnd_6 (by decide) ?_
  refine kp_X7_freeLength C0 hK hI hP hS (kv_w (by decide) (by decide) ho hi) kq_73 dX7_dropEnd_7 (fun H locs hP hS => ?_)
  obtain ⟨σ2, eσ2⟩ : ∃ z : ka_S, z = ka_wI σ1 (5, o, i) 5 (0 : Int32) := ⟨_, rfl⟩
  rw [← eσ2] at hP
  have hq := hq σ2 eσ2
  exact kr_vret C0 hK hP hS hq dX7_dropEnd_10
/-! GlossRows$Word.turnEnd()V -/
def rm_X7_turnEnd : Room := { frames := 1, cells := 0, slots := 0, locals := 20 }
def kw_X7_turnEnd (σ : ka_S) (o : Nat) (i : Nat) (Q : ka_S → Prop) : Prop := ((σ.1 (5, o, i) 6) = (0 : Int32) → ∀ σ1 : ka_S, σ1 = ka_wI σ (5, o, i) 6 (1 : Int32) →
    Q σ1) ∧
  (¬ (σ.1 (5, o, i) 6) = (0 : Int32) → kw_X7_dropEnd σ o i (fun σ2 => 
    Q σ2))
set_option maxHeartbeats 4000000 in
set_option maxRecDepth 100000 in
theorem km_X7_turnEnd (l : Launch) {G : ka_G} (hI : ka_I G) {o : Nat} {i : Nat} (ho : o < 19) (hi : i < 12) {σ : ka_S} {Q : ka_S → Prop} (hq : kw_X7_turnEnd σ o i Q) : kc_v l yX7_turnEnd (kw_ yX7_turnEnd cX7_turnEnd 1 none) rm_X7_turnEnd G [.ref (ka_a G (5, o, i))] σ Q := by
  refine ka_of "GlossRows$Word" rfl (by decide) (Nat.le_of_ble_eq_true rfl) ?_
  intro p e s m below meth c C0 hK H locs hP hS ls hl
  obtain ⟨hx, hb, -, hml, hown, hts, -⟩ := id C0
  have hl : lv_has ls 1 [(0, .ref (ka_a G (5, o, i)))] := hl
  unfold kw_X7_turnEnd at hq
  refine lv_aload_n hx hb dX7_turnEnd_0 rfl (lv_at hl 0 rfl) ?_
  refine kg_X7_ended C0 hK hP (kv_w (by decide) (by decide) ho hi) kq_76 dX7_turnEnd_1 ?_
  refine lv_if_eq (tgt := 14) hx hb dX7_turnEnd_4 (by decide) (fun hc => ?_) (fun hc => ?_)
  · have hq := hq.1 hc
    refine lv_aload_n hx hb dX7_turnEnd_14 rfl (lv_at hl 0 rfl) ?_
    refine lv_iconst (v := 1) hx hb dX7_turnEnd_15 (by decide) ?_
    refine kp_X7_ended C0 hK hI hP hS (kv_w (by decide) (by decide) ho hi) (by decide) kq_76 dX7_turnEnd_16 (fun H locs hP hS => ?_)
    obtain ⟨σ1, eσ1⟩ : ∃ z : ka_S, z = ka_wI σ (5, o, i) 6 (1 : Int32) := ⟨_, rfl⟩
    rw [← eσ1] at hP
    have hq := hq σ1 eσ1
    exact kr_vret C0 hK hP hS hq dX7_turnEnd_19
  · have hq := hq.2 hc
    refine lv_aload_n hx hb dX7_turnEnd_7 rfl (lv_at hl 0 rfl) ?_
    refine kr_Vv (k := (5, o, i)) (As := []) (rest := []) C0 hK hP hS hl (km_X7_dropEnd l hI ho hi hq) kd_X7_dropEnd kq_836 (kv_w (by decide) (by decide) ho hi) rfl rfl rfl ⟨rfl, rfl, Nat.le_of_ble_eq_true rfl, Nat.le_of_ble_eq_true rfl⟩ rfl (Nat.le_of_ble_eq_true rfl) dX7_turnEnd_8 ⟨Nat.zero_le _, Nat.zero_le _⟩ (fun σ2 H locs hq hP hS => ?_)
    refine lv_goto (tgt := 19) hx hb dX7_turnEnd_11 (by decide) ?_
    exact kr_vret C0 hK hP hS hq dX7_turnEnd_19
/-! GlossRows$Word.takeFree(LGlossRows$Text;)V -/
def rm_X7_takeFree : Room := { frames := 1, cells := 0, slots := 0, locals := 21 }
def kw_X7_takeFree_15 (o : Nat) (i : Nat) (Q : ka_S → Prop) : Nat → ka_S → Int32 → Prop
  | 0, _, _ => False
  | n + 1, σ, v2 => ((σ.1 (5, o, i) 5) ≤ v2 → ((σ.1 (5, o, i) 5) ≤ (0 : Int32) → Q σ) ∧
      (¬ (σ.1 (5, o, i) 5) ≤ (0 : Int32) → ∀ σ3 : ka_S, σ3 = ka_wI σ (5, o, i) 6 (1 : Int32) →
        Q σ3)) ∧
    (¬ (σ.1 (5, o, i) 5) ≤ v2 → vp_in v2 60 ∧
      vp_in v2 24 ∧
      ∀ σ6 : ka_S, σ6 = ka_wI σ (9, o, i) v2.toNatClampNeg (σ.1 (11, 0, 0) v2.toNatClampNeg) →
      ∀ x7 : Int32, x7 = v2 + (1 : Int32) →
      (kw_X7_takeFree_15 o i Q n) σ6 x7)
def kw_X7_takeFree (σ : ka_S) (o : Nat) (i : Nat) (Q : ka_S → Prop) : Prop := ∀ σ1 : ka_S, σ1 = ka_wI σ (5, o, i) 5 (if (24 : Int32) < (σ.1 (10, 0, 0) 1) then (24 : Int32) else (σ.1 (10, 0, 0) 1)) →
  ∃ n2 : Nat, kw_X7_takeFree_15 o i Q n2 σ1 (0 : Int32)
set_option maxHeartbeats 4000000 in
set_option maxRecDepth 100000 in
theorem kb_X7_takeFree_15 {p : Program} {l : Launch} {e : Env} {s : State} {m : MethodId} {args : Array Value} {below : List Frame} {meth : Method} {c : Code} {G : ka_G} (hI : ka_I G) {o : Nat} {i : Nat} (ho : o < 19) (hi : i < 12) (C0 : ka_C p s m args meth c cX7_takeFree 3 "GlossRows$Word" none) (hK : ka_Kn G s) {Q : ka_S → Prop} : ∀ (n : Nat) (σ : ka_S) (v2 : Int32), kw_X7_takeFree_15 o i Q n σ v2 → ∀ (H : Heap) (locs : List Loc), ka_P G σ H → va_S (ka_A G) s.heap H locs → ∀ ls : Array Slot, lv_has ls 3 [(0, .ref (ka_a G (5, o, i))), (1, .ref (ka_a G (10, 0, 0))), (2, .int v2)] → W p l e rm_X7_takeFree s m args below meth c H locs 0 0 (MQ below (va_Qv Q (ka_B G) (ka_A G)) args s 0 0 (ka_A G)) (F0 m 15 ls []) := by
  obtain ⟨hx, hb, -, hml, hown, hts, -⟩ := id C0
  intro n
  induction n with
  | zero =>
    intro σ v2 hq
    rw [kw_X7_takeFree_15] at hq
    exact hq.elim
  | succ n ih =>
    intro σ v2 hq H locs hP hS ls hl
    rw [kw_X7_takeFree_15] at hq
    refine lv_iload_n hx hb dX7_takeFree_15 rfl (lv_at hl 2 rfl) ?_
    refine lv_aload_n hx hb dX7_takeFree_16 rfl (lv_at hl 0 rfl) ?_
    refine kg_X7_freeLength C0 hK hP (kv_w (by decide) (by decide) ho hi) kq_73 dX7_takeFree_17 ?_
    refine lv_icmp_ge (tgt := 41) hx hb dX7_takeFree_20 (by decide) (fun hc => ?_) (fun hc => ?_)
    · have hq := hq.1 hc
      refine lv_aload_n hx hb dX7_takeFree_41 rfl (lv_at hl 0 rfl) ?_
      refine kg_X7_freeLength C0 hK hP (kv_w (by decide) (by decide) ho hi) kq_73 dX7_takeFree_42 ?_
      refine lv_if_le (tgt := 53) hx hb dX7_takeFree_45 (by decide) (fun hc => ?_) (fun hc => ?_)
      · have hq := hq.1 hc
        exact kr_vret C0 hK hP hS hq dX7_takeFree_53
      · have hq := hq.2 hc
        refine lv_aload_n hx hb dX7_takeFree_48 rfl (lv_at hl 0 rfl) ?_
        refine lv_iconst (v := 1) hx hb dX7_takeFree_49 (by decide) ?_
        refine kp_X7_ended C0 hK hI hP hS (kv_w (by decide) (by decide) ho hi) (by decide) kq_76 dX7_takeFree_50 (fun H locs hP hS => ?_)
        obtain ⟨σ3, eσ3⟩ : ∃ z : ka_S, z = ka_wI σ (5, o, i) 6 (1 : Int32) := ⟨_, rfl⟩
        rw [← eσ3] at hP
        have hq := hq σ3 eσ3
        exact kr_vret C0 hK hP hS hq dX7_takeFree_53
    · have hq := hq.2 hc
      refine lv_aload_n hx hb dX7_takeFree_23 rfl (lv_at hl 0 rfl) ?_
      refine kg_X7_free C0 hK hP (kv_w (by decide) (by decide) ho hi) kq_68 dX7_takeFree_24 ?_
      refine lv_iload_n hx hb dX7_takeFree_27 rfl (lv_at hl 2 rfl) ?_
      refine lv_aload_n hx hb dX7_takeFree_28 rfl (lv_at hl 1 rfl) ?_
      refine kg_X6_codes C0 hK hP (kv_s (by decide) (by decide)) kq_33 dX7_takeFree_29 ?_
      refine lv_iload_n hx hb dX7_takeFree_32 rfl (lv_at hl 2 rfl) ?_
      obtain ⟨b4, hq⟩ := hq
      refine kr_iald C0 hK hP (kv_s (by decide) (by decide)) rfl b4 dX7_takeFree_33 ?_
      obtain ⟨b5, hq⟩ := hq
      refine kr_iast C0 hK hI hP hS (kv_w (by decide) (by decide) ho hi) (fun _ => rfl) b5 dX7_takeFree_34 (fun H locs hP hS => ?_)
      obtain ⟨σ6, eσ6⟩ : ∃ z : ka_S, z = ka_wI σ (9, o, i) v2.toNatClampNeg (σ.1 (11, 0, 0) v2.toNatClampNeg) := ⟨_, rfl⟩
      rw [← eσ6] at hP
      have hq := hq σ6 eσ6
      obtain ⟨x7, ex7⟩ : ∃ y : Int32, y = v2 + (1 : Int32) := ⟨_, rfl⟩
      have hq := hq x7 ex7
      refine lv_iinc (v := x7) (lv' := [(2, .int x7), (0, .ref (ka_a G (5, o, i))), (1, .ref (ka_a G (10, 0, 0)))]) hx hb dX7_takeFree_35 hl (k := 2) rfl (by rw [ex7]; rfl) (by decide) rfl (fun ls hl => ?_)
      refine lv_goto (tgt := 15) hx hb dX7_takeFree_38 (by decide) ?_
      exact ih σ6 x7 hq H locs hP hS ls (lv_sub hl [1, 2, 0] rfl)
set_option maxHeartbeats 4000000 in
set_option maxRecDepth 100000 in
theorem km_X7_takeFree (l : Launch) {G : ka_G} (hI : ka_I G) {o : Nat} {i : Nat} (ho : o < 19) (hi : i < 12) {σ : ka_S} {Q : ka_S → Prop} (hq : kw_X7_takeFree σ o i Q) : kc_v l yX7_takeFree (kw_ yX7_takeFree cX7_takeFree 3 none) rm_X7_takeFree G [.ref (ka_a G (5, o, i)), .ref (ka_a G (10, 0, 0))] σ Q := by
  refine ka_of "GlossRows$Word" rfl (by decide) (Nat.le_of_ble_eq_true rfl) ?_
  intro p e s m below meth c C0 hK H locs hP hS ls hl
  obtain ⟨hx, hb, -, hml, hown, hts, -⟩ := id C0
  have hl : lv_has ls 3 [(0, .ref (ka_a G (5, o, i))), (1, .ref (ka_a G (10, 0, 0)))] := hl
  unfold kw_X7_takeFree at hq
  refine lv_aload_n hx hb dX7_takeFree_0 rfl (lv_at hl 0 rfl) ?_
  refine lv_aload_n hx hb dX7_takeFree_1 rfl (lv_at hl 1 rfl) ?_
  refine kg_X6_length C0 hK hP (kv_s (by decide) (by decide)) kq_37 dX7_takeFree_2 ?_
  refine lv_bipush (v := 24) hx hb dX7_takeFree_5 (by decide) ?_
  refine kr_min C0 hl kq_904 ⟨Nat.le_of_ble_eq_true rfl, Nat.le_of_ble_eq_true rfl⟩ ⟨Nat.zero_le _, Nat.zero_le _⟩ dX7_takeFree_7 ?_
  refine kp_X7_freeLength C0 hK hI hP hS (kv_w (by decide) (by decide) ho hi) kq_73 dX7_takeFree_10 (fun H locs hP hS => ?_)
  obtain ⟨σ1, eσ1⟩ : ∃ z : ka_S, z = ka_wI σ (5, o, i) 5 (if (24 : Int32) < (σ.1 (10, 0, 0) 1) then (24 : Int32) else (σ.1 (10, 0, 0) 1)) := ⟨_, rfl⟩
  rw [← eσ1] at hP
  have hq := hq σ1 eσ1
  refine lv_iconst (v := 0) hx hb dX7_takeFree_13 (by decide) ?_
  refine lv_istore_n (lv' := [(2, .int (0 : Int32)), (0, .ref (ka_a G (5, o, i))), (1, .ref (ka_a G (10, 0, 0)))]) hx hb dX7_takeFree_14 rfl hl (by decide) rfl (fun ls hl => ?_)
  obtain ⟨n2, hq⟩ := hq
  exact kb_X7_takeFree_15 hI ho hi C0 hK n2 σ1 (0 : Int32) hq H locs hP hS ls (lv_sub hl [1, 2, 0] rfl)
/-! GlossRows$Word.countGaps()I -/
def rm_X7_countGaps : Room := { frames := 0, cells := 0, slots := 0, locals := 0 }
def kw_X7_countGaps_4 (o : Nat) (i : Nat) (Q : Int32 → ka_S → Prop) : Nat → ka_S → Int32 → Int32 → Prop
  | 0, _, _, _ => False
  | n + 1, σ, v1, v2 => ((σ.1 (5, o, i) 4) ≤ v2 → Q v1 σ) ∧
    (¬ (σ.1 (5, o, i) 4) ≤ v2 → vp_in v2 4 ∧
      ((σ.2 (7, o, i) v2.toNatClampNeg) = (0 : Int64) → ∀ x4 : Int32, x4 = v1 + (1 : Int32) →
        ∀ x5 : Int32, x5 = v2 + (1 : Int32) →
        (kw_X7_countGaps_4 o i Q n) σ x4 x5) ∧
      (¬ (σ.2 (7, o, i) v2.toNatClampNeg) = (0 : Int64) → ∀ x3 : Int32, x3 = v2 + (1 : Int32) →
        (kw_X7_countGaps_4 o i Q n) σ v1 x3))
def kw_X7_countGaps (σ : ka_S) (o : Nat) (i : Nat) (Q : Int32 → ka_S → Prop) : Prop := ∃ n1 : Nat, kw_X7_countGaps_4 o i Q n1 σ (0 : Int32) (0 : Int32)
set_option maxHeartbeats 4000000 in
set_option maxRecDepth 100000 in
theorem kb_X7_countGaps_4 {p : Program} {l : Launch} {e : Env} {s : State} {m : MethodId} {args : Array Value} {below : List Frame} {meth : Method} {c : Code} {G : ka_G} (hI : ka_I G) {o : Nat} {i : Nat} (ho : o < 19) (hi : i < 12) (C0 : ka_C p s m args meth c cX7_countGaps 3 "GlossRows$Word" (some .int)) (hK : ka_Kn G s) {Q : Int32 → ka_S → Prop} : ∀ (n : Nat) (σ : ka_S) (v1 : Int32) (v2 : Int32), kw_X7_countGaps_4 o i Q n σ v1 v2 → ∀ (H : Heap) (locs : List Loc), ka_P G σ H → va_S (ka_A G) s.heap H locs → ∀ ls : Array Slot, lv_has ls 3 [(0, .ref (ka_a G (5, o, i))), (1, .int v1), (2, .int v2)] → W p l e rm_X7_countGaps s m args below meth c H locs 0 0 (MQ below (va_Qi Q (ka_B G) (ka_A G)) args s 0 0 (ka_A G)) (F0 m 4 ls []) := by
  obtain ⟨hx, hb, -, hml, hown, hts, -⟩ := id C0
  intro n
  induction n with
  | zero =>
    intro σ v1 v2 hq
    rw [kw_X7_countGaps_4] at hq
    exact hq.elim
  | succ n ih =>
    intro σ v1 v2 hq H locs hP hS ls hl
    rw [kw_X7_countGaps_4] at hq
    refine lv_iload_n hx hb dX7_countGaps_4 rfl (lv_at hl 2 rfl) ?_
    refine lv_aload_n hx hb dX7_countGaps_5 rfl (lv_at hl 0 rfl) ?_
    refine kg_X7_size C0 hK hP (kv_w (by decide) (by decide) ho hi) kq_69 dX7_countGaps_6 ?_
    refine lv_icmp_ge (tgt := 32) hx hb dX7_countGaps_9 (by decide) (fun hc => ?_) (fun hc => ?_)
    · have hq := hq.1 hc
      refine lv_iload_n hx hb dX7_countGaps_32 rfl (lv_at hl 1 rfl) ?_
      exact kr_iret C0 hK hP hS hq dX7_countGaps_33
    · have hq := hq.2 hc
      refine lv_aload_n hx hb dX7_countGaps_12 rfl (lv_at hl 0 rfl) ?_
      refine kg_X7_glosses C0 hK hP (kv_w (by decide) (by decide) ho hi) kq_61 dX7_countGaps_13 ?_
      refine lv_iload_n hx hb dX7_countGaps_16 rfl (lv_at hl 2 rfl) ?_
      obtain ⟨b2, hq⟩ := hq
      refine kr_lald C0 hK hP (kv_w (by decide) (by decide) ho hi) rfl b2 dX7_countGaps_17 ?_
      refine lv_lconst (v := 0) hx hb dX7_countGaps_18 (by decide) ?_
      refine kr_cne (tgt := 26) C0 dX7_countGaps_19 dX7_countGaps_20 (by decide) (fun hc => ?_) (fun hc => ?_)
      · have hq := hq.2 hc
        obtain ⟨x3, ex3⟩ : ∃ y : Int32, y = v2 + (1 : Int32) := ⟨_, rfl⟩
        have hq := hq x3 ex3
        refine lv_iinc (v := x3) (lv' := [(2, .int x3), (0, .ref (ka_a G (5, o, i))), (1, .int v1)]) hx hb dX7_countGaps_26 hl (k := 2) rfl (by rw [ex3]; rfl) (by decide) rfl (fun ls hl => ?_)
        refine lv_goto (tgt := 4) hx hb dX7_countGaps_29 (by decide) ?_
        exact ih σ v1 x3 hq H locs hP hS ls (lv_sub hl [1, 2, 0] rfl)
      · have hq := hq.1 hc
        obtain ⟨x4, ex4⟩ : ∃ y : Int32, y = v1 + (1 : Int32) := ⟨_, rfl⟩
        have hq := hq x4 ex4
        refine lv_iinc (v := x4) (lv' := [(1, .int x4), (0, .ref (ka_a G (5, o, i))), (2, .int v2)]) hx hb dX7_countGaps_23 hl (k := 1) rfl (by rw [ex4]; rfl) (by decide) rfl (fun ls hl => ?_)
        obtain ⟨x5, ex5⟩ : ∃ y : Int32, y = v2 + (1 : Int32) := ⟨_, rfl⟩
        have hq := hq x5 ex5
        refine lv_iinc (v := x5) (lv' := [(2, .int x5), (1, .int x4), (0, .ref (ka_a G (5, o, i)))]) hx hb dX7_countGaps_26 hl (k := 2) rfl (by rw [ex5]; rfl) (by decide) rfl (fun ls hl => ?_)
        refine lv_goto (tgt := 4) hx hb dX7_countGaps_29 (by decide) ?_
        exact ih σ x4 x5 hq H locs hP hS ls (lv_sub hl [2, 1, 0] rfl)
set_option maxHeartbeats 4000000 in
set_option maxRecDepth 100000 in
theorem km_X7_countGaps (l : Launch) {G : ka_G} (hI : ka_I G) {o : Nat} {i : Nat} (ho : o < 19) (hi : i < 12) {σ : ka_S} {Q : Int32 → ka_S → Prop} (hq : kw_X7_countGaps σ o i Q) : kc_i l yX7_countGaps (kw_ yX7_countGaps cX7_countGaps 3 (some .int)) rm_X7_countGaps G [.ref (ka_a G (5, o, i))] σ Q := by
  refine ka_of "GlossRows$Word" rfl (by decide) (Nat.le_of_ble_eq_true rfl) ?_
  intro p e s m below meth c C0 hK H locs hP hS ls hl
  obtain ⟨hx, hb, -, hml, hown, hts, -⟩ := id C0
  have hl : lv_has ls 3 [(0, .ref (ka_a G (5, o, i)))] := hl
  unfold kw_X7_countGaps at hq
  refine lv_iconst (v := 0) hx hb dX7_countGaps_0 (by decide) ?_
  refine lv_istore_n (lv' := [(1, .int (0 : Int32)), (0, .ref (ka_a G (5, o, i)))]) hx hb dX7_countGaps_1 rfl hl (by decide) rfl (fun ls hl => ?_)
  refine lv_iconst (v := 0) hx hb dX7_countGaps_2 (by decide) ?_
  refine lv_istore_n (lv' := [(2, .int (0 : Int32)), (1, .int (0 : Int32)), (0, .ref (ka_a G (5, o, i)))]) hx hb dX7_countGaps_3 rfl hl (by decide) rfl (fun ls hl => ?_)
  obtain ⟨n1, hq⟩ := hq
  exact kb_X7_countGaps_4 hI ho hi C0 hK n1 σ (0 : Int32) (0 : Int32) hq H locs hP hS ls (lv_sub hl [2, 1, 0] rfl)
/-! GlossRows$Word.shownGloss(I)J -/
def rm_X7_shownGloss : Room := { frames := 2, cells := 0, slots := 0, locals := 44 }
def kw_X7_shownGloss (σ : ka_S) (o : Nat) (i : Nat) (v1 : Int32) (Q : Int64 → ka_S → Prop) : Prop := vp_in v1 4 ∧
  ((σ.2 (7, o, i) v1.toNatClampNeg) = (0 : Int64) → kw_X2_with σ (0 : Int64) (42 : Int32) (fun r4 σ3 => 
    Q r4 σ3)) ∧
  (¬ (σ.2 (7, o, i) v1.toNatClampNeg) = (0 : Int64) → vp_in v1 4 ∧
    Q (σ.2 (7, o, i) v1.toNatClampNeg) σ)
set_option maxHeartbeats 4000000 in
set_option maxRecDepth 100000 in
theorem km_X7_shownGloss (l : Launch) {G : ka_G} (hI : ka_I G) {o : Nat} {i : Nat} (ho : o < 19) (hi : i < 12) {σ : ka_S} {v1 : Int32} {Q : Int64 → ka_S → Prop} (hq : kw_X7_shownGloss σ o i v1 Q) : kc_l l yX7_shownGloss (kw_ yX7_shownGloss cX7_shownGloss 2 (some .long)) rm_X7_shownGloss G [.ref (ka_a G (5, o, i)), .int v1] σ Q := by
  refine ka_of "GlossRows$Word" rfl (by decide) (Nat.le_of_ble_eq_true rfl) ?_
  intro p e s m below meth c C0 hK H locs hP hS ls hl
  obtain ⟨hx, hb, -, hml, hown, hts, -⟩ := id C0
  have hl : lv_has ls 2 [(0, .ref (ka_a G (5, o, i))), (1, .int v1)] := hl
  unfold kw_X7_shownGloss at hq
  refine lv_aload_n hx hb dX7_shownGloss_0 rfl (lv_at hl 0 rfl) ?_
  refine kg_X7_glosses C0 hK hP (kv_w (by decide) (by decide) ho hi) kq_61 dX7_shownGloss_1 ?_
  refine lv_iload_n hx hb dX7_shownGloss_4 rfl (lv_at hl 1 rfl) ?_
  obtain ⟨b1, hq⟩ := hq
  refine kr_lald C0 hK hP (kv_w (by decide) (by decide) ho hi) rfl b1 dX7_shownGloss_5 ?_
  refine lv_lconst (v := 0) hx hb dX7_shownGloss_6 (by decide) ?_
  refine kr_cne (tgt := 20) C0 dX7_shownGloss_7 dX7_shownGloss_8 (by decide) (fun hc => ?_) (fun hc => ?_)
  · have hq := hq.2 hc
    refine lv_aload_n hx hb dX7_shownGloss_20 rfl (lv_at hl 0 rfl) ?_
    refine kg_X7_glosses C0 hK hP (kv_w (by decide) (by decide) ho hi) kq_61 dX7_shownGloss_21 ?_
    refine lv_iload_n hx hb dX7_shownGloss_24 rfl (lv_at hl 1 rfl) ?_
    obtain ⟨b2, hq⟩ := hq
    refine kr_lald C0 hK hP (kv_w (by decide) (by decide) ho hi) rfl b2 dX7_shownGloss_25 ?_
    exact kr_lret C0 hK hP hS hq dX7_shownGloss_26
  · have hq := hq.1 hc
    refine lv_lconst (v := 0) hx hb dX7_shownGloss_11 (by decide) ?_
    refine lv_bipush (v := 42) hx hb dX7_shownGloss_12 (by decide) ?_
    refine kr_Sl (As := [.long (0 : Int64), .int (42 : Int32)]) (rest := []) C0 hK hP hS hl (km_X2_with l hI hq) kd_X2_with kq_519 ⟨rfl, rfl, Nat.le_of_ble_eq_true rfl, Nat.le_of_ble_eq_true rfl⟩ rfl (Nat.le_of_ble_eq_true rfl) dX7_shownGloss_14 ⟨Nat.zero_le _, Nat.zero_le _⟩ (fun r4 σ3 H locs hq hP hS => ?_)
    refine lv_goto (tgt := 26) hx hb dX7_shownGloss_17 (by decide) ?_
    exact kr_lret C0 hK hP hS hq dX7_shownGloss_26
/-! GlossRows$Word.width(I)I -/
def rm_X7_width : Room := { frames := 3, cells := 0, slots := 0, locals := 65 }
def kw_X7_width_10 (o : Nat) (i : Nat) (Q : Int32 → ka_S → Prop) : Nat → ka_S → Int32 → Int32 → Int32 → Int32 → Int32 → Prop
  | 0, _, _, _, _, _, _ => False
  | n + 1, σ, v1, v2, v3, v4, v5 => ((σ.1 (5, o, i) 4) ≤ v5 → (v1 = (1 : Int32) → Q (((σ.1 (5, o, i) 4) - (1 : Int32)) + v4) σ) ∧
      (¬ v1 = (1 : Int32) → Q (((σ.1 (5, o, i) 4) - (1 : Int32)) + (if v2 < v3 then v3 else v2)) σ)) ∧
    (¬ (σ.1 (5, o, i) 4) ≤ v5 → vp_in v5 4 ∧
      kw_X2_length σ (σ.2 (6, o, i) v5.toNatClampNeg) (fun r4 σ3 => 
      kw_X7_shownGloss σ3 o i v5 (fun r6 σ5 => 
      kw_X2_length σ5 r6 (fun r8 σ7 => 
      ∀ x9 : Int32, x9 = (v2 + r4) → 
      ∀ x10 : Int32, x10 = (v3 + r8) → 
      ∀ x11 : Int32, x11 = (v4 + (if r4 < r8 then r8 else r4)) → 
      ∀ x12 : Int32, x12 = v5 + (1 : Int32) →
      (kw_X7_width_10 o i Q n) σ7 v1 x9 x10 x11 x12))))
def kw_X7_width (σ : ka_S) (o : Nat) (i : Nat) (v1 : Int32) (Q : Int32 → ka_S → Prop) : Prop := ∃ n1 : Nat, kw_X7_width_10 o i Q n1 σ v1 (0 : Int32) (0 : Int32) (0 : Int32) (0 : Int32)
set_option maxHeartbeats 4000000 in
set_option maxRecDepth 100000 in
theorem kb_X7_width_10 {p : Program} {l : Launch} {e : Env} {s : State} {m : MethodId} {args : Array Value} {below : List Frame} {meth : Method} {c : Code} {G : ka_G} (hI : ka_I G) {o : Nat} {i : Nat} (ho : o < 19) (hi : i < 12) (C0 : ka_C p s m args meth c cX7_width 8 "GlossRows$Word" (some .int)) (hK : ka_Kn G s) {Q : Int32 → ka_S → Prop} : ∀ (n : Nat) (σ : ka_S) (v1 : Int32) (v2 : Int32) (v3 : Int32) (v4 : Int32) (v5 : Int32), kw_X7_width_10 o i Q n σ v1 v2 v3 v4 v5 → ∀ (H : Heap) (locs : List Loc), ka_P G σ H → va_S (ka_A G) s.heap H locs → ∀ ls : Array Slot, lv_has ls 8 [(0, .ref (ka_a G (5, o, i))), (1, .int v1), (2, .int v2), (3, .int v3), (4, .int v4), (5, .int v5)] → W p l e rm_X7_width s m args below meth c H locs 0 0 (MQ below (va_Qi Q (ka_B G) (ka_A G)) args s 0 0 (ka_A G)) (F0 m 10 ls []) := by
  obtain ⟨hx, hb, -, hml, hown, hts, -⟩ := id C0
  intro n
  induction n with
  | zero =>
    intro σ v1 v2 v3 v4 v5 hq
    rw [kw_X7_width_10] at hq
    exact hq.elim
  | succ n ih =>
    intro σ v1 v2 v3 v4 v5 hq H locs hP hS ls hl
    rw [kw_X7_width_10] at hq
    refine lv_iload hx hb dX7_width_10 (lv_at hl 5 rfl) ?_
    refine lv_aload_n hx hb dX7_width_12 rfl (lv_at hl 0 rfl) ?_
    refine kg_X7_size C0 hK hP (kv_w (by decide) (by decide) ho hi) kq_69 dX7_width_13 ?_
    refine lv_icmp_ge (tgt := 70) hx hb dX7_width_16 (by decide) (fun hc => ?_) (fun hc => ?_)
    · have hq := hq.1 hc
      refine lv_aload_n hx hb dX7_width_70 rfl (lv_at hl 0 rfl) ?_
      refine kg_X7_size C0 hK hP (kv_w (by decide) (by decide) ho hi) kq_69 dX7_width_71 ?_
      refine lv_iconst (v := 1) hx hb dX7_width_74 (by decide) ?_
      refine lv_isub hx hb dX7_width_75 ?_
      refine lv_iload_n hx hb dX7_width_76 rfl (lv_at hl 1 rfl) ?_
      refine lv_iconst (v := 1) hx hb dX7_width_77 (by decide) ?_
      refine lv_icmp_ne (tgt := 86) hx hb dX7_width_78 (by decide) (fun hc => ?_) (fun hc => ?_)
      · have hq := hq.2 hc
        refine lv_iload_n hx hb dX7_width_86 rfl (lv_at hl 2 rfl) ?_
        refine lv_iload_n hx hb dX7_width_87 rfl (lv_at hl 3 rfl) ?_
        refine kr_max C0 hl kq_520 ⟨Nat.le_of_ble_eq_true rfl, Nat.le_of_ble_eq_true rfl⟩ ⟨Nat.zero_le _, Nat.zero_le _⟩ dX7_width_88 ?_
        refine lv_iadd hx hb dX7_width_91 ?_
        exact kr_iret C0 hK hP hS hq dX7_width_92
      · have hq := hq.1 hc
        refine lv_iload hx hb dX7_width_81 (lv_at hl 4 rfl) ?_
        refine lv_goto (tgt := 91) hx hb dX7_width_83 (by decide) ?_
        refine lv_iadd hx hb dX7_width_91 ?_
        exact kr_iret C0 hK hP hS hq dX7_width_92
    · have hq := hq.2 hc
      refine lv_aload_n hx hb dX7_width_19 rfl (lv_at hl 0 rfl) ?_
      refine kg_X7_parts C0 hK hP (kv_w (by decide) (by decide) ho hi) kq_57 dX7_width_20 ?_
      refine lv_iload hx hb dX7_width_23 (lv_at hl 5 rfl) ?_
      obtain ⟨b2, hq⟩ := hq
      refine kr_lald C0 hK hP (kv_w (by decide) (by decide) ho hi) rfl b2 dX7_width_25 ?_
      refine kr_Si (As := [.long (σ.2 (6, o, i) v5.toNatClampNeg)]) (rest := []) C0 hK hP hS hl (km_X2_length l hI hq) kd_X2_length kq_514 ⟨rfl, rfl, Nat.le_of_ble_eq_true rfl, Nat.le_of_ble_eq_true rfl⟩ rfl (Nat.le_of_ble_eq_true rfl) dX7_width_26 ⟨Nat.zero_le _, Nat.zero_le _⟩ (fun r4 σ3 H locs hq hP hS => ?_)
      refine lv_istore (lv' := [(6, .int r4), (0, .ref (ka_a G (5, o, i))), (1, .int v1), (2, .int v2), (3, .int v3), (4, .int v4), (5, .int v5)]) hx hb dX7_width_29 hl (by decide) rfl (fun ls hl => ?_)
      refine lv_aload_n hx hb dX7_width_31 rfl (lv_at hl 1 rfl) ?_
      refine lv_iload hx hb dX7_width_32 (lv_at hl 6 rfl) ?_
      refine kr_Vl (k := (5, o, i)) (As := [.int v5]) (rest := []) C0 hK hP hS hl (km_X7_shownGloss l hI ho hi hq) kd_X7_shownGloss kq_515 (kv_w (by decide) (by decide) ho hi) rfl rfl rfl ⟨rfl, rfl, Nat.le_of_ble_eq_true rfl, Nat.le_of_ble_eq_true rfl⟩ rfl (Nat.le_of_ble_eq_true rfl) dX7_width_34 ⟨Nat.zero_le _, Nat.zero_le _⟩ (fun r6 σ5 H locs hq hP hS => ?_)
      refine kr_Si (As := [.long r6]) (rest := []) C0 hK hP hS hl (km_X2_length l hI hq) kd_X2_length kq_514 ⟨rfl, rfl, Nat.le_of_ble_eq_true rfl, Nat.le_of_ble_eq_true rfl⟩ rfl (Nat.le_of_ble_eq_true rfl) dX7_width_37 ⟨Nat.zero_le _, Nat.zero_le _⟩ (fun r8 σ7 H locs hq hP hS => ?_)
      refine lv_istore (lv' := [(7, .int r8), (6, .int r4), (0, .ref (ka_a G (5, o, i))), (1, .int v1), (2, .int v2), (3, .int v3), (4, .int v4), (5, .int v5)]) hx hb dX7_width_40 hl (by decide) rfl (fun ls hl => ?_)
      refine lv_iload_n hx hb dX7_width_42 rfl (lv_at hl 4 rfl) ?_
      refine lv_iload hx hb dX7_width_43 (lv_at hl 1 rfl) ?_
      refine lv_iadd hx hb dX7_width_45 ?_
      refine lv_topi (fun x9 ex9 => ?_)
      have hq := hq x9 ex9
      refine lv_istore_n (lv' := [(2, .int x9), (7, .int r8), (6, .int r4), (0, .ref (ka_a G (5, o, i))), (1, .int v1), (3, .int v3), (4, .int v4), (5, .int v5)]) hx hb dX7_width_46 rfl hl (by decide) rfl (fun ls hl => ?_)
      refine lv_iload_n hx hb dX7_width_47 rfl (lv_at hl 5 rfl) ?_
      refine lv_iload hx hb dX7_width_48 (lv_at hl 1 rfl) ?_
      refine lv_iadd hx hb dX7_width_50 ?_
      refine lv_topi (fun x10 ex10 => ?_)
      have hq := hq x10 ex10
      refine lv_istore_n (lv' := [(3, .int x10), (2, .int x9), (7, .int r8), (6, .int r4), (0, .ref (ka_a G (5, o, i))), (1, .int v1), (4, .int v4), (5, .int v5)]) hx hb dX7_width_51 rfl hl (by decide) rfl (fun ls hl => ?_)
      refine lv_iload hx hb dX7_width_52 (lv_at hl 6 rfl) ?_
      refine lv_iload hx hb dX7_width_54 (lv_at hl 3 rfl) ?_
      refine lv_iload hx hb dX7_width_56 (lv_at hl 2 rfl) ?_
      refine kr_max C0 hl kq_520 ⟨Nat.le_of_ble_eq_true rfl, Nat.le_of_ble_eq_true rfl⟩ ⟨Nat.zero_le _, Nat.zero_le _⟩ dX7_width_58 ?_
      refine lv_iadd hx hb dX7_width_61 ?_
      refine lv_topi (fun x11 ex11 => ?_)
      have hq := hq x11 ex11
      refine lv_istore (lv' := [(4, .int x11), (3, .int x10), (2, .int x9), (7, .int r8), (6, .int r4), (0, .ref (ka_a G (5, o, i))), (1, .int v1), (5, .int v5)]) hx hb dX7_width_62 hl (by decide) rfl (fun ls hl => ?_)
      obtain ⟨x12, ex12⟩ : ∃ y : Int32, y = v5 + (1 : Int32) := ⟨_, rfl⟩
      have hq := hq x12 ex12
      refine lv_iinc (v := x12) (lv' := [(5, .int x12), (4, .int x11), (3, .int x10), (2, .int x9), (7, .int r8), (6, .int r4), (0, .ref (ka_a G (5, o, i))), (1, .int v1)]) hx hb dX7_width_64 hl (k := 7) rfl (by rw [ex12]; rfl) (by decide) rfl (fun ls hl => ?_)
      refine lv_goto (tgt := 10) hx hb dX7_width_67 (by decide) ?_
      exact ih σ7 v1 x9 x10 x11 x12 hq H locs hP hS ls (lv_sub hl [6, 7, 3, 2, 1, 0] rfl)
set_option maxHeartbeats 4000000 in
set_option maxRecDepth 100000 in
theorem km_X7_width (l : Launch) {G : ka_G} (hI : ka_I G) {o : Nat} {i : Nat} (ho : o < 19) (hi : i < 12) {σ : ka_S} {v1 : Int32} {Q : Int32 → ka_S → Prop} (hq : kw_X7_width σ o i v1 Q) : kc_i l yX7_width (kw_ yX7_width cX7_width 8 (some .int)) rm_X7_width G [.ref (ka_a G (5, o, i)), .int v1] σ Q := by
  refine ka_of "GlossRows$Word" rfl (by decide) (Nat.le_of_ble_eq_true rfl) ?_
  intro p e s m below meth c C0 hK H locs hP hS ls hl
  obtain ⟨hx, hb, -, hml, hown, hts, -⟩ := id C0
  have hl : lv_has ls 8 [(0, .ref (ka_a G (5, o, i))), (1, .int v1)] := hl
  unfold kw_X7_width at hq
  refine lv_iconst (v := 0) hx hb dX7_width_0 (by decide) ?_
  refine lv_istore_n (lv' := [(2, .int (0 : Int32)), (0, .ref (ka_a G (5, o, i))), (1, .int v1)]) hx hb dX7_width_1 rfl hl (by decide) rfl (fun ls hl => ?_)
  refine lv_iconst (v := 0) hx hb dX7_width_2 (by decide) ?_
  refine lv_istore_n (lv' := [(3, .int (0 : Int32)), (2, .int (0 : Int32)), (0, .ref (ka_a G (5, o, i))), (1, .int v1)]) hx hb dX7_width_3 rfl hl (by decide) rfl (fun ls hl => ?_)
  refine lv_iconst (v := 0) hx hb dX7_width_4 (by decide) ?_
  refine lv_istore (lv' := [(4, .int (0 : Int32)), (3, .int (0 : Int32)), (2, .int (0 : Int32)), (0, .ref (ka_a G (5, o, i))), (1, .int v1)]) hx hb dX7_width_5 hl (by decide) rfl (fun ls hl => ?_)
  refine lv_iconst (v := 0) hx hb dX7_width_7 (by decide) ?_
  refine lv_istore (lv' := [(5, .int (0 : Int32)), (4, .int (0 : Int32)), (3, .int (0 : Int32)), (2, .int (0 : Int32)), (0, .ref (ka_a G (5, o, i))), (1, .int v1)]) hx hb dX7_width_8 hl (by decide) rfl (fun ls hl => ?_)
  obtain ⟨n1, hq⟩ := hq
  exact kb_X7_width_10 hI ho hi C0 hK n1 σ v1 (0 : Int32) (0 : Int32) (0 : Int32) (0 : Int32) hq H locs hP hS ls (lv_sub hl [4, 5, 3, 2, 1, 0] rfl)
/-! GlossRows$Word.codeShown(III)I -/
def rm_X7_codeShown : Room := { frames := 3, cells := 0, slots := 0, locals := 65 }
def kw_X7_codeShown_73 (o : Nat) (i : Nat) (K6 : ka_S → Int32 → Int32 → Int32 → Int32 → Prop) (Q : Int32 → ka_S → Prop) (σ : ka_S) (v1 : Int32) (v2 : Int32) (v4 : Int32) (v5 : Int32) (v6 : Int64) (v8 : Int32) : Prop := (v8 ≤ v4 → (v4 = v8 → ((σ.1 (5, o, i) 4) ≤ (v5 + (1 : Int32)) → Q (32 : Int32) σ) ∧
      (¬ (σ.1 (5, o, i) 4) ≤ (v5 + (1 : Int32)) → vp_in (v5 + (1 : Int32)) 4 ∧
        Q (σ.1 (8, o, i) (v5 + (1 : Int32)).toNatClampNeg) σ)) ∧
    (¬ v4 = v8 → ∀ x15 : Int32, x15 = (v4 - (v8 + (1 : Int32))) → 
      ∀ x16 : Int32, x16 = v5 + (1 : Int32) →
      K6 σ v1 v2 x15 x16)) ∧
  (¬ v8 ≤ v4 → kw_X2_length σ v6 (fun r19 σ18 => 
    (r19 ≤ v4 → Q (32 : Int32) σ18) ∧
    (¬ r19 ≤ v4 → kw_X2_code σ18 v6 v4 (fun r21 σ20 => 
      Q r21 σ20))))
def kw_X7_codeShown_35 (o : Nat) (i : Nat) (K6 : ka_S → Int32 → Int32 → Int32 → Int32 → Prop) (Q : Int32 → ka_S → Prop) (σ : ka_S) (v1 : Int32) (v2 : Int32) (v4 : Int32) (v5 : Int32) (t0 : Int64) : Prop := kw_X2_length σ t0 (fun r6 σ5 => 
  (v2 = (1 : Int32) → vp_in v5 4 ∧
    kw_X2_length σ5 (σ5.2 (6, o, i) v5.toNatClampNeg) (fun r9 σ8 => 
    kw_X7_shownGloss σ8 o i v5 (fun r11 σ10 => 
    kw_X2_length σ10 r11 (fun r13 σ12 => 
    ∀ x14 : Int32, x14 = (if r9 < r13 then r13 else r9) → 
    kw_X7_codeShown_73 o i K6 Q σ12 v1 v2 v4 v5 t0 x14)))) ∧
  (¬ v2 = (1 : Int32) → kw_X7_codeShown_73 o i K6 Q σ5 v1 v2 v4 v5 t0 r6))
def kw_X7_codeShown_6 (o : Nat) (i : Nat) (Q : Int32 → ka_S → Prop) : Nat → ka_S → Int32 → Int32 → Int32 → Int32 → Prop
  | 0, _, _, _, _, _ => False
  | n + 1, σ, v1, v2, v4, v5 => ((σ.1 (5, o, i) 4) ≤ v5 → Q (32 : Int32) σ) ∧
    (¬ (σ.1 (5, o, i) 4) ≤ v5 → (v1 = (0 : Int32) → vp_in v5 4 ∧
        kw_X7_codeShown_35 o i (kw_X7_codeShown_6 o i Q n) Q σ v1 v2 v4 v5 (σ.2 (6, o, i) v5.toNatClampNeg)) ∧
      (¬ v1 = (0 : Int32) → kw_X7_shownGloss σ o i v5 (fun r3 σ2 => 
        kw_X7_codeShown_35 o i (kw_X7_codeShown_6 o i Q n) Q σ2 v1 v2 v4 v5 r3)))
def kw_X7_codeShown (σ : ka_S) (o : Nat) (i : Nat) (v1 : Int32) (v2 : Int32) (v3 : Int32) (Q : Int32 → ka_S → Prop) : Prop := ∃ n1 : Nat, kw_X7_codeShown_6 o i Q n1 σ v1 v2 v3 (0 : Int32)
set_option maxHeartbeats 4000000 in
set_option maxRecDepth 100000 in
theorem kb_X7_codeShown_73 {p : Program} {l : Launch} {e : Env} {s : State} {m : MethodId} {args : Array Value} {below : List Frame} {meth : Method} {c : Code} {G : ka_G} (hI : ka_I G) {o : Nat} {i : Nat} (ho : o < 19) (hi : i < 12) (C0 : ka_C p s m args meth c cX7_codeShown 9 "GlossRows$Word" (some .int)) (hK : ka_Kn G s) {Q : Int32 → ka_S → Prop} {K6 : ka_S → Int32 → Int32 → Int32 → Int32 → Prop} (hk6 : ∀ (σ : ka_S) (v1 : Int32) (v2 : Int32) (v4 : Int32) (v5 : Int32), K6 σ v1 v2 v4 v5 → ∀ (H : Heap) (locs : List Loc), ka_P G σ H → va_S (ka_A G) s.heap H locs → ∀ ls : Array Slot, lv_has ls 9 [(0, .ref (ka_a G (5, o, i))), (1, .int v1), (2, .int v2), (4, .int v4), (5, .int v5)] → W p l e rm_X7_codeShown s m args below meth c H locs 0 0 (MQ below (va_Qi Q (ka_B G) (ka_A G)) args s 0 0 (ka_A G)) (F0 m 6 ls [])) : ∀ (σ : ka_S) (v1 : Int32) (v2 : Int32) (v4 : Int32) (v5 : Int32) (v6 : Int64) (v8 : Int32), kw_X7_codeShown_73 o i K6 Q σ v1 v2 v4 v5 v6 v8 → ∀ (H : Heap) (locs : List Loc), ka_P G σ H → va_S (ka_A G) s.heap H locs → ∀ ls : Array Slot, lv_has ls 9 [(0, .ref (ka_a G (5, o, i))), (1, .int v1), (2, .int v2), (4, .int v4), (5, .int v5), (6, .long v6), (8, .int v8)] → W p l e rm_X7_codeShown s m args below meth c H locs 0 0 (MQ below (va_Qi Q (ka_B G) (ka_A G)) args s 0 0 (ka_A G)) (F0 m 73 ls []) := by
  obtain ⟨hx, hb, -, hml, hown, hts, -⟩ := id C0
  intro σ v1 v2 v4 v5 v6 v8 hq H locs hP hS ls hl
  unfold kw_X7_codeShown_73 at hq
  refine lv_iload hx hb dX7_codeShown_73 (lv_at hl 3 rfl) ?_
  refine lv_iload hx hb dX7_codeShown_75 (lv_at hl 6 rfl) ?_
  refine lv_icmp_ge (tgt := 103) hx hb dX7_codeShown_77 (by decide) (fun hc => ?_) (fun hc => ?_)
  · have hq := hq.1 hc
    refine lv_iload hx hb dX7_codeShown_103 (lv_at hl 3 rfl) ?_
    refine lv_iload hx hb dX7_codeShown_105 (lv_at hl 6 rfl) ?_
    refine lv_icmp_ne (tgt := 136) hx hb dX7_codeShown_107 (by decide) (fun hc => ?_) (fun hc => ?_)
    · have hq := hq.2 hc
      refine lv_iload hx hb dX7_codeShown_136 (lv_at hl 3 rfl) ?_
      refine lv_iload hx hb dX7_codeShown_138 (lv_at hl 6 rfl) ?_
      refine lv_iconst (v := 1) hx hb dX7_codeShown_140 (by decide) ?_
      refine lv_iadd hx hb dX7_codeShown_141 ?_
      refine lv_isub hx hb dX7_codeShown_142 ?_
      refine lv_topi (fun x15 ex15 => ?_)
      have hq := hq x15 ex15
      refine lv_istore (lv' := [(4, .int x15), (0, .ref (ka_a G (5, o, i))), (1, .int v1), (2, .int v2), (5, .int v5), (6, .long v6), (8, .int v8)]) hx hb dX7_codeShown_143 hl (by decide) rfl (fun ls hl => ?_)
      obtain ⟨x16, ex16⟩ : ∃ y : Int32, y = v5 + (1 : Int32) := ⟨_, rfl⟩
      have hq := hq x16 ex16
      refine lv_iinc (v := x16) (lv' := [(5, .int x16), (4, .int x15), (0, .ref (ka_a G (5, o, i))), (1, .int v1), (2, .int v2), (6, .long v6), (8, .int v8)]) hx hb dX7_codeShown_145 hl (k := 4) rfl (by rw [ex16]; rfl) (by decide) rfl (fun ls hl => ?_)
      refine lv_goto (tgt := 6) hx hb dX7_codeShown_148 (by decide) ?_
      exact hk6 σ v1 v2 x15 x16 hq H locs hP hS ls (lv_sub hl [2, 3, 4, 1, 0] rfl)
    · have hq := hq.1 hc
      refine lv_iload hx hb dX7_codeShown_110 (lv_at hl 4 rfl) ?_
      refine lv_iconst (v := 1) hx hb dX7_codeShown_112 (by decide) ?_
      refine lv_iadd hx hb dX7_codeShown_113 ?_
      refine lv_aload_n hx hb dX7_codeShown_114 rfl (lv_at hl 0 rfl) ?_
      refine kg_X7_size C0 hK hP (kv_w (by decide) (by decide) ho hi) kq_69 dX7_codeShown_115 ?_
      refine lv_icmp_ge (tgt := 133) hx hb dX7_codeShown_118 (by decide) (fun hc => ?_) (fun hc => ?_)
      · have hq := hq.1 hc
        refine lv_bipush (v := 32) hx hb dX7_codeShown_133 (by decide) ?_
        exact kr_iret C0 hK hP hS hq dX7_codeShown_135
      · have hq := hq.2 hc
        refine lv_aload_n hx hb dX7_codeShown_121 rfl (lv_at hl 0 rfl) ?_
        refine kg_X7_marks C0 hK hP (kv_w (by decide) (by decide) ho hi) kq_65 dX7_codeShown_122 ?_
        refine lv_iload hx hb dX7_codeShown_125 (lv_at hl 4 rfl) ?_
        refine lv_iconst (v := 1) hx hb dX7_codeShown_127 (by decide) ?_
        refine lv_iadd hx hb dX7_codeShown_128 ?_
        obtain ⟨b17, hq⟩ := hq
        refine kr_iald C0 hK hP (kv_w (by decide) (by decide) ho hi) rfl b17 dX7_codeShown_129 ?_
        refine lv_goto (tgt := 135) hx hb dX7_codeShown_130 (by decide) ?_
        exact kr_iret C0 hK hP hS hq dX7_codeShown_135
  · have hq := hq.2 hc
    refine lv_iload hx hb dX7_codeShown_80 (lv_at hl 3 rfl) ?_
    refine lv_lload hx hb dX7_codeShown_82 (lv_at hl 5 rfl) ?_
    refine kr_Si (As := [.long v6]) (rest := [.int v4]) C0 hK hP hS hl (km_X2_length l hI hq) kd_X2_length kq_514 ⟨rfl, rfl, Nat.le_of_ble_eq_true rfl, Nat.le_of_ble_eq_true rfl⟩ rfl (Nat.le_of_ble_eq_true rfl) dX7_codeShown_84 ⟨Nat.zero_le _, Nat.zero_le _⟩ (fun r19 σ18 H locs hq hP hS => ?_)
    refine lv_icmp_ge (tgt := 100) hx hb dX7_codeShown_87 (by decide) (fun hc => ?_) (fun hc => ?_)
    · have hq := hq.1 hc
      refine lv_bipush (v := 32) hx hb dX7_codeShown_100 (by decide) ?_
      exact kr_iret C0 hK hP hS hq dX7_codeShown_102
    · have hq := hq.2 hc
      refine lv_lload hx hb dX7_codeShown_90 (lv_at hl 5 rfl) ?_
      refine lv_iload hx hb dX7_codeShown_92 (lv_at hl 3 rfl) ?_
      refine kr_Si (As := [.long v6, .int v4]) (rest := []) C0 hK hP hS hl (km_X2_code l hI hq) kd_X2_code kq_744 ⟨rfl, rfl, Nat.le_of_ble_eq_true rfl, Nat.le_of_ble_eq_true rfl⟩ rfl (Nat.le_of_ble_eq_true rfl) dX7_codeShown_94 ⟨Nat.zero_le _, Nat.zero_le _⟩ (fun r21 σ20 H locs hq hP hS => ?_)
      refine lv_goto (tgt := 102) hx hb dX7_codeShown_97 (by decide) ?_
      exact kr_iret C0 hK hP hS hq dX7_codeShown_102
set_option maxHeartbeats 4000000 in
set_option maxRecDepth 100000 in
theorem kb_X7_codeShown_35 {p : Program} {l : Launch} {e : Env} {s : State} {m : MethodId} {args : Array Value} {below : List Frame} {meth : Method} {c : Code} {G : ka_G} (hI : ka_I G) {o : Nat} {i : Nat} (ho : o < 19) (hi : i < 12) (C0 : ka_C p s m args meth c cX7_codeShown 9 "GlossRows$Word" (some .int)) (hK : ka_Kn G s) {Q : Int32 → ka_S → Prop} {K6 : ka_S → Int32 → Int32 → Int32 → Int32 → Prop} (hk6 : ∀ (σ : ka_S) (v1 : Int32) (v2 : Int32) (v4 : Int32) (v5 : Int32), K6 σ v1 v2 v4 v5 → ∀ (H : Heap) (locs : List Loc), ka_P G σ H → va_S (ka_A G) s.heap H locs → ∀ ls : Array Slot, lv_has ls 9 [(0, .ref (ka_a G (5, o, i))), (1, .int v1), (2, .int v2), (4, .int v4), (5, .int v5)] → W p l e rm_X7_codeShown s m args below meth c H locs 0 0 (MQ below (va_Qi Q (ka_B G) (ka_A G)) args s 0 0 (ka_A G)) (F0 m 6 ls [])) : ∀ (σ : ka_S) (v1 : Int32) (v2 : Int32) (v4 : Int32) (v5 : Int32) (t0 : Int64), kw_X7_codeShown_35 o i K6 Q σ v1 v2 v4 v5 t0 → ∀ (H : Heap) (locs : List Loc), ka_P G σ H → va_S (ka_A G) s.heap H locs → ∀ ls : Array Slot, lv_has ls 9 [(0, .ref (ka_a G (5, o, i))), (1, .int v1), (2, .int v2), (4, .int v4), (5, .int v5)] → W p l e rm_X7_codeShown s m args below meth c H locs 0 0 (MQ below (va_Qi Q (ka_B G) (ka_A G)) args s 0 0 (ka_A G)) (F0 m 35 ls [.long t0]) := by
  obtain ⟨hx, hb, -, hml, hown, hts, -⟩ := id C0
  intro σ v1 v2 v4 v5 t0 hq H locs hP hS ls hl
  unfold kw_X7_codeShown_35 at hq
  refine lv_lstore (lv' := [(6, .long t0), (0, .ref (ka_a G (5, o, i))), (1, .int v1), (2, .int v2), (4, .int v4), (5, .int v5)]) hx hb dX7_codeShown_35 hl (by decide) rfl (fun ls hl => ?_)
  refine lv_lload hx hb dX7_codeShown_37 (lv_at hl 0 rfl) ?_
  refine kr_Si (As := [.long t0]) (rest := []) C0 hK hP hS hl (km_X2_length l hI hq) kd_X2_length kq_514 ⟨rfl, rfl, Nat.le_of_ble_eq_true rfl, Nat.le_of_ble_eq_true rfl⟩ rfl (Nat.le_of_ble_eq_true rfl) dX7_codeShown_39 ⟨Nat.zero_le _, Nat.zero_le _⟩ (fun r6 σ5 H locs hq hP hS => ?_)
  refine lv_istore (lv' := [(8, .int r6), (6, .long t0), (0, .ref (ka_a G (5, o, i))), (1, .int v1), (2, .int v2), (4, .int v4), (5, .int v5)]) hx hb dX7_codeShown_42 hl (by decide) rfl (fun ls hl => ?_)
  refine lv_iload_n hx hb dX7_codeShown_44 rfl (lv_at hl 4 rfl) ?_
  refine lv_iconst (v := 1) hx hb dX7_codeShown_45 (by decide) ?_
  refine lv_icmp_ne (tgt := 73) hx hb dX7_codeShown_46 (by decide) (fun hc => ?_) (fun hc => ?_)
  · have hq := hq.2 hc
    exact kb_X7_codeShown_73 hI ho hi C0 hK hk6 σ5 v1 v2 v4 v5 t0 r6 hq H locs hP hS ls (lv_sub hl [2, 3, 4, 5, 6, 1, 0] rfl)
  · have hq := hq.1 hc
    refine lv_aload_n hx hb dX7_codeShown_49 rfl (lv_at hl 2 rfl) ?_
    refine kg_X7_parts C0 hK hP (kv_w (by decide) (by decide) ho hi) kq_57 dX7_codeShown_50 ?_
    refine lv_iload hx hb dX7_codeShown_53 (lv_at hl 6 rfl) ?_
    obtain ⟨b7, hq⟩ := hq
    refine kr_lald C0 hK hP (kv_w (by decide) (by decide) ho hi) rfl b7 dX7_codeShown_55 ?_
    refine kr_Si (As := [.long (σ5.2 (6, o, i) v5.toNatClampNeg)]) (rest := []) C0 hK hP hS hl (km_X2_length l hI hq) kd_X2_length kq_514 ⟨rfl, rfl, Nat.le_of_ble_eq_true rfl, Nat.le_of_ble_eq_true rfl⟩ rfl (Nat.le_of_ble_eq_true rfl) dX7_codeShown_56 ⟨Nat.zero_le _, Nat.zero_le _⟩ (fun r9 σ8 H locs hq hP hS => ?_)
    refine lv_aload_n hx hb dX7_codeShown_59 rfl (lv_at hl 2 rfl) ?_
    refine lv_iload hx hb dX7_codeShown_60 (lv_at hl 6 rfl) ?_
    refine kr_Vl (k := (5, o, i)) (As := [.int v5]) (rest := [.int r9]) C0 hK hP hS hl (km_X7_shownGloss l hI ho hi hq) kd_X7_shownGloss kq_515 (kv_w (by decide) (by decide) ho hi) rfl rfl rfl ⟨rfl, rfl, Nat.le_of_ble_eq_true rfl, Nat.le_of_ble_eq_true rfl⟩ rfl (Nat.le_of_ble_eq_true rfl) dX7_codeShown_62 ⟨Nat.zero_le _, Nat.zero_le _⟩ (fun r11 σ10 H locs hq hP hS => ?_)
    refine kr_Si (As := [.long r11]) (rest := [.int r9]) C0 hK hP hS hl (km_X2_length l hI hq) kd_X2_length kq_514 ⟨rfl, rfl, Nat.le_of_ble_eq_true rfl, Nat.le_of_ble_eq_true rfl⟩ rfl (Nat.le_of_ble_eq_true rfl) dX7_codeShown_65 ⟨Nat.zero_le _, Nat.zero_le _⟩ (fun r13 σ12 H locs hq hP hS => ?_)
    refine kr_max C0 hl kq_520 ⟨Nat.le_of_ble_eq_true rfl, Nat.le_of_ble_eq_true rfl⟩ ⟨Nat.zero_le _, Nat.zero_le _⟩ dX7_codeShown_68 ?_
    refine lv_topi (fun x14 ex14 => ?_)
    have hq := hq x14 ex14
    refine lv_istore (lv' := [(8, .int x14), (6, .long t0), (0, .ref (ka_a G (5, o, i))), (1, .int v1), (2, .int v2), (4, .int v4), (5, .int v5)]) hx hb dX7_codeShown_71 hl (by decide) rfl (fun ls hl => ?_)
    exact kb_X7_codeShown_73 hI ho hi C0 hK hk6 σ12 v1 v2 v4 v5 t0 x14 hq H locs hP hS ls (lv_sub hl [2, 3, 4, 5, 6, 1, 0] rfl)
set_option maxHeartbeats 4000000 in
set_option maxRecDepth 100000 in
theorem kb_X7_codeShown_6 {p : Program} {l : Launch} {e : Env} {s : State} {m : MethodId} {args : Array Value} {below : List Frame} {meth : Method} {c : Code} {G : ka_G} (hI : ka_I G) {o : Nat} {i : Nat} (ho : o < 19) (hi : i < 12) (C0 : ka_C p s m args meth c cX7_codeShown 9 "GlossRows$Word" (some .int)) (hK : ka_Kn G s) {Q : Int32 → ka_S → Prop} : ∀ (n : Nat) (σ : ka_S) (v1 : Int32) (v2 : Int32) (v4 : Int32) (v5 : Int32), kw_X7_codeShown_6 o i Q n σ v1 v2 v4 v5 → ∀ (H : Heap) (locs : List Loc), ka_P G σ H → va_S (ka_A G) s.heap H locs → ∀ ls : Array Slot, lv_has ls 9 [(0, .ref (ka_a G (5, o, i))), (1, .int v1), (2, .int v2), (4, .int v4), (5, .int v5)] → W p l e rm_X7_codeShown s m args below meth c H locs 0 0 (MQ below (va_Qi Q (ka_B G) (ka_A G)) args s 0 0 (ka_A G)) (F0 m 6 ls []) := by
  obtain ⟨hx, hb, -, hml, hown, hts, -⟩ := id C0
  intro n
  induction n with
  | zero =>
    intro σ v1 v2 v4 v5 hq
    rw [kw_X7_codeShown_6] at hq
    exact hq.elim
  | succ n ih =>
    intro σ v1 v2 v4 v5 hq H locs hP hS ls hl
    rw [kw_X7_codeShown_6] at hq
    refine lv_iload hx hb dX7_codeShown_6 (lv_at hl 4 rfl) ?_
    refine lv_aload_n hx hb dX7_codeShown_8 rfl (lv_at hl 0 rfl) ?_
    refine kg_X7_size C0 hK hP (kv_w (by decide) (by decide) ho hi) kq_69 dX7_codeShown_9 ?_
    refine lv_icmp_ge (tgt := 151) hx hb dX7_codeShown_12 (by decide) (fun hc => ?_) (fun hc => ?_)
    · have hq := hq.1 hc
      refine lv_bipush (v := 32) hx hb dX7_codeShown_151 (by decide) ?_
      exact kr_iret C0 hK hP hS hq dX7_codeShown_153
    · have hq := hq.2 hc
      refine lv_iload_n hx hb dX7_codeShown_15 rfl (lv_at hl 1 rfl) ?_
      refine lv_if_ne (tgt := 29) hx hb dX7_codeShown_16 (by decide) (fun hc => ?_) (fun hc => ?_)
      · have hq := hq.2 hc
        refine lv_aload_n hx hb dX7_codeShown_29 rfl (lv_at hl 0 rfl) ?_
        refine lv_iload hx hb dX7_codeShown_30 (lv_at hl 4 rfl) ?_
        refine kr_Vl (k := (5, o, i)) (As := [.int v5]) (rest := []) C0 hK hP hS hl (km_X7_shownGloss l hI ho hi hq) kd_X7_shownGloss kq_515 (kv_w (by decide) (by decide) ho hi) rfl rfl rfl ⟨rfl, rfl, Nat.le_of_ble_eq_true rfl, Nat.le_of_ble_eq_true rfl⟩ rfl (Nat.le_of_ble_eq_true rfl) dX7_codeShown_32 ⟨Nat.zero_le _, Nat.zero_le _⟩ (fun r3 σ2 H locs hq hP hS => ?_)
        exact kb_X7_codeShown_35 hI ho hi C0 hK ih σ2 v1 v2 v4 v5 r3 hq H locs hP hS ls (lv_sub hl [0, 1, 2, 3, 4] rfl)
      · have hq := hq.1 hc
        refine lv_aload_n hx hb dX7_codeShown_19 rfl (lv_at hl 0 rfl) ?_
        refine kg_X7_parts C0 hK hP (kv_w (by decide) (by decide) ho hi) kq_57 dX7_codeShown_20 ?_
        refine lv_iload hx hb dX7_codeShown_23 (lv_at hl 4 rfl) ?_
        obtain ⟨b4, hq⟩ := hq
        refine kr_lald C0 hK hP (kv_w (by decide) (by decide) ho hi) rfl b4 dX7_codeShown_25 ?_
        refine lv_goto (tgt := 35) hx hb dX7_codeShown_26 (by decide) ?_
        exact kb_X7_codeShown_35 hI ho hi C0 hK ih σ v1 v2 v4 v5 (σ.2 (6, o, i) v5.toNatClampNeg) hq H locs hP hS ls (lv_sub hl [0, 1, 2, 3, 4] rfl)
set_option maxHeartbeats 4000000 in
set_option maxRecDepth 100000 in
theorem km_X7_codeShown (l : Launch) {G : ka_G} (hI : ka_I G) {o : Nat} {i : Nat} (ho : o < 19) (hi : i < 12) {σ : ka_S} {v1 : Int32} {v2 : Int32} {v3 : Int32} {Q : Int32 → ka_S → Prop} (hq : kw_X7_codeShown σ o i v1 v2 v3 Q) : kc_i l yX7_codeShown (kw_ yX7_codeShown cX7_codeShown 9 (some .int)) rm_X7_codeShown G [.ref (ka_a G (5, o, i)), .int v1, .int v2, .int v3] σ Q := by
  refine ka_of "GlossRows$Word" rfl (by decide) (Nat.le_of_ble_eq_true rfl) ?_
  intro p e s m below meth c C0 hK H locs hP hS ls hl
  obtain ⟨hx, hb, -, hml, hown, hts, -⟩ := id C0
  have hl : lv_has ls 9 [(0, .ref (ka_a G (5, o, i))), (1, .int v1), (2, .int v2), (3, .int v3)] := hl
  unfold kw_X7_codeShown at hq
  refine lv_iload_n hx hb dX7_codeShown_0 rfl (lv_at hl 3 rfl) ?_
  refine lv_istore (lv' := [(4, .int v3), (0, .ref (ka_a G (5, o, i))), (1, .int v1), (2, .int v2), (3, .int v3)]) hx hb dX7_codeShown_1 hl (by decide) rfl (fun ls hl => ?_)
  refine lv_iconst (v := 0) hx hb dX7_codeShown_3 (by decide) ?_
  refine lv_istore (lv' := [(5, .int (0 : Int32)), (4, .int v3), (0, .ref (ka_a G (5, o, i))), (1, .int v1), (2, .int v2), (3, .int v3)]) hx hb dX7_codeShown_4 hl (by decide) rfl (fun ls hl => ?_)
  obtain ⟨n1, hq⟩ := hq
  exact kb_X7_codeShown_6 hI ho hi C0 hK n1 σ v1 v2 v3 (0 : Int32) hq H locs hP hS ls (lv_sub hl [2, 3, 4, 1, 0] rfl)
/-! GlossRows$Word.codeOfFree(I)I -/
def rm_X7_codeOfFree : Room := { frames := 0, cells := 0, slots := 0, locals := 0 }
def kw_X7_codeOfFree (σ : ka_S) (o : Nat) (i : Nat) (v1 : Int32) (Q : Int32 → ka_S → Prop) : Prop := (v1 < (0 : Int32) → Q (-9 : Int32) σ) ∧
  (¬ v1 < (0 : Int32) → ((σ.1 (5, o, i) 5) ≤ v1 → Q (-9 : Int32) σ) ∧
    (¬ (σ.1 (5, o, i) 5) ≤ v1 → vp_in v1 24 ∧
      Q (σ.1 (9, o, i) v1.toNatClampNeg) σ))
set_option maxHeartbeats 4000000 in
set_option maxRecDepth 100000 in
theorem km_X7_codeOfFree (l : Launch) {G : ka_G} (hI : ka_I G) {o : Nat} {i : Nat} (ho : o < 19) (hi : i < 12) {σ : ka_S} {v1 : Int32} {Q : Int32 → ka_S → Prop} (hq : kw_X7_codeOfFree σ o i v1 Q) : kc_i l yX7_codeOfFree (kw_ yX7_codeOfFree cX7_codeOfFree 2 (some .int)) rm_X7_codeOfFree G [.ref (ka_a G (5, o, i)), .int v1] σ Q := by
  refine ka_of "GlossRows$Word" rfl (by decide) (Nat.le_of_ble_eq_true rfl) ?_
  intro p e s m below meth c C0 hK H locs hP hS ls hl
  obtain ⟨hx, hb, -, hml, hown, hts, -⟩ := id C0
  have hl : lv_has ls 2 [(0, .ref (ka_a G (5, o, i))), (1, .int v1)] := hl
  unfold kw_X7_codeOfFree at hq
  refine lv_iload_n hx hb dX7_codeOfFree_0 rfl (lv_at hl 1 rfl) ?_
  refine lv_if_lt (tgt := 21) hx hb dX7_codeOfFree_1 (by decide) (fun hc => ?_) (fun hc => ?_)
  · have hq := hq.1 hc
    refine lv_bipush (v := -9) hx hb dX7_codeOfFree_21 (by decide) ?_
    exact kr_iret C0 hK hP hS hq dX7_codeOfFree_23
  · have hq := hq.2 hc
    refine lv_iload_n hx hb dX7_codeOfFree_4 rfl (lv_at hl 1 rfl) ?_
    refine lv_aload_n hx hb dX7_codeOfFree_5 rfl (lv_at hl 0 rfl) ?_
    refine kg_X7_freeLength C0 hK hP (kv_w (by decide) (by decide) ho hi) kq_73 dX7_codeOfFree_6 ?_
    refine lv_icmp_ge (tgt := 21) hx hb dX7_codeOfFree_9 (by decide) (fun hc => ?_) (fun hc => ?_)
    · have hq := hq.1 hc
      refine lv_bipush (v := -9) hx hb dX7_codeOfFree_21 (by decide) ?_
      exact kr_iret C0 hK hP hS hq dX7_codeOfFree_23
    · have hq := hq.2 hc
      refine lv_aload_n hx hb dX7_codeOfFree_12 rfl (lv_at hl 0 rfl) ?_
      refine kg_X7_free C0 hK hP (kv_w (by decide) (by decide) ho hi) kq_68 dX7_codeOfFree_13 ?_
      refine lv_iload_n hx hb dX7_codeOfFree_16 rfl (lv_at hl 1 rfl) ?_
      obtain ⟨b1, hq⟩ := hq
      refine kr_iald C0 hK hP (kv_w (by decide) (by decide) ho hi) rfl b1 dX7_codeOfFree_17 ?_
      refine lv_goto (tgt := 23) hx hb dX7_codeOfFree_18 (by decide) ?_
      exact kr_iret C0 hK hP hS hq dX7_codeOfFree_23
