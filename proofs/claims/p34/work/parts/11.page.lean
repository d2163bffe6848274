/-! GlossRows$Page.reset()V -/
def rm_X4_reset : Room := { frames := 0, cells := 0, slots := 0, locals := 0 }
def kw_X4_reset (σ : ka_S) (o : Nat) (Q : ka_S → Prop) : Prop := ∀ σ1 : ka_S, σ1 = ka_wI σ (0, o, 0) 2 (0 : Int32) →
  ∀ σ2 : ka_S, σ2 = ka_wI σ1 (2, o, 0) 2 (0 : Int32) →
  ∀ σ3 : ka_S, σ3 = ka_wI σ2 (0, o, 0) 3 (30 : Int32) →
  ∀ σ4 : ka_S, σ4 = ka_wI σ3 (0, o, 0) 4 (2 : Int32) →
  ∀ σ5 : ka_S, σ5 = ka_wI σ4 (0, o, 0) 5 (1 : Int32) →
  Q σ5
set_option maxHeartbeats 4000000 in
set_option maxRecDepth 100000 in
theorem km_X4_reset (l : Launch) {G : ka_G} (hI : ka_I G) {o : Nat} (ho : o < 18) {σ : ka_S} {Q : ka_S → Prop} (hq : kw_X4_reset σ o Q) : kc_v l yX4_reset (kw_ yX4_reset cX4_reset 1 none) rm_X4_reset G [.ref (ka_a G (0, o, 0))] σ Q := by
  refine ka_of "GlossRows$Page" rfl (by decide) (Nat.le_of_ble_eq_true rfl) ?_
  intro p e s m below meth c C0 hK H locs hP hS ls hl
  obtain ⟨hx, hb, -, hml, hown, hts, -⟩ := id C0
  have hl : lv_has ls 1 [(0, .ref (ka_a G (0, o, 0)))] := hl
  unfold kw_X4_reset at hq
  refine lv_aload_n hx hb dX4_reset_0 rfl (lv_at hl 0 rfl) ?_
  refine lv_iconst (v := 0) hx hb dX4_reset_1 (by decide) ?_
  refine kp_X4_count C0 hK hI hP hS (kv_p (by decide) ho) kq_153 dX4_reset_2 (fun H locs hP hS => ?_)
  obtain ⟨σ1, eσ1⟩ : ∃ z : ka_S, z = ka_wI σ (0, o, 0) 2 (0 : Int32) := ⟨_, rfl⟩
  rw [← eσ1] at hP
  have hq := hq σ1 eσ1
  refine lv_aload_n hx hb dX4_reset_5 rfl (lv_at hl 0 rfl) ?_
  refine kg_X4_lexicon C0 hK hP (kv_p (by decide) ho) kq_151 dX4_reset_6 ?_
  refine lv_iconst (v := 0) hx hb dX4_reset_9 (by decide) ?_
  refine kp_X3_size C0 hK hI hP hS (kv_p (by decide) ho) kq_134 dX4_reset_10 (fun H locs hP hS => ?_)
  obtain ⟨σ2, eσ2⟩ : ∃ z : ka_S, z = ka_wI σ1 (2, o, 0) 2 (0 : Int32) := ⟨_, rfl⟩
  rw [← eσ2] at hP
  have hq := hq σ2 eσ2
  refine lv_aload_n hx hb dX4_reset_13 rfl (lv_at hl 0 rfl) ?_
  refine lv_bipush (v := 30) hx hb dX4_reset_14 (by decide) ?_
  refine kp_X4_width C0 hK hI hP hS (kv_p (by decide) ho) kq_156 dX4_reset_16 (fun H locs hP hS => ?_)
  obtain ⟨σ3, eσ3⟩ : ∃ z : ka_S, z = ka_wI σ2 (0, o, 0) 3 (30 : Int32) := ⟨_, rfl⟩
  rw [← eσ3] at hP
  have hq := hq σ3 eσ3
  refine lv_aload_n hx hb dX4_reset_19 rfl (lv_at hl 0 rfl) ?_
  refine lv_iconst (v := 2) hx hb dX4_reset_20 (by decide) ?_
  refine kp_X4_space C0 hK hI hP hS (kv_p (by decide) ho) kq_159 dX4_reset_21 (fun H locs hP hS => ?_)
  obtain ⟨σ4, eσ4⟩ : ∃ z : ka_S, z = ka_wI σ3 (0, o, 0) 4 (2 : Int32) := ⟨_, rfl⟩
  rw [← eσ4] at hP
  have hq := hq σ4 eσ4
  refine lv_aload_n hx hb dX4_reset_24 rfl (lv_at hl 0 rfl) ?_
  refine lv_iconst (v := 1) hx hb dX4_reset_25 (by decide) ?_
  refine kp_X4_way C0 hK hI hP hS (kv_p (by decide) ho) kq_162 dX4_reset_26 (fun H locs hP hS => ?_)
  obtain ⟨σ5, eσ5⟩ : ∃ z : ka_S, z = ka_wI σ4 (0, o, 0) 5 (1 : Int32) := ⟨_, rfl⟩
  rw [← eσ5] at hP
  have hq := hq σ5 eσ5
  exact kr_vret C0 hK hP hS hq dX4_reset_29
/-! GlossRows$Page.copyFrom(LGlossRows$Page;)V -/
def rm_X4_copyFrom : Room := { frames := 1, cells := 0, slots := 0, locals := 22 }
def kw_X4_copyFrom_10 (o : Nat) (o2 : Nat) (Q : ka_S → Prop) : Nat → ka_S → Int32 → Prop
  | 0, _, _ => False
  | n + 1, σ, v2 => ((σ.1 (0, o, 0) 2) ≤ v2 → kw_X3_copyFrom σ o o2 (fun σ3 => 
      ∀ σ4 : ka_S, σ4 = ka_wI σ3 (0, o, 0) 3 (σ3.1 (0, o2, 0) 3) →
      ∀ σ5 : ka_S, σ5 = ka_wI σ4 (0, o, 0) 4 (σ4.1 (0, o2, 0) 4) →
      ∀ σ6 : ka_S, σ6 = ka_wI σ5 (0, o, 0) 5 (σ5.1 (0, o2, 0) 5) →
      Q σ6)) ∧
    (¬ (σ.1 (0, o, 0) 2) ≤ v2 → vp_in v2 12 ∧
      vp_in v2 12 ∧
      kw_X7_copyFrom σ o v2.toNatClampNeg o2 v2.toNatClampNeg (fun σ9 => 
      ∀ x10 : Int32, x10 = v2 + (1 : Int32) →
      (kw_X4_copyFrom_10 o o2 Q n) σ9 x10))
def kw_X4_copyFrom (σ : ka_S) (o : Nat) (o2 : Nat) (Q : ka_S → Prop) : Prop := ∀ σ1 : ka_S, σ1 = ka_wI σ (0, o, 0) 2 (σ.1 (0, o2, 0) 2) →
  ∃ n2 : Nat, kw_X4_copyFrom_10 o o2 Q n2 σ1 (0 : Int32)
set_option maxHeartbeats 4000000 in
set_option maxRecDepth 100000 in
theorem kb_X4_copyFrom_10 {p : Program} {l : Launch} {e : Env} {s : State} {m : MethodId} {args : Array Value} {below : List Frame} {meth : Method} {c : Code} {G : ka_G} (hI : ka_I G) {o : Nat} {o2 : Nat} (ho : o < 18) (ho2 : o2 < 18) (C0 : ka_C p s m args meth c cX4_copyFrom 3 "GlossRows$Page" none) (hK : ka_Kn G s) {Q : ka_S → Prop} : ∀ (n : Nat) (σ : ka_S) (v2 : Int32), kw_X4_copyFrom_10 o o2 Q n σ v2 → ∀ (H : Heap) (locs : List Loc), ka_P G σ H → va_S (ka_A G) s.heap H locs → ∀ ls : Array Slot, lv_has ls 3 [(0, .ref (ka_a G (0, o, 0))), (1, .ref (ka_a G (0, o2, 0))), (2, .int v2)] → W p l e rm_X4_copyFrom s m args below meth c H locs 0 0 (MQ below (va_Qv Q (ka_B G) (ka_A G)) args s 0 0 (ka_A G)) (F0 m 10 ls []) := by
  obtain ⟨hx, hb, -, hml, hown, hts, -⟩ := id C0
  intro n
  induction n with
  | zero =>
    intro σ v2 hq
    rw [kw_X4_copyFrom_10] at hq
    exact hq.elim
  | succ n ih =>
    intro σ v2 hq H locs hP hS ls hl
    rw [kw_X4_copyFrom_10] at hq
    refine lv_iload_n hx hb dX4_copyFrom_10 rfl (lv_at hl 2 rfl) ?_
    refine lv_aload_n hx hb dX4_copyFrom_11 rfl (lv_at hl 0 rfl) ?_
    refine kg_X4_count C0 hK hP (kv_p (by decide) ho) kq_153 dX4_copyFrom_12 ?_
    refine lv_icmp_ge (tgt := 39) hx hb dX4_copyFrom_15 (by decide) (fun hc => ?_) (fun hc => ?_)
    · have hq := hq.1 hc
      refine lv_aload_n hx hb dX4_copyFrom_39 rfl (lv_at hl 0 rfl) ?_
      refine kg_X4_lexicon C0 hK hP (kv_p (by decide) ho) kq_151 dX4_copyFrom_40 ?_
      refine lv_aload_n hx hb dX4_copyFrom_43 rfl (lv_at hl 1 rfl) ?_
      refine kg_X4_lexicon C0 hK hP (kv_p (by decide) ho2) kq_151 dX4_copyFrom_44 ?_
      refine kr_Vv (k := (2, o, 0)) (As := [.ref (ka_a G (2, o2, 0))]) (rest := []) C0 hK hP hS hl (km_X3_copyFrom l hI ho ho2 hq) kd_X3_copyFrom kq_457 (kv_p (by decide) ho) rfl rfl rfl ⟨rfl, rfl, Nat.le_of_ble_eq_true rfl, Nat.le_of_ble_eq_true rfl⟩ rfl (Nat.le_of_ble_eq_true rfl) dX4_copyFrom_47 ⟨Nat.zero_le _, Nat.zero_le _⟩ (fun σ3 H locs hq hP hS => ?_)
      refine lv_aload_n hx hb dX4_copyFrom_50 rfl (lv_at hl 0 rfl) ?_
      refine lv_aload_n hx hb dX4_copyFrom_51 rfl (lv_at hl 1 rfl) ?_
      refine kg_X4_width C0 hK hP (kv_p (by decide) ho2) kq_156 dX4_copyFrom_52 ?_
      refine kp_X4_width C0 hK hI hP hS (kv_p (by decide) ho) kq_156 dX4_copyFrom_55 (fun H locs hP hS => ?_)
      obtain ⟨σ4, eσ4⟩ : ∃ z : ka_S, z = ka_wI σ3 (0, o, 0) 3 (σ3.1 (0, o2, 0) 3) := ⟨_, rfl⟩
      rw [← eσ4] at hP
      have hq := hq σ4 eσ4
      refine lv_aload_n hx hb dX4_copyFrom_58 rfl (lv_at hl 0 rfl) ?_
      refine lv_aload_n hx hb dX4_copyFrom_59 rfl (lv_at hl 1 rfl) ?_
      refine kg_X4_space C0 hK hP (kv_p (by decide) ho2) kq_159 dX4_copyFrom_60 ?_
      refine kp_X4_space C0 hK hI hP hS (kv_p (by decide) ho) kq_159 dX4_copyFrom_63 (fun H locs hP hS => ?_)
      obtain ⟨σ5, eσ5⟩ : ∃ z : ka_S, z = ka_wI σ4 (0, o, 0) 4 (σ4.1 (0, o2, 0) 4) := ⟨_, rfl⟩
      rw [← eσ5] at hP
      have hq := hq σ5 eσ5
      refine lv_aload_n hx hb dX4_copyFrom_66 rfl (lv_at hl 0 rfl) ?_
      refine lv_aload_n hx hb dX4_copyFrom_67 rfl (lv_at hl 1 rfl) ?_
      refine kg_X4_way C0 hK hP (kv_p (by decide) ho2) kq_162 dX4_copyFrom_68 ?_
      refine kp_X4_way C0 hK hI hP hS (kv_p (by decide) ho) kq_162 dX4_copyFrom_71 (fun H locs hP hS => ?_)
      obtain ⟨σ6, eσ6⟩ : ∃ z : ka_S, z = ka_wI σ5 (0, o, 0) 5 (σ5.1 (0, o2, 0) 5) := ⟨_, rfl⟩
      rw [← eσ6] at hP
      have hq := hq σ6 eσ6
      exact kr_vret C0 hK hP hS hq dX4_copyFrom_74
    · have hq := hq.2 hc
      refine lv_aload_n hx hb dX4_copyFrom_18 rfl (lv_at hl 0 rfl) ?_
      refine kg_X4_words C0 hK hP (kv_p (by decide) ho) kq_148 dX4_copyFrom_19 ?_
      refine lv_iload_n hx hb dX4_copyFrom_22 rfl (lv_at hl 2 rfl) ?_
      obtain ⟨b7, hq⟩ := hq
      refine kr_aald (t := 3) C0 hK hP (kv_p (by decide) ho) rfl rfl b7 rfl dX4_copyFrom_23 ?_
      refine lv_aload_n hx hb dX4_copyFrom_24 rfl (lv_at hl 1 rfl) ?_
      refine kg_X4_words C0 hK hP (kv_p (by decide) ho2) kq_148 dX4_copyFrom_25 ?_
      refine lv_iload_n hx hb dX4_copyFrom_28 rfl (lv_at hl 2 rfl) ?_
      obtain ⟨b8, hq⟩ := hq
      refine kr_aald (t := 3) C0 hK hP (kv_p (by decide) ho2) rfl rfl b8 rfl dX4_copyFrom_29 ?_
      refine kr_Vv (k := (5, o, v2.toNatClampNeg)) (As := [.ref (ka_a G (5, o2, v2.toNatClampNeg))]) (rest := []) C0 hK hP hS hl (km_X7_copyFrom l hI (k_19 ho) (vp_lt b7) (k_19 ho2) (vp_lt b8) hq) kd_X7_copyFrom kq_416 (kv_w (by decide) (by decide) (k_19 ho) (vp_lt b7)) rfl rfl rfl ⟨rfl, rfl, Nat.le_of_ble_eq_true rfl, Nat.le_of_ble_eq_true rfl⟩ rfl (Nat.le_of_ble_eq_true rfl) dX4_copyFrom_30 ⟨Nat.zero_le _, Nat.zero_le _⟩ (fun σ9 H locs hq hP hS => ?_)
      obtain ⟨x10, ex10⟩ : ∃ y : Int32, y = v2 + (1 : Int32) := ⟨_, rfl⟩
      have hq := hq x10 ex10
      refine lv_iinc (v := x10) (lv' := [(2, .int x10), (0, .ref (ka_a G (0, o, 0))), (1, .ref (ka_a G (0, o2, 0)))]) hx hb dX4_copyFrom_33 hl (k := 2) rfl (by rw [ex10]; rfl) (by decide) rfl (fun ls hl => ?_)
      refine lv_goto (tgt := 10) hx hb dX4_copyFrom_36 (by decide) ?_
      exact ih σ9 x10 hq H locs hP hS ls (lv_sub hl [1, 2, 0] rfl)
set_option maxHeartbeats 4000000 in
set_option maxRecDepth 100000 in
theorem km_X4_copyFrom (l : Launch) {G : ka_G} (hI : ka_I G) {o : Nat} {o2 : Nat} (ho : o < 18) (ho2 : o2 < 18) {σ : ka_S} {Q : ka_S → Prop} (hq : kw_X4_copyFrom σ o o2 Q) : kc_v l yX4_copyFrom (kw_ yX4_copyFrom cX4_copyFrom 3 none) rm_X4_copyFrom G [.ref (ka_a G (0, o, 0)), .ref (ka_a G (0, o2, 0))] σ Q := by
  refine ka_of "GlossRows$Page" rfl (by decide) (Nat.le_of_ble_eq_true rfl) ?_
  intro p e s m below meth c C0 hK H locs hP hS ls hl
  obtain ⟨hx, hb, -, hml, hown, hts, -⟩ := id C0
  have hl : lv_has ls 3 [(0, .ref (ka_a G (0, o, 0))), (1, .ref (ka_a G (0, o2, 0)))] := hl
  unfold kw_X4_copyFrom at hq
  refine lv_aload_n hx hb dX4_copyFrom_0 rfl (lv_at hl 0 rfl) ?_
  refine lv_aload_n hx hb dX4_copyFrom_1 rfl (lv_at hl 1 rfl) ?_
  refine kg_X4_count C0 hK hP (kv_p (by decide) ho2) kq_153 dX4_copyFrom_2 ?_
  refine kp_X4_count C0 hK hI hP hS (kv_p (by decide) ho) kq_153 dX4_copyFrom_5 (fun H locs hP hS => ?_)
  obtain ⟨σ1, eσ1⟩ : ∃ z : ka_S, z = ka_wI σ (0, o, 0) 2 (σ.1 (0, o2, 0) 2) := ⟨_, rfl⟩
  rw [← eσ1] at hP
  have hq := hq σ1 eσ1
  refine lv_iconst (v := 0) hx hb dX4_copyFrom_8 (by decide) ?_
  refine lv_istore_n (lv' := [(2, .int (0 : Int32)), (0, .ref (ka_a G (0, o, 0))), (1, .ref (ka_a G (0, o2, 0)))]) hx hb dX4_copyFrom_9 rfl hl (by decide) rfl (fun ls hl => ?_)
  obtain ⟨n2, hq⟩ := hq
  exact kb_X4_copyFrom_10 hI ho ho2 C0 hK n2 σ1 (0 : Int32) hq H locs hP hS ls (lv_sub hl [1, 2, 0] rfl)
/-! GlossRows$Page.hasWord(I)Z -/
def rm_X4_hasWord : Room := { frames := 0, cells := 0, slots := 0, locals := 0 }
def kw_X4_hasWord (σ : ka_S) (o : Nat) (v1 : Int32) (Q : Int32 → ka_S → Prop) : Prop := (v1 < (0 : Int32) → Q (0 : Int32) σ) ∧
  (¬ v1 < (0 : Int32) → ((σ.1 (0, o, 0) 2) ≤ v1 → Q (0 : Int32) σ) ∧
    (¬ (σ.1 (0, o, 0) 2) ≤ v1 → Q (1 : Int32) σ))
set_option maxHeartbeats 4000000 in
set_option maxRecDepth 100000 in
theorem km_X4_hasWord (l : Launch) {G : ka_G} (hI : ka_I G) {o : Nat} (ho : o < 18) {σ : ka_S} {v1 : Int32} {Q : Int32 → ka_S → Prop} (hq : kw_X4_hasWord σ o v1 Q) : kc_i l yX4_hasWord (kw_ yX4_hasWord cX4_hasWord 2 (some .boolean)) rm_X4_hasWord G [.ref (ka_a G (0, o, 0)), .int v1] σ Q := by
  refine ka_of "GlossRows$Page" rfl (by decide) (Nat.le_of_ble_eq_true rfl) ?_
  intro p e s m below meth c C0 hK H locs hP hS ls hl
  obtain ⟨hx, hb, -, hml, hown, hts, -⟩ := id C0
  have hl : lv_has ls 2 [(0, .ref (ka_a G (0, o, 0))), (1, .int v1)] := hl
  unfold kw_X4_hasWord at hq
  refine lv_iload_n hx hb dX4_hasWord_0 rfl (lv_at hl 1 rfl) ?_
  refine lv_if_lt (tgt := 16) hx hb dX4_hasWord_1 (by decide) (fun hc => ?_) (fun hc => ?_)
  · have hq := hq.1 hc
    refine lv_iconst (v := 0) hx hb dX4_hasWord_16 (by decide) ?_
    exact kr_zret C0 hK hP hS rfl hq dX4_hasWord_17
  · have hq := hq.2 hc
    refine lv_iload_n hx hb dX4_hasWord_4 rfl (lv_at hl 1 rfl) ?_
    refine lv_aload_n hx hb dX4_hasWord_5 rfl (lv_at hl 0 rfl) ?_
    refine kg_X4_count C0 hK hP (kv_p (by decide) ho) kq_153 dX4_hasWord_6 ?_
    refine lv_icmp_ge (tgt := 16) hx hb dX4_hasWord_9 (by decide) (fun hc => ?_) (fun hc => ?_)
    · have hq := hq.1 hc
      refine lv_iconst (v := 0) hx hb dX4_hasWord_16 (by decide) ?_
      exact kr_zret C0 hK hP hS rfl hq dX4_hasWord_17
    · have hq := hq.2 hc
      refine lv_iconst (v := 1) hx hb dX4_hasWord_12 (by decide) ?_
      refine lv_goto (tgt := 17) hx hb dX4_hasWord_13 (by decide) ?_
      exact kr_zret C0 hK hP hS rfl hq dX4_hasWord_17
/-! GlossRows$Page.hasPart(II)Z -/
def rm_X4_hasPart : Room := { frames := 1, cells := 0, slots := 0, locals := 21 }
def kw_X4_hasPart (σ : ka_S) (o : Nat) (v1 : Int32) (v2 : Int32) (Q : Int32 → ka_S → Prop) : Prop := kw_X4_hasWord σ o v1 (fun r2 σ1 => 
  (r2 = (0 : Int32) → Q (0 : Int32) σ1) ∧
  (¬ r2 = (0 : Int32) → (v2 < (0 : Int32) → Q (0 : Int32) σ1) ∧
    (¬ v2 < (0 : Int32) → vp_in v1 12 ∧
      ((σ1.1 (5, o, v1.toNatClampNeg) 4) ≤ v2 → Q (0 : Int32) σ1) ∧
      (¬ (σ1.1 (5, o, v1.toNatClampNeg) 4) ≤ v2 → Q (1 : Int32) σ1))))
set_option maxHeartbeats 4000000 in
set_option maxRecDepth 100000 in
theorem km_X4_hasPart (l : Launch) {G : ka_G} (hI : ka_I G) {o : Nat} (ho : o < 18) {σ : ka_S} {v1 : Int32} {v2 : Int32} {Q : Int32 → ka_S → Prop} (hq : kw_X4_hasPart σ o v1 v2 Q) : kc_i l yX4_hasPart (kw_ yX4_hasPart cX4_hasPart 3 (some .boolean)) rm_X4_hasPart G [.ref (ka_a G (0, o, 0)), .int v1, .int v2] σ Q := by
  refine ka_of "GlossRows$Page" rfl (by decide) (Nat.le_of_ble_eq_true rfl) ?_
  intro p e s m below meth c C0 hK H locs hP hS ls hl
  obtain ⟨hx, hb, -, hml, hown, hts, -⟩ := id C0
  have hl : lv_has ls 3 [(0, .ref (ka_a G (0, o, 0))), (1, .int v1), (2, .int v2)] := hl
  unfold kw_X4_hasPart at hq
  refine lv_aload_n hx hb dX4_hasPart_0 rfl (lv_at hl 0 rfl) ?_
  refine lv_iload_n hx hb dX4_hasPart_1 rfl (lv_at hl 1 rfl) ?_
  refine kr_Vi (k := (0, o, 0)) (As := [.int v1]) (rest := []) C0 hK hP hS hl (km_X4_hasWord l hI ho hq) kd_X4_hasWord kq_597 (kv_p (by decide) ho) rfl rfl rfl ⟨rfl, rfl, Nat.le_of_ble_eq_true rfl, Nat.le_of_ble_eq_true rfl⟩ rfl (Nat.le_of_ble_eq_true rfl) dX4_hasPart_2 ⟨Nat.zero_le _, Nat.zero_le _⟩ (fun r2 σ1 H locs hq hP hS => ?_)
  refine lv_if_eq (tgt := 29) hx hb dX4_hasPart_5 (by decide) (fun hc => ?_) (fun hc => ?_)
  · have hq := hq.1 hc
    refine lv_iconst (v := 0) hx hb dX4_hasPart_29 (by decide) ?_
    exact kr_zret C0 hK hP hS rfl hq dX4_hasPart_30
  · have hq := hq.2 hc
    refine lv_iload_n hx hb dX4_hasPart_8 rfl (lv_at hl 2 rfl) ?_
    refine lv_if_lt (tgt := 29) hx hb dX4_hasPart_9 (by decide) (fun hc => ?_) (fun hc => ?_)
    · have hq := hq.1 hc
      refine lv_iconst (v := 0) hx hb dX4_hasPart_29 (by decide) ?_
      exact kr_zret C0 hK hP hS rfl hq dX4_hasPart_30
    · have hq := hq.2 hc
      refine lv_iload_n hx hb dX4_hasPart_12 rfl (lv_at hl 2 rfl) ?_
      refine lv_aload_n hx hb dX4_hasPart_13 rfl (lv_at hl 0 rfl) ?_
      refine kg_X4_words C0 hK hP (kv_p (by decide) ho) kq_148 dX4_hasPart_14 ?_
      refine lv_iload_n hx hb dX4_hasPart_17 rfl (lv_at hl 1 rfl) ?_
      obtain ⟨b3, hq⟩ := hq
      refine kr_aald (t := 3) C0 hK hP (kv_p (by decide) ho) rfl rfl b3 rfl dX4_hasPart_18 ?_
      refine kg_X7_size C0 hK hP (kv_w (by decide) (by decide) (k_19 ho) (vp_lt b3)) kq_70 dX4_hasPart_19 ?_
      refine lv_icmp_ge (tgt := 29) hx hb dX4_hasPart_22 (by decide) (fun hc => ?_) (fun hc => ?_)
      · have hq := hq.1 hc
        refine lv_iconst (v := 0) hx hb dX4_hasPart_29 (by decide) ?_
        exact kr_zret C0 hK hP hS rfl hq dX4_hasPart_30
      · have hq := hq.2 hc
        refine lv_iconst (v := 1) hx hb dX4_hasPart_25 (by decide) ?_
        refine lv_goto (tgt := 30) hx hb dX4_hasPart_26 (by decide) ?_
        exact kr_zret C0 hK hP hS rfl hq dX4_hasPart_30
/-! GlossRows$Page.addWords(LGlossRows$Reader;I)V -/
def rm_X4_addWords : Room := { frames := 1, cells := 0, slots := 0, locals := 22 }
def kw_X4_addWords_71 (o : Nat) (Q : ka_S → Prop) : Nat → ka_S → Int32 → Int32 → Int32 → Prop
  | 0, _, _, _, _ => False
  | n + 1, σ, v2, v3, v4 => (v3 ≤ v4 → ∀ σ9 : ka_S, σ9 = ka_wI σ (0, o, 0) 2 ((σ.1 (0, o, 0) 2) + v3) →
      Q σ9) ∧
    (¬ v3 ≤ v4 → vp_in (v2 + v4) 12 ∧
      vp_in v4 12 ∧
      kw_X7_copyFrom σ o ((v2 + v4).toNatClampNeg) 18 v4.toNatClampNeg (fun σ12 => 
      ∀ x13 : Int32, x13 = v4 + (1 : Int32) →
      (kw_X4_addWords_71 o Q n) σ12 v2 v3 x13))
def kw_X4_addWords_37 (o : Nat) (Q : ka_S → Prop) : Nat → ka_S → Int32 → Int32 → Int32 → Prop
  | 0, _, _, _, _ => False
  | n + 1, σ, v2, v3, v4 => (v4 < v2 → ∃ n4 : Nat, kw_X4_addWords_71 o Q n4 σ v2 v3 (0 : Int32)) ∧
    (¬ v4 < v2 → vp_in (v4 + v3) 12 ∧
      vp_in v4 12 ∧
      kw_X7_copyFrom σ o ((v4 + v3).toNatClampNeg) o v4.toNatClampNeg (fun σ7 => 
      ∀ x8 : Int32, x8 = v4 + (-1 : Int32) →
      (kw_X4_addWords_37 o Q n) σ7 v2 v3 x8))
def kw_X4_addWords (σ : ka_S) (o : Nat) (v2 : Int32) (Q : ka_S → Prop) : Prop := ∀ x1 : Int32, x1 = (σ.1 (18, 0, 0) 1) → 
  (v2 < (0 : Int32) → Q σ) ∧
  (¬ v2 < (0 : Int32) → ((σ.1 (0, o, 0) 2) < v2 → Q σ) ∧
    (¬ (σ.1 (0, o, 0) 2) < v2 → (((σ.1 (0, o, 0) 2) + x1) ≤ (12 : Int32) → ∀ x2 : Int32, x2 = ((σ.1 (0, o, 0) 2) - (1 : Int32)) → 
        ∃ n3 : Nat, kw_X4_addWords_37 o Q n3 σ v2 x1 x2) ∧
      (¬ ((σ.1 (0, o, 0) 2) + x1) ≤ (12 : Int32) → Q σ)))
set_option maxHeartbeats 4000000 in
set_option maxRecDepth 100000 in
theorem kb_X4_addWords_71 {p : Program} {l : Launch} {e : Env} {s : State} {m : MethodId} {args : Array Value} {below : List Frame} {meth : Method} {c : Code} {G : ka_G} (hI : ka_I G) {o : Nat} (ho : o < 18) (C0 : ka_C p s m args meth c cX4_addWords 5 "GlossRows$Page" none) (hK : ka_Kn G s) {Q : ka_S → Prop} : ∀ (n : Nat) (σ : ka_S) (v2 : Int32) (v3 : Int32) (v4 : Int32), kw_X4_addWords_71 o Q n σ v2 v3 v4 → ∀ (H : Heap) (locs : List Loc), ka_P G σ H → va_S (ka_A G) s.heap H locs → ∀ ls : Array Slot, lv_has ls 5 [(0, .ref (ka_a G (0, o, 0))), (1, .ref (ka_a G (18, 0, 0))), (2, .int v2), (3, .int v3), (4, .int v4)] → W p l e rm_X4_addWords s m args below meth c H locs 0 0 (MQ below (va_Qv Q (ka_B G) (ka_A G)) args s 0 0 (ka_A G)) (F0 m 71 ls []) := by
  obtain ⟨hx, hb, -, hml, hown, hts, -⟩ := id C0
  intro n
  induction n with
  | zero =>
    intro σ v2 v3 v4 hq
    rw [kw_X4_addWords_71] at hq
    exact hq.elim
  | succ n ih =>
    intro σ v2 v3 v4 hq H locs hP hS ls hl
    rw [kw_X4_addWords_71] at hq
    refine lv_iload hx hb dX4_addWords_71 (lv_at hl 4 rfl) ?_
    refine lv_iload_n hx hb dX4_addWords_73 rfl (lv_at hl 3 rfl) ?_
    refine lv_icmp_ge (tgt := 102) hx hb dX4_addWords_74 (by decide) (fun hc => ?_) (fun hc => ?_)
    · have hq := hq.1 hc
      refine lv_aload_n hx hb dX4_addWords_102 rfl (lv_at hl 0 rfl) ?_
      refine lv_dup hx hb dX4_addWords_103 rfl ?_
      refine kg_X4_count C0 hK hP (kv_p (by decide) ho) kq_153 dX4_addWords_104 ?_
      refine lv_iload_n hx hb dX4_addWords_107 rfl (lv_at hl 3 rfl) ?_
      refine lv_iadd hx hb dX4_addWords_108 ?_
      refine kp_X4_count C0 hK hI hP hS (kv_p (by decide) ho) kq_153 dX4_addWords_109 (fun H locs hP hS => ?_)
      obtain ⟨σ9, eσ9⟩ : ∃ z : ka_S, z = ka_wI σ (0, o, 0) 2 ((σ.1 (0, o, 0) 2) + v3) := ⟨_, rfl⟩
      rw [← eσ9] at hP
      have hq := hq σ9 eσ9
      exact kr_vret C0 hK hP hS hq dX4_addWords_112
    · have hq := hq.2 hc
      refine lv_aload_n hx hb dX4_addWords_77 rfl (lv_at hl 0 rfl) ?_
      refine kg_X4_words C0 hK hP (kv_p (by decide) ho) kq_148 dX4_addWords_78 ?_
      refine lv_iload_n hx hb dX4_addWords_81 rfl (lv_at hl 2 rfl) ?_
      refine lv_iload hx hb dX4_addWords_82 (lv_at hl 4 rfl) ?_
      refine lv_iadd hx hb dX4_addWords_84 ?_
      obtain ⟨b10, hq⟩ := hq
      refine kr_aald (t := 3) C0 hK hP (kv_p (by decide) ho) rfl rfl b10 rfl dX4_addWords_85 ?_
      refine lv_aload_n hx hb dX4_addWords_86 rfl (lv_at hl 1 rfl) ?_
      refine kg_X5_words C0 hK hP (kv_s (by decide) (by decide)) kq_97 dX4_addWords_87 ?_
      refine lv_iload hx hb dX4_addWords_90 (lv_at hl 4 rfl) ?_
      obtain ⟨b11, hq⟩ := hq
      refine kr_aald (t := 3) C0 hK hP (kv_s (by decide) (by decide)) rfl rfl b11 rfl dX4_addWords_92 ?_
      refine kr_Vv (k := (5, o, (v2 + v4).toNatClampNeg)) (As := [.ref (ka_a G (5, 18, v4.toNatClampNeg))]) (rest := []) C0 hK hP hS hl (km_X7_copyFrom l hI (k_19 ho) (vp_lt b10) (by decide) (vp_lt b11) hq) kd_X7_copyFrom kq_416 (kv_w (by decide) (by decide) (k_19 ho) (vp_lt b10)) rfl rfl rfl ⟨rfl, rfl, Nat.le_of_ble_eq_true rfl, Nat.le_of_ble_eq_true rfl⟩ rfl (Nat.le_of_ble_eq_true rfl) dX4_addWords_93 ⟨Nat.zero_le _, Nat.zero_le _⟩ (fun σ12 H locs hq hP hS => ?_)
      obtain ⟨x13, ex13⟩ : ∃ y : Int32, y = v4 + (1 : Int32) := ⟨_, rfl⟩
      have hq := hq x13 ex13
      refine lv_iinc (v := x13) (lv' := [(4, .int x13), (0, .ref (ka_a G (0, o, 0))), (1, .ref (ka_a G (18, 0, 0))), (2, .int v2), (3, .int v3)]) hx hb dX4_addWords_96 hl (k := 4) rfl (by rw [ex13]; rfl) (by decide) rfl (fun ls hl => ?_)
      refine lv_goto (tgt := 71) hx hb dX4_addWords_99 (by decide) ?_
      exact ih σ12 v2 v3 x13 hq H locs hP hS ls (lv_sub hl [1, 2, 3, 4, 0] rfl)
set_option maxHeartbeats 4000000 in
set_option maxRecDepth 100000 in
theorem kb_X4_addWords_37 {p : Program} {l : Launch} {e : Env} {s : State} {m : MethodId} {args : Array Value} {below : List Frame} {meth : Method} {c : Code} {G : ka_G} (hI : ka_I G) {o : Nat} (ho : o < 18) (C0 : ka_C p s m args meth c cX4_addWords 5 "GlossRows$Page" none) (hK : ka_Kn G s) {Q : ka_S → Prop} : ∀ (n : Nat) (σ : ka_S) (v2 : Int32) (v3 : Int32) (v4 : Int32), kw_X4_addWords_37 o Q n σ v2 v3 v4 → ∀ (H : Heap) (locs : List Loc), ka_P G σ H → va_S (ka_A G) s.heap H locs → ∀ ls : Array Slot, lv_has ls 5 [(0, .ref (ka_a G (0, o, 0))), (1, .ref (ka_a G (18, 0, 0))), (2, .int v2), (3, .int v3), (4, .int v4)] → W p l e rm_X4_addWords s m args below meth c H locs 0 0 (MQ below (va_Qv Q (ka_B G) (ka_A G)) args s 0 0 (ka_A G)) (F0 m 37 ls []) := by
  obtain ⟨hx, hb, -, hml, hown, hts, -⟩ := id C0
  intro n
  induction n with
  | zero =>
    intro σ v2 v3 v4 hq
    rw [kw_X4_addWords_37] at hq
    exact hq.elim
  | succ n ih =>
    intro σ v2 v3 v4 hq H locs hP hS ls hl
    rw [kw_X4_addWords_37] at hq
    refine lv_iload hx hb dX4_addWords_37 (lv_at hl 4 rfl) ?_
    refine lv_iload_n hx hb dX4_addWords_39 rfl (lv_at hl 2 rfl) ?_
    refine lv_icmp_lt (tgt := 68) hx hb dX4_addWords_40 (by decide) (fun hc => ?_) (fun hc => ?_)
    · have hq := hq.1 hc
      refine lv_iconst (v := 0) hx hb dX4_addWords_68 (by decide) ?_
      refine lv_istore (lv' := [(4, .int (0 : Int32)), (0, .ref (ka_a G (0, o, 0))), (1, .ref (ka_a G (18, 0, 0))), (2, .int v2), (3, .int v3)]) hx hb dX4_addWords_69 hl (by decide) rfl (fun ls hl => ?_)
      obtain ⟨n4, hq⟩ := hq
      exact kb_X4_addWords_71 hI ho C0 hK n4 σ v2 v3 (0 : Int32) hq H locs hP hS ls (lv_sub hl [1, 2, 3, 4, 0] rfl)
    · have hq := hq.2 hc
      refine lv_aload_n hx hb dX4_addWords_43 rfl (lv_at hl 0 rfl) ?_
      refine kg_X4_words C0 hK hP (kv_p (by decide) ho) kq_148 dX4_addWords_44 ?_
      refine lv_iload hx hb dX4_addWords_47 (lv_at hl 4 rfl) ?_
      refine lv_iload_n hx hb dX4_addWords_49 rfl (lv_at hl 3 rfl) ?_
      refine lv_iadd hx hb dX4_addWords_50 ?_
      obtain ⟨b5, hq⟩ := hq
      refine kr_aald (t := 3) C0 hK hP (kv_p (by decide) ho) rfl rfl b5 rfl dX4_addWords_51 ?_
      refine lv_aload_n hx hb dX4_addWords_52 rfl (lv_at hl 0 rfl) ?_
      refine kg_X4_words C0 hK hP (kv_p (by decide) ho) kq_148 dX4_addWords_53 ?_
      refine lv_iload hx hb dX4_addWords_56 (lv_at hl 4 rfl) ?_
      obtain ⟨b6, hq⟩ := hq
      refine kr_aald (t := 3) C0 hK hP (kv_p (by decide) ho) rfl rfl b6 rfl dX4_addWords_58 ?_
      refine kr_Vv (k := (5, o, (v4 + v3).toNatClampNeg)) (As := [.ref (ka_a G (5, o, v4.toNatClampNeg))]) (rest := []) C0 hK hP hS hl (km_X7_copyFrom l hI (k_19 ho) (vp_lt b5) (k_19 ho) (vp_lt b6) hq) kd_X7_copyFrom kq_416 (kv_w (by decide) (by decide) (k_19 ho) (vp_lt b5)) rfl rfl rfl ⟨rfl, rfl, Nat.le_of_ble_eq_true rfl, Nat.le_of_ble_eq_true rfl⟩ rfl (Nat.le_of_ble_eq_true rfl) dX4_addWords_59 ⟨Nat.zero_le _, Nat.zero_le _⟩ (fun σ7 H locs hq hP hS => ?_)
      obtain ⟨x8, ex8⟩ : ∃ y : Int32, y = v4 + (-1 : Int32) := ⟨_, rfl⟩
      have hq := hq x8 ex8
      refine lv_iinc (v := x8) (lv' := [(4, .int x8), (0, .ref (ka_a G (0, o, 0))), (1, .ref (ka_a G (18, 0, 0))), (2, .int v2), (3, .int v3)]) hx hb dX4_addWords_62 hl (k := 4) rfl (by rw [ex8]; rfl) (by decide) rfl (fun ls hl => ?_)
      refine lv_goto (tgt := 37) hx hb dX4_addWords_65 (by decide) ?_
      exact ih σ7 v2 v3 x8 hq H locs hP hS ls (lv_sub hl [1, 2, 3, 4, 0] rfl)
set_option maxHeartbeats 4000000 in
set_option maxRecDepth 100000 in
theorem km_X4_addWords (l : Launch) {G : ka_G} (hI : ka_I G) {o : Nat} (ho : o < 18) {σ : ka_S} {v2 : Int32} {Q : ka_S → Prop} (hq : kw_X4_addWords σ o v2 Q) : kc_v l yX4_addWords (kw_ yX4_addWords cX4_addWords 5 none) rm_X4_addWords G [.ref (ka_a G (0, o, 0)), .ref (ka_a G (18, 0, 0)), .int v2] σ Q := by
  refine ka_of "GlossRows$Page" rfl (by decide) (Nat.le_of_ble_eq_true rfl) ?_
  intro p e s m below meth c C0 hK H locs hP hS ls hl
  obtain ⟨hx, hb, -, hml, hown, hts, -⟩ := id C0
  have hl : lv_has ls 5 [(0, .ref (ka_a G (0, o, 0))), (1, .ref (ka_a G (18, 0, 0))), (2, .int v2)] := hl
  unfold kw_X4_addWords at hq
  refine lv_aload_n hx hb dX4_addWords_0 rfl (lv_at hl 1 rfl) ?_
  refine kg_X5_count C0 hK hP (kv_s (by decide) (by decide)) kq_99 dX4_addWords_1 ?_
  refine lv_topi (fun x1 ex1 => ?_)
  have hq := hq x1 ex1
  refine lv_istore_n (lv' := [(3, .int x1), (0, .ref (ka_a G (0, o, 0))), (1, .ref (ka_a G (18, 0, 0))), (2, .int v2)]) hx hb dX4_addWords_4 rfl hl (by decide) rfl (fun ls hl => ?_)
  refine lv_iload_n hx hb dX4_addWords_5 rfl (lv_at hl 3 rfl) ?_
  refine lv_if_lt (tgt := 28) hx hb dX4_addWords_6 (by decide) (fun hc => ?_) (fun hc => ?_)
  · have hq := hq.1 hc
    exact kr_vret C0 hK hP hS hq dX4_addWords_28
  · have hq := hq.2 hc
    refine lv_iload_n hx hb dX4_addWords_9 rfl (lv_at hl 3 rfl) ?_
    refine lv_aload_n hx hb dX4_addWords_10 rfl (lv_at hl 1 rfl) ?_
    refine kg_X4_count C0 hK hP (kv_p (by decide) ho) kq_153 dX4_addWords_11 ?_
    refine lv_icmp_gt (tgt := 28) hx hb dX4_addWords_14 (by decide) (fun hc => ?_) (fun hc => ?_)
    · have hq := hq.1 hc
      exact kr_vret C0 hK hP hS hq dX4_addWords_28
    · have hq := hq.2 hc
      refine lv_aload_n hx hb dX4_addWords_17 rfl (lv_at hl 1 rfl) ?_
      refine kg_X4_count C0 hK hP (kv_p (by decide) ho) kq_153 dX4_addWords_18 ?_
      refine lv_iload_n hx hb dX4_addWords_21 rfl (lv_at hl 0 rfl) ?_
      refine lv_iadd hx hb dX4_addWords_22 ?_
      refine lv_bipush (v := 12) hx hb dX4_addWords_23 (by decide) ?_
      refine lv_icmp_le (tgt := 29) hx hb dX4_addWords_25 (by decide) (fun hc => ?_) (fun hc => ?_)
      · have hq := hq.1 hc
        refine lv_aload_n hx hb dX4_addWords_29 rfl (lv_at hl 1 rfl) ?_
        refine kg_X4_count C0 hK hP (kv_p (by decide) ho) kq_153 dX4_addWords_30 ?_
        refine lv_iconst (v := 1) hx hb dX4_addWords_33 (by decide) ?_
        refine lv_isub hx hb dX4_addWords_34 ?_
        refine lv_topi (fun x2 ex2 => ?_)
        have hq := hq x2 ex2
        refine lv_istore (lv' := [(4, .int x2), (3, .int x1), (0, .ref (ka_a G (0, o, 0))), (1, .ref (ka_a G (18, 0, 0))), (2, .int v2)]) hx hb dX4_addWords_35 hl (by decide) rfl (fun ls hl => ?_)
        obtain ⟨n3, hq⟩ := hq
        exact kb_X4_addWords_37 hI ho C0 hK n3 σ v2 x1 x2 hq H locs hP hS ls (lv_sub hl [2, 3, 4, 1, 0] rfl)
      · have hq := hq.2 hc
        exact kr_vret C0 hK hP hS hq dX4_addWords_28
/-! GlossRows$Page.dropWord(I)V -/
def rm_X4_dropWord : Room := { frames := 1, cells := 0, slots := 0, locals := 22 }
def kw_X4_dropWord_21 (o : Nat) (Q : ka_S → Prop) : Nat → ka_S → Int32 → Prop
  | 0, _, _ => False
  | n + 1, σ, v2 => ((σ.1 (0, o, 0) 2) ≤ v2 → Q σ) ∧
    (¬ (σ.1 (0, o, 0) 2) ≤ v2 → vp_in v2 12 ∧
      vp_in (v2 + (1 : Int32)) 12 ∧
      kw_X7_copyFrom σ o v2.toNatClampNeg o ((v2 + (1 : Int32)).toNatClampNeg) (fun σ7 => 
      ∀ x8 : Int32, x8 = v2 + (1 : Int32) →
      (kw_X4_dropWord_21 o Q n) σ7 x8))
def kw_X4_dropWord (σ : ka_S) (o : Nat) (v1 : Int32) (Q : ka_S → Prop) : Prop := kw_X4_hasWord σ o v1 (fun r2 σ1 => 
  (r2 = (0 : Int32) → Q σ1) ∧
  (¬ r2 = (0 : Int32) → ∀ σ3 : ka_S, σ3 = ka_wI σ1 (0, o, 0) 2 ((σ1.1 (0, o, 0) 2) - (1 : Int32)) →
    ∃ n4 : Nat, kw_X4_dropWord_21 o Q n4 σ3 v1))
set_option maxHeartbeats 4000000 in
set_option maxRecDepth 100000 in
theorem kb_X4_dropWord_21 {p : Program} {l : Launch} {e : Env} {s : State} {m : MethodId} {args : Array Value} {below : List Frame} {meth : Method} {c : Code} {G : ka_G} (hI : ka_I G) {o : Nat} (ho : o < 18) (C0 : ka_C p s m args meth c cX4_dropWord 3 "GlossRows$Page" none) (hK : ka_Kn G s) {Q : ka_S → Prop} : ∀ (n : Nat) (σ : ka_S) (v2 : Int32), kw_X4_dropWord_21 o Q n σ v2 → ∀ (H : Heap) (locs : List Loc), ka_P G σ H → va_S (ka_A G) s.heap H locs → ∀ ls : Array Slot, lv_has ls 3 [(0, .ref (ka_a G (0, o, 0))), (2, .int v2)] → W p l e rm_X4_dropWord s m args below meth c H locs 0 0 (MQ below (va_Qv Q (ka_B G) (ka_A G)) args s 0 0 (ka_A G)) (F0 m 21 ls []) := by
  obtain ⟨hx, hb, -, hml, hown, hts, -⟩ := id C0
  intro n
  induction n with
  | zero =>
    intro σ v2 hq
    rw [kw_X4_dropWord_21] at hq
    exact hq.elim
  | succ n ih =>
    intro σ v2 hq H locs hP hS ls hl
    rw [kw_X4_dropWord_21] at hq
    refine lv_iload_n hx hb dX4_dropWord_21 rfl (lv_at hl 1 rfl) ?_
    refine lv_aload_n hx hb dX4_dropWord_22 rfl (lv_at hl 0 rfl) ?_
    refine kg_X4_count C0 hK hP (kv_p (by decide) ho) kq_153 dX4_dropWord_23 ?_
    refine lv_icmp_ge (tgt := 52) hx hb dX4_dropWord_26 (by decide) (fun hc => ?_) (fun hc => ?_)
    · have hq := hq.1 hc
      exact kr_vret C0 hK hP hS hq dX4_dropWord_52
    · have hq := hq.2 hc
      refine lv_aload_n hx hb dX4_dropWord_29 rfl (lv_at hl 0 rfl) ?_
      refine kg_X4_words C0 hK hP (kv_p (by decide) ho) kq_148 dX4_dropWord_30 ?_
      refine lv_iload_n hx hb dX4_dropWord_33 rfl (lv_at hl 1 rfl) ?_
      obtain ⟨b5, hq⟩ := hq
      refine kr_aald (t := 3) C0 hK hP (kv_p (by decide) ho) rfl rfl b5 rfl dX4_dropWord_34 ?_
      refine lv_aload_n hx hb dX4_dropWord_35 rfl (lv_at hl 0 rfl) ?_
      refine kg_X4_words C0 hK hP (kv_p (by decide) ho) kq_148 dX4_dropWord_36 ?_
      refine lv_iload_n hx hb dX4_dropWord_39 rfl (lv_at hl 1 rfl) ?_
      refine lv_iconst (v := 1) hx hb dX4_dropWord_40 (by decide) ?_
      refine lv_iadd hx hb dX4_dropWord_41 ?_
      obtain ⟨b6, hq⟩ := hq
      refine kr_aald (t := 3) C0 hK hP (kv_p (by decide) ho) rfl rfl b6 rfl dX4_dropWord_42 ?_
      refine kr_Vv (k := (5, o, v2.toNatClampNeg)) (As := [.ref (ka_a G (5, o, (v2 + (1 : Int32)).toNatClampNeg))]) (rest := []) C0 hK hP hS hl (km_X7_copyFrom l hI (k_19 ho) (vp_lt b5) (k_19 ho) (vp_lt b6) hq) kd_X7_copyFrom kq_416 (kv_w (by decide) (by decide) (k_19 ho) (vp_lt b5)) rfl rfl rfl ⟨rfl, rfl, Nat.le_of_ble_eq_true rfl, Nat.le_of_ble_eq_true rfl⟩ rfl (Nat.le_of_ble_eq_true rfl) dX4_dropWord_43 ⟨Nat.zero_le _, Nat.zero_le _⟩ (fun σ7 H locs hq hP hS => ?_)
      obtain ⟨x8, ex8⟩ : ∃ y : Int32, y = v2 + (1 : Int32) := ⟨_, rfl⟩
      have hq := hq x8 ex8
      refine lv_iinc (v := x8) (lv' := [(2, .int x8), (0, .ref (ka_a G (0, o, 0)))]) hx hb dX4_dropWord_46 hl (k := 1) rfl (by rw [ex8]; rfl) (by decide) rfl (fun ls hl => ?_)
      refine lv_goto (tgt := 21) hx hb dX4_dropWord_49 (by decide) ?_
      exact ih σ7 x8 hq H locs hP hS ls (lv_sub hl [1, 0] rfl)
set_option maxHeartbeats 4000000 in
set_option maxRecDepth 100000 in
theorem km_X4_dropWord (l : Launch) {G : ka_G} (hI : ka_I G) {o : Nat} (ho : o < 18) {σ : ka_S} {v1 : Int32} {Q : ka_S → Prop} (hq : kw_X4_dropWord σ o v1 Q) : kc_v l yX4_dropWord (kw_ yX4_dropWord cX4_dropWord 3 none) rm_X4_dropWord G [.ref (ka_a G (0, o, 0)), .int v1] σ Q := by
  refine ka_of "GlossRows$Page" rfl (by decide) (Nat.le_of_ble_eq_true rfl) ?_
  intro p e s m below meth c C0 hK H locs hP hS ls hl
  obtain ⟨hx, hb, -, hml, hown, hts, -⟩ := id C0
  have hl : lv_has ls 3 [(0, .ref (ka_a G (0, o, 0))), (1, .int v1)] := hl
  unfold kw_X4_dropWord at hq
  refine lv_aload_n hx hb dX4_dropWord_0 rfl (lv_at hl 0 rfl) ?_
  refine lv_iload_n hx hb dX4_dropWord_1 rfl (lv_at hl 1 rfl) ?_
  refine kr_Vi (k := (0, o, 0)) (As := [.int v1]) (rest := []) C0 hK hP hS hl (km_X4_hasWord l hI ho hq) kd_X4_hasWord kq_597 (kv_p (by decide) ho) rfl rfl rfl ⟨rfl, rfl, Nat.le_of_ble_eq_true rfl, Nat.le_of_ble_eq_true rfl⟩ rfl (Nat.le_of_ble_eq_true rfl) dX4_dropWord_2 ⟨Nat.zero_le _, Nat.zero_le _⟩ (fun r2 σ1 H locs hq hP hS => ?_)
  refine lv_if_ne (tgt := 9) hx hb dX4_dropWord_5 (by decide) (fun hc => ?_) (fun hc => ?_)
  · have hq := hq.2 hc
    refine lv_aload_n hx hb dX4_dropWord_9 rfl (lv_at hl 0 rfl) ?_
    refine lv_dup hx hb dX4_dropWord_10 rfl ?_
    refine kg_X4_count C0 hK hP (kv_p (by decide) ho) kq_153 dX4_dropWord_11 ?_
    refine lv_iconst (v := 1) hx hb dX4_dropWord_14 (by decide) ?_
    refine lv_isub hx hb dX4_dropWord_15 ?_
    refine kp_X4_count C0 hK hI hP hS (kv_p (by decide) ho) kq_153 dX4_dropWord_16 (fun H locs hP hS => ?_)
    obtain ⟨σ3, eσ3⟩ : ∃ z : ka_S, z = ka_wI σ1 (0, o, 0) 2 ((σ1.1 (0, o, 0) 2) - (1 : Int32)) := ⟨_, rfl⟩
    rw [← eσ3] at hP
    have hq := hq σ3 eσ3
    refine lv_iload_n hx hb dX4_dropWord_19 rfl (lv_at hl 1 rfl) ?_
    refine lv_istore_n (lv' := [(2, .int v1), (0, .ref (ka_a G (0, o, 0))), (1, .int v1)]) hx hb dX4_dropWord_20 rfl hl (by decide) rfl (fun ls hl => ?_)
    obtain ⟨n4, hq⟩ := hq
    exact kb_X4_dropWord_21 hI ho C0 hK n4 σ3 v1 hq H locs hP hS ls (lv_sub hl [1, 0] rfl)
  · have hq := hq.1 hc
    exact kr_vret C0 hK hP hS hq dX4_dropWord_8
/-! GlossRows$Page.allows(II)Z -/
def rm_X4_allows : Room := { frames := 0, cells := 0, slots := 0, locals := 0 }
def kw_X4_allows (σ : ka_S) (v0 : Int32) (v1 : Int32) (Q : Int32 → ka_S → Prop) : Prop := (v0 = (9 : Int32) → (v1 < (10 : Int32) → Q (0 : Int32) σ) ∧
  (¬ v1 < (10 : Int32) → ((60 : Int32) < v1 → Q (0 : Int32) σ) ∧
    (¬ (60 : Int32) < v1 → Q (1 : Int32) σ))) ∧
  (¬ v0 = (9 : Int32) → (v0 = (10 : Int32) → (v1 < (1 : Int32) → Q (0 : Int32) σ) ∧
  (¬ v1 < (1 : Int32) → ((3 : Int32) < v1 → Q (0 : Int32) σ) ∧
    (¬ (3 : Int32) < v1 → Q (1 : Int32) σ))) ∧
  (¬ v0 = (10 : Int32) → (v0 = (11 : Int32) → (v1 = (0 : Int32) → Q (1 : Int32) σ) ∧
  (¬ v1 = (0 : Int32) → (v1 = (1 : Int32) → Q (1 : Int32) σ) ∧
    (¬ v1 = (1 : Int32) → Q (0 : Int32) σ))) ∧
  (¬ v0 = (11 : Int32) → Q (0 : Int32) σ)))
set_option maxHeartbeats 4000000 in
set_option maxRecDepth 100000 in
theorem km_X4_allows (l : Launch) {G : ka_G} (hI : ka_I G) {σ : ka_S} {v0 : Int32} {v1 : Int32} {Q : Int32 → ka_S → Prop} (hq : kw_X4_allows σ v0 v1 Q) : kc_i l yX4_allows (kw_ yX4_allows cX4_allows 2 (some .boolean)) rm_X4_allows G [.int v0, .int v1] σ Q := by
  refine ka_of "GlossRows$Page" rfl (by decide) (Nat.le_of_ble_eq_true rfl) ?_
  intro p e s m below meth c C0 hK H locs hP hS ls hl
  obtain ⟨hx, hb, -, hml, hown, hts, -⟩ := id C0
  have hl : lv_has ls 2 [(0, .int v0), (1, .int v1)] := hl
  unfold kw_X4_allows at hq
  refine lv_iload_n hx hb dX4_allows_0 rfl (lv_at hl 0 rfl) ?_
  by_cases hsw9 : v0 = (9 : Int32)
  · have hq := hq.1 hsw9
    refine lv_tableIn (off := 27) (tgt := 28) hx hb dX4_allows_1 (by rw [hsw9]; decide) (by rw [hsw9]; decide) (by rw [hsw9]; decide) (by decide) ?_
    refine lv_iload_n hx hb dX4_allows_28 rfl (lv_at hl 1 rfl) ?_
    refine lv_bipush (v := 10) hx hb dX4_allows_29 (by decide) ?_
    refine lv_icmp_lt (tgt := 44) hx hb dX4_allows_31 (by decide) (fun hc => ?_) (fun hc => ?_)
    · have hq := hq.1 hc
      refine lv_iconst (v := 0) hx hb dX4_allows_44 (by decide) ?_
      exact kr_zret C0 hK hP hS rfl hq dX4_allows_45
    · have hq := hq.2 hc
      refine lv_iload_n hx hb dX4_allows_34 rfl (lv_at hl 1 rfl) ?_
      refine lv_bipush (v := 60) hx hb dX4_allows_35 (by decide) ?_
      refine lv_icmp_gt (tgt := 44) hx hb dX4_allows_37 (by decide) (fun hc => ?_) (fun hc => ?_)
      · have hq := hq.1 hc
        refine lv_iconst (v := 0) hx hb dX4_allows_44 (by decide) ?_
        exact kr_zret C0 hK hP hS rfl hq dX4_allows_45
      · have hq := hq.2 hc
        refine lv_iconst (v := 1) hx hb dX4_allows_40 (by decide) ?_
        refine lv_goto (tgt := 45) hx hb dX4_allows_41 (by decide) ?_
        exact kr_zret C0 hK hP hS rfl hq dX4_allows_45
  · have hq := hq.2 hsw9
    by_cases hsw10 : v0 = (10 : Int32)
    · have hq := hq.1 hsw10
      refine lv_tableIn (off := 45) (tgt := 46) hx hb dX4_allows_1 (by rw [hsw10]; decide) (by rw [hsw10]; decide) (by rw [hsw10]; decide) (by decide) ?_
      refine lv_iload_n hx hb dX4_allows_46 rfl (lv_at hl 1 rfl) ?_
      refine lv_iconst (v := 1) hx hb dX4_allows_47 (by decide) ?_
      refine lv_icmp_lt (tgt := 60) hx hb dX4_allows_48 (by decide) (fun hc => ?_) (fun hc => ?_)
      · have hq := hq.1 hc
        refine lv_iconst (v := 0) hx hb dX4_allows_60 (by decide) ?_
        exact kr_zret C0 hK hP hS rfl hq dX4_allows_61
      · have hq := hq.2 hc
        refine lv_iload_n hx hb dX4_allows_51 rfl (lv_at hl 1 rfl) ?_
        refine lv_iconst (v := 3) hx hb dX4_allows_52 (by decide) ?_
        refine lv_icmp_gt (tgt := 60) hx hb dX4_allows_53 (by decide) (fun hc => ?_) (fun hc => ?_)
        · have hq := hq.1 hc
          refine lv_iconst (v := 0) hx hb dX4_allows_60 (by decide) ?_
          exact kr_zret C0 hK hP hS rfl hq dX4_allows_61
        · have hq := hq.2 hc
          refine lv_iconst (v := 1) hx hb dX4_allows_56 (by decide) ?_
          refine lv_goto (tgt := 61) hx hb dX4_allows_57 (by decide) ?_
          exact kr_zret C0 hK hP hS rfl hq dX4_allows_61
    · have hq := hq.2 hsw10
      by_cases hsw11 : v0 = (11 : Int32)
      · have hq := hq.1 hsw11
        refine lv_tableIn (off := 61) (tgt := 62) hx hb dX4_allows_1 (by rw [hsw11]; decide) (by rw [hsw11]; decide) (by rw [hsw11]; decide) (by decide) ?_
        refine lv_iload_n hx hb dX4_allows_62 rfl (lv_at hl 1 rfl) ?_
        refine lv_if_eq (tgt := 71) hx hb dX4_allows_63 (by decide) (fun hc => ?_) (fun hc => ?_)
        · have hq := hq.1 hc
          refine lv_iconst (v := 1) hx hb dX4_allows_71 (by decide) ?_
          refine lv_goto (tgt := 76) hx hb dX4_allows_72 (by decide) ?_
          exact kr_zret C0 hK hP hS rfl hq dX4_allows_76
        · have hq := hq.2 hc
          refine lv_iload_n hx hb dX4_allows_66 rfl (lv_at hl 1 rfl) ?_
          refine lv_iconst (v := 1) hx hb dX4_allows_67 (by decide) ?_
          refine lv_icmp_ne (tgt := 75) hx hb dX4_allows_68 (by decide) (fun hc => ?_) (fun hc => ?_)
          · have hq := hq.2 hc
            refine lv_iconst (v := 0) hx hb dX4_allows_75 (by decide) ?_
            exact kr_zret C0 hK hP hS rfl hq dX4_allows_76
          · have hq := hq.1 hc
            refine lv_iconst (v := 1) hx hb dX4_allows_71 (by decide) ?_
            refine lv_goto (tgt := 76) hx hb dX4_allows_72 (by decide) ?_
            exact kr_zret C0 hK hP hS rfl hq dX4_allows_76
      · have hq := hq.2 hsw11
        refine lv_tableOut (tgt := 77) hx hb dX4_allows_1 (kt_9_11 (x := v0) hsw9 hsw10 hsw11) (by decide) ?_
        refine lv_iconst (v := 0) hx hb dX4_allows_77 (by decide) ?_
        exact kr_zret C0 hK hP hS rfl hq dX4_allows_78
/-! GlossRows$Page.change(II)I -/
def rm_X4_change : Room := { frames := 0, cells := 0, slots := 0, locals := 0 }
def kw_X4_change (σ : ka_S) (o : Nat) (v1 : Int32) (v2 : Int32) (Q : Int32 → ka_S → Prop) : Prop := ∀ x1 : Int32, x1 = (σ.1 (0, o, 0) 3) → 
  (v1 = (9 : Int32) → ∀ σ6 : ka_S, σ6 = ka_wI σ (0, o, 0) 3 v2 →
    Q x1 σ6) ∧
  (¬ v1 = (9 : Int32) → (v1 = (10 : Int32) → ∀ x4 : Int32, x4 = (σ.1 (0, o, 0) 4) → 
      ∀ σ5 : ka_S, σ5 = ka_wI σ (0, o, 0) 4 v2 →
      Q x4 σ5) ∧
    (¬ v1 = (10 : Int32) → ∀ x2 : Int32, x2 = (σ.1 (0, o, 0) 5) → 
      ∀ σ3 : ka_S, σ3 = ka_wI σ (0, o, 0) 5 v2 →
      Q x2 σ3))
set_option maxHeartbeats 4000000 in
set_option maxRecDepth 100000 in
theorem km_X4_change (l : Launch) {G : ka_G} (hI : ka_I G) {o : Nat} (ho : o < 18) {σ : ka_S} {v1 : Int32} {v2 : Int32} {Q : Int32 → ka_S → Prop} (hq : kw_X4_change σ o v1 v2 Q) : kc_i l yX4_change (kw_ yX4_change cX4_change 4 (some .int)) rm_X4_change G [.ref (ka_a G (0, o, 0)), .int v1, .int v2] σ Q := by
  refine ka_of "GlossRows$Page" rfl (by decide) (Nat.le_of_ble_eq_true rfl) ?_
  intro p e s m below meth c C0 hK H locs hP hS ls hl
  obtain ⟨hx, hb, -, hml, hown, hts, -⟩ := id C0
  have hl : lv_has ls 4 [(0, .ref (ka_a G (0, o, 0))), (1, .int v1), (2, .int v2)] := hl
  unfold kw_X4_change at hq
  refine lv_aload_n hx hb dX4_change_0 rfl (lv_at hl 0 rfl) ?_
  refine kg_X4_width C0 hK hP (kv_p (by decide) ho) kq_156 dX4_change_1 ?_
  refine lv_topi (fun x1 ex1 => ?_)
  have hq := hq x1 ex1
  refine lv_istore_n (lv' := [(3, .int x1), (0, .ref (ka_a G (0, o, 0))), (1, .int v1), (2, .int v2)]) hx hb dX4_change_4 rfl hl (by decide) rfl (fun ls hl => ?_)
  refine lv_iload_n hx hb dX4_change_5 rfl (lv_at hl 2 rfl) ?_
  refine lv_bipush (v := 9) hx hb dX4_change_6 (by decide) ?_
  refine lv_icmp_ne (tgt := 19) hx hb dX4_change_8 (by decide) (fun hc => ?_) (fun hc => ?_)
  · have hq := hq.2 hc
    refine lv_iload_n hx hb dX4_change_19 rfl (lv_at hl 2 rfl) ?_
    refine lv_bipush (v := 10) hx hb dX4_change_20 (by decide) ?_
    refine lv_icmp_ne (tgt := 38) hx hb dX4_change_22 (by decide) (fun hc => ?_) (fun hc => ?_)
    · have hq := hq.2 hc
      refine lv_aload_n hx hb dX4_change_38 rfl (lv_at hl 1 rfl) ?_
      refine kg_X4_way C0 hK hP (kv_p (by decide) ho) kq_162 dX4_change_39 ?_
      refine lv_topi (fun x2 ex2 => ?_)
      have hq := hq x2 ex2
      refine lv_istore_n (lv' := [(3, .int x2), (0, .ref (ka_a G (0, o, 0))), (1, .int v1), (2, .int v2)]) hx hb dX4_change_42 rfl hl (by decide) rfl (fun ls hl => ?_)
      refine lv_aload_n hx hb dX4_change_43 rfl (lv_at hl 1 rfl) ?_
      refine lv_iload_n hx hb dX4_change_44 rfl (lv_at hl 3 rfl) ?_
      refine kp_X4_way C0 hK hI hP hS (kv_p (by decide) ho) kq_162 dX4_change_45 (fun H locs hP hS => ?_)
      obtain ⟨σ3, eσ3⟩ : ∃ z : ka_S, z = ka_wI σ (0, o, 0) 5 v2 := ⟨_, rfl⟩
      rw [← eσ3] at hP
      have hq := hq σ3 eσ3
      refine lv_iload_n hx hb dX4_change_48 rfl (lv_at hl 0 rfl) ?_
      exact kr_iret C0 hK hP hS hq dX4_change_49
    · have hq := hq.1 hc
      refine lv_aload_n hx hb dX4_change_25 rfl (lv_at hl 1 rfl) ?_
      refine kg_X4_space C0 hK hP (kv_p (by decide) ho) kq_159 dX4_change_26 ?_
      refine lv_topi (fun x4 ex4 => ?_)
      have hq := hq x4 ex4
      refine lv_istore_n (lv' := [(3, .int x4), (0, .ref (ka_a G (0, o, 0))), (1, .int v1), (2, .int v2)]) hx hb dX4_change_29 rfl hl (by decide) rfl (fun ls hl => ?_)
      refine lv_aload_n hx hb dX4_change_30 rfl (lv_at hl 1 rfl) ?_
      refine lv_iload_n hx hb dX4_change_31 rfl (lv_at hl 3 rfl) ?_
      refine kp_X4_space C0 hK hI hP hS (kv_p (by decide) ho) kq_159 dX4_change_32 (fun H locs hP hS => ?_)
      obtain ⟨σ5, eσ5⟩ : ∃ z : ka_S, z = ka_wI σ (0, o, 0) 4 v2 := ⟨_, rfl⟩
      rw [← eσ5] at hP
      have hq := hq σ5 eσ5
      refine lv_goto (tgt := 48) hx hb dX4_change_35 (by decide) ?_
      refine lv_iload_n hx hb dX4_change_48 rfl (lv_at hl 0 rfl) ?_
      exact kr_iret C0 hK hP hS hq dX4_change_49
  · have hq := hq.1 hc
    refine lv_aload_n hx hb dX4_change_11 rfl (lv_at hl 1 rfl) ?_
    refine lv_iload_n hx hb dX4_change_12 rfl (lv_at hl 3 rfl) ?_
    refine kp_X4_width C0 hK hI hP hS (kv_p (by decide) ho) kq_156 dX4_change_13 (fun H locs hP hS => ?_)
    obtain ⟨σ6, eσ6⟩ : ∃ z : ka_S, z = ka_wI σ (0, o, 0) 3 v2 := ⟨_, rfl⟩
    rw [← eσ6] at hP
    have hq := hq σ6 eσ6
    refine lv_goto (tgt := 48) hx hb dX4_change_16 (by decide) ?_
    refine lv_iload_n hx hb dX4_change_48 rfl (lv_at hl 0 rfl) ?_
    exact kr_iret C0 hK hP hS hq dX4_change_49
/-! GlossRows$Page.canLearn(II)Z -/
def rm_X4_canLearn : Room := { frames := 2, cells := 0, slots := 0, locals := 45 }
def kw_X4_canLearn (σ : ka_S) (o : Nat) (v1 : Int32) (v2 : Int32) (Q : Int32 → ka_S → Prop) : Prop := kw_X4_hasPart σ o v1 v2 (fun r2 σ1 => 
  (r2 = (0 : Int32) → Q (0 : Int32) σ1) ∧
  (¬ r2 = (0 : Int32) → vp_in v1 12 ∧
    vp_in v2 4 ∧
    ((σ1.2 (7, o, v1.toNatClampNeg) v2.toNatClampNeg) = (0 : Int64) → Q (0 : Int32) σ1) ∧
    (¬ (σ1.2 (7, o, v1.toNatClampNeg) v2.toNatClampNeg) = (0 : Int64) → vp_in v1 12 ∧
      vp_in v2 4 ∧
      kw_X3_canTake σ1 o (σ1.2 (6, o, v1.toNatClampNeg) v2.toNatClampNeg) (fun r8 σ7 => 
      (r8 = (0 : Int32) → Q (0 : Int32) σ7) ∧
      (¬ r8 = (0 : Int32) → Q (1 : Int32) σ7)))))
set_option maxHeartbeats 4000000 in
set_option maxRecDepth 100000 in
theorem km_X4_canLearn (l : Launch) {G : ka_G} (hI : ka_I G) {o : Nat} (ho : o < 18) {σ : ka_S} {v1 : Int32} {v2 : Int32} {Q : Int32 → ka_S → Prop} (hq : kw_X4_canLearn σ o v1 v2 Q) : kc_i l yX4_canLearn (kw_ yX4_canLearn cX4_canLearn 3 (some .boolean)) rm_X4_canLearn G [.ref (ka_a G (0, o, 0)), .int v1, .int v2] σ Q := by
  refine ka_of "GlossRows$Page" rfl (by decide) (Nat.le_of_ble_eq_true rfl) ?_
  intro p e s m below meth c C0 hK H locs hP hS ls hl
  obtain ⟨hx, hb, -, hml, hown, hts, -⟩ := id C0
  have hl : lv_has ls 3 [(0, .ref (ka_a G (0, o, 0))), (1, .int v1), (2, .int v2)] := hl
  unfold kw_X4_canLearn at hq
  refine lv_aload_n hx hb dX4_canLearn_0 rfl (lv_at hl 0 rfl) ?_
  refine lv_iload_n hx hb dX4_canLearn_1 rfl (lv_at hl 1 rfl) ?_
  refine lv_iload_n hx hb dX4_canLearn_2 rfl (lv_at hl 2 rfl) ?_
  refine kr_Vi (k := (0, o, 0)) (As := [.int v1, .int v2]) (rest := []) C0 hK hP hS hl (km_X4_hasPart l hI ho hq) kd_X4_hasPart kq_771 (kv_p (by decide) ho) rfl rfl rfl ⟨rfl, rfl, Nat.le_of_ble_eq_true rfl, Nat.le_of_ble_eq_true rfl⟩ rfl (Nat.le_of_ble_eq_true rfl) dX4_canLearn_3 ⟨Nat.zero_le _, Nat.zero_le _⟩ (fun r2 σ1 H locs hq hP hS => ?_)
  refine lv_if_eq (tgt := 50) hx hb dX4_canLearn_6 (by decide) (fun hc => ?_) (fun hc => ?_)
  · have hq := hq.1 hc
    refine lv_iconst (v := 0) hx hb dX4_canLearn_50 (by decide) ?_
    exact kr_zret C0 hK hP hS rfl hq dX4_canLearn_51
  · have hq := hq.2 hc
    refine lv_aload_n hx hb dX4_canLearn_9 rfl (lv_at hl 0 rfl) ?_
    refine kg_X4_words C0 hK hP (kv_p (by decide) ho) kq_148 dX4_canLearn_10 ?_
    refine lv_iload_n hx hb dX4_canLearn_13 rfl (lv_at hl 1 rfl) ?_
    obtain ⟨b3, hq⟩ := hq
    refine kr_aald (t := 3) C0 hK hP (kv_p (by decide) ho) rfl rfl b3 rfl dX4_canLearn_14 ?_
    refine kg_X7_glosses C0 hK hP (kv_w (by decide) (by decide) (k_19 ho) (vp_lt b3)) kq_64 dX4_canLearn_15 ?_
    refine lv_iload_n hx hb dX4_canLearn_18 rfl (lv_at hl 2 rfl) ?_
    obtain ⟨b4, hq⟩ := hq
    refine kr_lald C0 hK hP (kv_w (by decide) (by decide) (k_19 ho) (vp_lt b3)) rfl b4 dX4_canLearn_19 ?_
    refine lv_lconst (v := 0) hx hb dX4_canLearn_20 (by decide) ?_
    refine kr_ceq (tgt := 50) C0 dX4_canLearn_21 dX4_canLearn_22 (by decide) (fun hc => ?_) (fun hc => ?_)
    · have hq := hq.1 hc
      refine lv_iconst (v := 0) hx hb dX4_canLearn_50 (by decide) ?_
      exact kr_zret C0 hK hP hS rfl hq dX4_canLearn_51
    · have hq := hq.2 hc
      refine lv_aload_n hx hb dX4_canLearn_25 rfl (lv_at hl 0 rfl) ?_
      refine kg_X4_lexicon C0 hK hP (kv_p (by decide) ho) kq_151 dX4_canLearn_26 ?_
      refine lv_aload_n hx hb dX4_canLearn_29 rfl (lv_at hl 0 rfl) ?_
      refine kg_X4_words C0 hK hP (kv_p (by decide) ho) kq_148 dX4_canLearn_30 ?_
      refine lv_iload_n hx hb dX4_canLearn_33 rfl (lv_at hl 1 rfl) ?_
      obtain ⟨b5, hq⟩ := hq
      refine kr_aald (t := 3) C0 hK hP (kv_p (by decide) ho) rfl rfl b5 rfl dX4_canLearn_34 ?_
      refine kg_X7_parts C0 hK hP (kv_w (by decide) (by decide) (k_19 ho) (vp_lt b5)) kq_60 dX4_canLearn_35 ?_
      refine lv_iload_n hx hb dX4_canLearn_38 rfl (lv_at hl 2 rfl) ?_
      obtain ⟨b6, hq⟩ := hq
      refine kr_lald C0 hK hP (kv_w (by decide) (by decide) (k_19 ho) (vp_lt b5)) rfl b6 dX4_canLearn_39 ?_
      refine kr_Vi (k := (2, o, 0)) (As := [.long (σ1.2 (6, o, v1.toNatClampNeg) v2.toNatClampNeg)]) (rest := []) C0 hK hP hS hl (km_X3_canTake l hI ho hq) kd_X3_canTake kq_772 (kv_p (by decide) ho) rfl rfl rfl ⟨rfl, rfl, Nat.le_of_ble_eq_true rfl, Nat.le_of_ble_eq_true rfl⟩ rfl (Nat.le_of_ble_eq_true rfl) dX4_canLearn_40 ⟨Nat.zero_le _, Nat.zero_le _⟩ (fun r8 σ7 H locs hq hP hS => ?_)
      refine lv_if_eq (tgt := 50) hx hb dX4_canLearn_43 (by decide) (fun hc => ?_) (fun hc => ?_)
      · have hq := hq.1 hc
        refine lv_iconst (v := 0) hx hb dX4_canLearn_50 (by decide) ?_
        exact kr_zret C0 hK hP hS rfl hq dX4_canLearn_51
      · have hq := hq.2 hc
        refine lv_iconst (v := 1) hx hb dX4_canLearn_46 (by decide) ?_
        refine lv_goto (tgt := 51) hx hb dX4_canLearn_47 (by decide) ?_
        exact kr_zret C0 hK hP hS rfl hq dX4_canLearn_51
/-! GlossRows$Page.learnPart(II)V -/
def rm_X4_learnPart : Room := { frames := 3, cells := 0, slots := 0, locals := 67 }
def kw_X4_learnPart (σ : ka_S) (o : Nat) (v1 : Int32) (v2 : Int32) (Q : ka_S → Prop) : Prop := kw_X4_canLearn σ o v1 v2 (fun r2 σ1 => 
  (r2 = (0 : Int32) → Q σ1) ∧
  (¬ r2 = (0 : Int32) → vp_in v1 12 ∧
    vp_in v2 4 ∧
    vp_in v1 12 ∧
    vp_in v2 4 ∧
    kw_X3_take σ1 o (σ1.2 (6, o, v1.toNatClampNeg) v2.toNatClampNeg) (σ1.2 (7, o, v1.toNatClampNeg) v2.toNatClampNeg) (fun σ7 => 
    Q σ7)))
set_option maxHeartbeats 4000000 in
set_option maxRecDepth 100000 in
theorem km_X4_learnPart (l : Launch) {G : ka_G} (hI : ka_I G) {o : Nat} (ho : o < 18) {σ : ka_S} {v1 : Int32} {v2 : Int32} {Q : ka_S → Prop} (hq : kw_X4_learnPart σ o v1 v2 Q) : kc_v l yX4_learnPart (kw_ yX4_learnPart cX4_learnPart 3 none) rm_X4_learnPart G [.ref (ka_a G (0, o, 0)), .int v1, .int v2] σ Q := by
  refine ka_of "GlossRows$Page" rfl (by decide) (Nat.le_of_ble_eq_true rfl) ?_
  intro p e s m below meth c C0 hK H locs hP hS ls hl
  obtain ⟨hx, hb, -, hml, hown, hts, -⟩ := id C0
  have hl : lv_has ls 3 [(0, .ref (ka_a G (0, o, 0))), (1, .int v1), (2, .int v2)] := hl
  unfold kw_X4_learnPart at hq
  refine lv_aload_n hx hb dX4_learnPart_0 rfl (lv_at hl 0 rfl) ?_
  refine lv_iload_n hx hb dX4_learnPart_1 rfl (lv_at hl 1 rfl) ?_
  refine lv_iload_n hx hb dX4_learnPart_2 rfl (lv_at hl 2 rfl) ?_
  refine kr_Vi (k := (0, o, 0)) (As := [.int v1, .int v2]) (rest := []) C0 hK hP hS hl (km_X4_canLearn l hI ho hq) kd_X4_canLearn kq_781 (kv_p (by decide) ho) rfl rfl rfl ⟨rfl, rfl, Nat.le_of_ble_eq_true rfl, Nat.le_of_ble_eq_true rfl⟩ rfl (Nat.le_of_ble_eq_true rfl) dX4_learnPart_3 ⟨Nat.zero_le _, Nat.zero_le _⟩ (fun r2 σ1 H locs hq hP hS => ?_)
  refine lv_if_eq (tgt := 38) hx hb dX4_learnPart_6 (by decide) (fun hc => ?_) (fun hc => ?_)
  · have hq := hq.1 hc
    exact kr_vret C0 hK hP hS hq dX4_learnPart_38
  · have hq := hq.2 hc
    refine lv_aload_n hx hb dX4_learnPart_9 rfl (lv_at hl 0 rfl) ?_
    refine kg_X4_lexicon C0 hK hP (kv_p (by decide) ho) kq_151 dX4_learnPart_10 ?_
    refine lv_aload_n hx hb dX4_learnPart_13 rfl (lv_at hl 0 rfl) ?_
    refine kg_X4_words C0 hK hP (kv_p (by decide) ho) kq_148 dX4_learnPart_14 ?_
    refine lv_iload_n hx hb dX4_learnPart_17 rfl (lv_at hl 1 rfl) ?_
    obtain ⟨b3, hq⟩ := hq
    refine kr_aald (t := 3) C0 hK hP (kv_p (by decide) ho) rfl rfl b3 rfl dX4_learnPart_18 ?_
    refine kg_X7_parts C0 hK hP (kv_w (by decide) (by decide) (k_19 ho) (vp_lt b3)) kq_60 dX4_learnPart_19 ?_
    refine lv_iload_n hx hb dX4_learnPart_22 rfl (lv_at hl 2 rfl) ?_
    obtain ⟨b4, hq⟩ := hq
    refine kr_lald C0 hK hP (kv_w (by decide) (by decide) (k_19 ho) (vp_lt b3)) rfl b4 dX4_learnPart_23 ?_
    refine lv_aload_n hx hb dX4_learnPart_24 rfl (lv_at hl 0 rfl) ?_
    refine kg_X4_words C0 hK hP (kv_p (by decide) ho) kq_148 dX4_learnPart_25 ?_
    refine lv_iload_n hx hb dX4_learnPart_28 rfl (lv_at hl 1 rfl) ?_
    obtain ⟨b5, hq⟩ := hq
    refine kr_aald (t := 3) C0 hK hP (kv_p (by decide) ho) rfl rfl b5 rfl dX4_learnPart_29 ?_
    refine kg_X7_glosses C0 hK hP (kv_w (by decide) (by decide) (k_19 ho) (vp_lt b5)) kq_64 dX4_learnPart_30 ?_
    refine lv_iload_n hx hb dX4_learnPart_33 rfl (lv_at hl 2 rfl) ?_
    obtain ⟨b6, hq⟩ := hq
    refine kr_lald C0 hK hP (kv_w (by decide) (by decide) (k_19 ho) (vp_lt b5)) rfl b6 dX4_learnPart_34 ?_
    refine kr_Vv (k := (2, o, 0)) (As := [.long (σ1.2 (6, o, v1.toNatClampNeg) v2.toNatClampNeg), .long (σ1.2 (7, o, v1.toNatClampNeg) v2.toNatClampNeg)]) (rest := []) C0 hK hP hS hl (km_X3_take l hI ho hq) kd_X3_take kq_782 (kv_p (by decide) ho) rfl rfl rfl ⟨rfl, rfl, Nat.le_of_ble_eq_true rfl, Nat.le_of_ble_eq_true rfl⟩ rfl (Nat.le_of_ble_eq_true rfl) dX4_learnPart_35 ⟨Nat.zero_le _, Nat.zero_le _⟩ (fun σ7 H locs hq hP hS => ?_)
    exact kr_vret C0 hK hP hS hq dX4_learnPart_38
/-! GlossRows$Page.fill()I -/
def rm_X4_fill : Room := { frames := 1, cells := 0, slots := 0, locals := 23 }
def kw_X4_fill_14 (o : Nat) (K4 : ka_S → Int32 → Int32 → Prop) (Q : Int32 → ka_S → Prop) : Nat → ka_S → Int32 → Int32 → Int32 → Prop
  | 0, _, _, _, _ => False
  | n + 1, σ, v1, v2, v3 => vp_in v2 12 ∧
    ((σ.1 (5, o, v2.toNatClampNeg) 4) ≤ v3 → ∀ x4 : Int32, x4 = v2 + (1 : Int32) →
      K4 σ v1 x4) ∧
    (¬ (σ.1 (5, o, v2.toNatClampNeg) 4) ≤ v3 → vp_in v2 12 ∧
      vp_in v3 4 ∧
      kw_X3_find σ o (σ.2 (6, o, v2.toNatClampNeg) v3.toNatClampNeg) (fun r8 σ7 => 
      vp_in v2 12 ∧
      vp_in v3 4 ∧
      ((σ7.2 (7, o, v2.toNatClampNeg) v3.toNatClampNeg) = (0 : Int64) → (r8 = (-9 : Int32) → ∀ x12 : Int32, x12 = v3 + (1 : Int32) →
          (kw_X4_fill_14 o K4 Q n) σ7 v1 v2 x12) ∧
        (¬ r8 = (-9 : Int32) → vp_in v2 12 ∧
          vp_in r8 16 ∧
          vp_in v3 4 ∧
          ∀ σ16 : ka_S, σ16 = ka_wL σ7 (7, o, v2.toNatClampNeg) v3.toNatClampNeg (σ7.2 (4, o, 0) r8.toNatClampNeg) →
          ∀ x17 : Int32, x17 = v1 + (1 : Int32) →
          ∀ x18 : Int32, x18 = v3 + (1 : Int32) →
          (kw_X4_fill_14 o K4 Q n) σ16 x17 v2 x18)) ∧
      (¬ (σ7.2 (7, o, v2.toNatClampNeg) v3.toNatClampNeg) = (0 : Int64) → ∀ x11 : Int32, x11 = v3 + (1 : Int32) →
        (kw_X4_fill_14 o K4 Q n) σ7 v1 v2 x11)))
def kw_X4_fill_4 (o : Nat) (Q : Int32 → ka_S → Prop) : Nat → ka_S → Int32 → Int32 → Prop
  | 0, _, _, _ => False
  | n + 1, σ, v1, v2 => ((σ.1 (0, o, 0) 2) ≤ v2 → Q v1 σ) ∧
    (¬ (σ.1 (0, o, 0) 2) ≤ v2 → ∃ n2 : Nat, kw_X4_fill_14 o (kw_X4_fill_4 o Q n) Q n2 σ v1 v2 (0 : Int32))
def kw_X4_fill (σ : ka_S) (o : Nat) (Q : Int32 → ka_S → Prop) : Prop := ∃ n1 : Nat, kw_X4_fill_4 o Q n1 σ (0 : Int32) (0 : Int32)
set_option maxHeartbeats 4000000 in
set_option maxRecDepth 100000 in
theorem kb_X4_fill_14 {p : Program} {l : Launch} {e : Env} {s : State} {m : MethodId} {args : Array Value} {below : List Frame} {meth : Method} {c : Code} {G : ka_G} (hI : ka_I G) {o : Nat} (ho : o < 18) (C0 : ka_C p s m args meth c cX4_fill 5 "GlossRows$Page" (some .int)) (hK : ka_Kn G s) {Q : Int32 → ka_S → Prop} {K4 : ka_S → Int32 → Int32 → Prop} (hk4 : ∀ (σ : ka_S) (v1 : Int32) (v2 : Int32), K4 σ v1 v2 → ∀ (H : Heap) (locs : List Loc), ka_P G σ H → va_S (ka_A G) s.heap H locs → ∀ ls : Array Slot, lv_has ls 5 [(0, .ref (ka_a G (0, o, 0))), (1, .int v1), (2, .int v2)] → W p l e rm_X4_fill s m args below meth c H locs 0 0 (MQ below (va_Qi Q (ka_B G) (ka_A G)) args s 0 0 (ka_A G)) (F0 m 4 ls [])) : ∀ (n : Nat) (σ : ka_S) (v1 : Int32) (v2 : Int32) (v3 : Int32), kw_X4_fill_14 o K4 Q n σ v1 v2 v3 → ∀ (H : Heap) (locs : List Loc), ka_P G σ H → va_S (ka_A G) s.heap H locs → ∀ ls : Array Slot, lv_has ls 5 [(0, .ref (ka_a G (0, o, 0))), (1, .int v1), (2, .int v2), (3, .int v3)] → W p l e rm_X4_fill s m args below meth c H locs 0 0 (MQ below (va_Qi Q (ka_B G) (ka_A G)) args s 0 0 (ka_A G)) (F0 m 14 ls []) := by
  obtain ⟨hx, hb, -, hml, hown, hts, -⟩ := id C0
  intro n
  induction n with
  | zero =>
    intro σ v1 v2 v3 hq
    rw [kw_X4_fill_14] at hq
    exact hq.elim
  | succ n ih =>
    intro σ v1 v2 v3 hq H locs hP hS ls hl
    rw [kw_X4_fill_14] at hq
    refine lv_iload_n hx hb dX4_fill_14 rfl (lv_at hl 3 rfl) ?_
    refine lv_aload_n hx hb dX4_fill_15 rfl (lv_at hl 0 rfl) ?_
    refine kg_X4_words C0 hK hP (kv_p (by decide) ho) kq_148 dX4_fill_16 ?_
    refine lv_iload_n hx hb dX4_fill_19 rfl (lv_at hl 2 rfl) ?_
    obtain ⟨b3, hq⟩ := hq
    refine kr_aald (t := 3) C0 hK hP (kv_p (by decide) ho) rfl rfl b3 rfl dX4_fill_20 ?_
    refine kg_X7_size C0 hK hP (kv_w (by decide) (by decide) (k_19 ho) (vp_lt b3)) kq_70 dX4_fill_21 ?_
    refine lv_icmp_ge (tgt := 100) hx hb dX4_fill_24 (by decide) (fun hc => ?_) (fun hc => ?_)
    · have hq := hq.1 hc
      obtain ⟨x4, ex4⟩ : ∃ y : Int32, y = v2 + (1 : Int32) := ⟨_, rfl⟩
      have hq := hq x4 ex4
      refine lv_iinc (v := x4) (lv' := [(2, .int x4), (0, .ref (ka_a G (0, o, 0))), (1, .int v1), (3, .int v3)]) hx hb dX4_fill_100 hl (k := 2) rfl (by rw [ex4]; rfl) (by decide) rfl (fun ls hl => ?_)
      refine lv_goto (tgt := 4) hx hb dX4_fill_103 (by decide) ?_
      exact hk4 σ v1 x4 hq H locs hP hS ls (lv_sub hl [1, 2, 0] rfl)
    · have hq := hq.2 hc
      refine lv_aload_n hx hb dX4_fill_27 rfl (lv_at hl 0 rfl) ?_
      refine kg_X4_lexicon C0 hK hP (kv_p (by decide) ho) kq_151 dX4_fill_28 ?_
      refine lv_aload_n hx hb dX4_fill_31 rfl (lv_at hl 0 rfl) ?_
      refine kg_X4_words C0 hK hP (kv_p (by decide) ho) kq_148 dX4_fill_32 ?_
      refine lv_iload_n hx hb dX4_fill_35 rfl (lv_at hl 2 rfl) ?_
      obtain ⟨b5, hq⟩ := hq
      refine kr_aald (t := 3) C0 hK hP (kv_p (by decide) ho) rfl rfl b5 rfl dX4_fill_36 ?_
      refine kg_X7_parts C0 hK hP (kv_w (by decide) (by decide) (k_19 ho) (vp_lt b5)) kq_60 dX4_fill_37 ?_
      refine lv_iload_n hx hb dX4_fill_40 rfl (lv_at hl 3 rfl) ?_
      obtain ⟨b6, hq⟩ := hq
      refine kr_lald C0 hK hP (kv_w (by decide) (by decide) (k_19 ho) (vp_lt b5)) rfl b6 dX4_fill_41 ?_
      refine kr_Vi (k := (2, o, 0)) (As := [.long (σ.2 (6, o, v2.toNatClampNeg) v3.toNatClampNeg)]) (rest := []) C0 hK hP hS hl (km_X3_find l hI ho hq) kd_X3_find kq_538 (kv_p (by decide) ho) rfl rfl rfl ⟨rfl, rfl, Nat.le_of_ble_eq_true rfl, Nat.le_of_ble_eq_true rfl⟩ rfl (Nat.le_of_ble_eq_true rfl) dX4_fill_42 ⟨Nat.zero_le _, Nat.zero_le _⟩ (fun r8 σ7 H locs hq hP hS => ?_)
      refine lv_istore (lv' := [(4, .int r8), (0, .ref (ka_a G (0, o, 0))), (1, .int v1), (2, .int v2), (3, .int v3)]) hx hb dX4_fill_45 hl (by decide) rfl (fun ls hl => ?_)
      refine lv_aload_n hx hb dX4_fill_47 rfl (lv_at hl 1 rfl) ?_
      refine kg_X4_words C0 hK hP (kv_p (by decide) ho) kq_148 dX4_fill_48 ?_
      refine lv_iload_n hx hb dX4_fill_51 rfl (lv_at hl 3 rfl) ?_
      obtain ⟨b9, hq⟩ := hq
      refine kr_aald (t := 3) C0 hK hP (kv_p (by decide) ho) rfl rfl b9 rfl dX4_fill_52 ?_
      refine kg_X7_glosses C0 hK hP (kv_w (by decide) (by decide) (k_19 ho) (vp_lt b9)) kq_64 dX4_fill_53 ?_
      refine lv_iload_n hx hb dX4_fill_56 rfl (lv_at hl 4 rfl) ?_
      obtain ⟨b10, hq⟩ := hq
      refine kr_lald C0 hK hP (kv_w (by decide) (by decide) (k_19 ho) (vp_lt b9)) rfl b10 dX4_fill_57 ?_
      refine lv_lconst (v := 0) hx hb dX4_fill_58 (by decide) ?_
      refine kr_cne (tgt := 94) C0 dX4_fill_59 dX4_fill_60 (by decide) (fun hc => ?_) (fun hc => ?_)
      · have hq := hq.2 hc
        obtain ⟨x11, ex11⟩ : ∃ y : Int32, y = v3 + (1 : Int32) := ⟨_, rfl⟩
        have hq := hq x11 ex11
        refine lv_iinc (v := x11) (lv' := [(3, .int x11), (4, .int r8), (0, .ref (ka_a G (0, o, 0))), (1, .int v1), (2, .int v2)]) hx hb dX4_fill_94 hl (k := 4) rfl (by rw [ex11]; rfl) (by decide) rfl (fun ls hl => ?_)
        refine lv_goto (tgt := 14) hx hb dX4_fill_97 (by decide) ?_
        exact ih σ7 v1 v2 x11 hq H locs hP hS ls (lv_sub hl [2, 3, 4, 0] rfl)
      · have hq := hq.1 hc
        refine lv_iload hx hb dX4_fill_63 (lv_at hl 0 rfl) ?_
        refine lv_bipush (v := -9) hx hb dX4_fill_65 (by decide) ?_
        refine lv_icmp_eq (tgt := 94) hx hb dX4_fill_67 (by decide) (fun hc => ?_) (fun hc => ?_)
        · have hq := hq.1 hc
          obtain ⟨x12, ex12⟩ : ∃ y : Int32, y = v3 + (1 : Int32) := ⟨_, rfl⟩
          have hq := hq x12 ex12
          refine lv_iinc (v := x12) (lv' := [(3, .int x12), (4, .int r8), (0, .ref (ka_a G (0, o, 0))), (1, .int v1), (2, .int v2)]) hx hb dX4_fill_94 hl (k := 4) rfl (by rw [ex12]; rfl) (by decide) rfl (fun ls hl => ?_)
          refine lv_goto (tgt := 14) hx hb dX4_fill_97 (by decide) ?_
          exact ih σ7 v1 v2 x12 hq H locs hP hS ls (lv_sub hl [2, 3, 4, 0] rfl)
        · have hq := hq.2 hc
          refine lv_aload_n hx hb dX4_fill_70 rfl (lv_at hl 1 rfl) ?_
          refine kg_X4_words C0 hK hP (kv_p (by decide) ho) kq_148 dX4_fill_71 ?_
          refine lv_iload_n hx hb dX4_fill_74 rfl (lv_at hl 3 rfl) ?_
          obtain ⟨b13, hq⟩ := hq
          refine kr_aald (t := 3) C0 hK hP (kv_p (by decide) ho) rfl rfl b13 rfl dX4_fill_75 ?_
          refine kg_X7_glosses C0 hK hP (kv_w (by decide) (by decide) (k_19 ho) (vp_lt b13)) kq_64 dX4_fill_76 ?_
          refine lv_iload_n hx hb dX4_fill_79 rfl (lv_at hl 4 rfl) ?_
          refine lv_aload_n hx hb dX4_fill_80 rfl (lv_at hl 1 rfl) ?_
          refine kg_X4_lexicon C0 hK hP (kv_p (by decide) ho) kq_151 dX4_fill_81 ?_
          refine kg_X3_glosses C0 hK hP (kv_p (by decide) ho) kq_132 dX4_fill_84 ?_
          refine lv_iload hx hb dX4_fill_87 (lv_at hl 0 rfl) ?_
          obtain ⟨b14, hq⟩ := hq
          refine kr_lald C0 hK hP (kv_p (by decide) ho) rfl b14 dX4_fill_89 ?_
          obtain ⟨b15, hq⟩ := hq
          refine kr_last C0 hK hI hP hS (kv_w (by decide) (by decide) (k_19 ho) (vp_lt b13)) (fun _ => rfl) b15 dX4_fill_90 (fun H locs hP hS => ?_)
          obtain ⟨σ16, eσ16⟩ : ∃ z : ka_S, z = ka_wL σ7 (7, o, v2.toNatClampNeg) v3.toNatClampNeg (σ7.2 (4, o, 0) r8.toNatClampNeg) := ⟨_, rfl⟩
          rw [← eσ16] at hP
          have hq := hq σ16 eσ16
          obtain ⟨x17, ex17⟩ : ∃ y : Int32, y = v1 + (1 : Int32) := ⟨_, rfl⟩
          have hq := hq x17 ex17
          refine lv_iinc (v := x17) (lv' := [(1, .int x17), (4, .int r8), (0, .ref (ka_a G (0, o, 0))), (2, .int v2), (3, .int v3)]) hx hb dX4_fill_91 hl (k := 2) rfl (by rw [ex17]; rfl) (by decide) rfl (fun ls hl => ?_)
          obtain ⟨x18, ex18⟩ : ∃ y : Int32, y = v3 + (1 : Int32) := ⟨_, rfl⟩
          have hq := hq x18 ex18
          refine lv_iinc (v := x18) (lv' := [(3, .int x18), (1, .int x17), (4, .int r8), (0, .ref (ka_a G (0, o, 0))), (2, .int v2)]) hx hb dX4_fill_94 hl (k := 4) rfl (by rw [ex18]; rfl) (by decide) rfl (fun ls hl => ?_)
          refine lv_goto (tgt := 14) hx hb dX4_fill_97 (by decide) ?_
          exact ih σ16 x17 v2 x18 hq H locs hP hS ls (lv_sub hl [3, 1, 4, 0] rfl)
set_option maxHeartbeats 4000000 in
set_option maxRecDepth 100000 in
theorem kb_X4_fill_4 {p : Program} {l : Launch} {e : Env} {s : State} {m : MethodId} {args : Array Value} {below : List Frame} {meth : Method} {c : Code} {G : ka_G} (hI : ka_I G) {o : Nat} (ho : o < 18) (C0 : ka_C p s m args meth c cX4_fill 5 "GlossRows$Page" (some .int)) (hK : ka_Kn G s) {Q : Int32 → ka_S → Prop} : ∀ (n : Nat) (σ : ka_S) (v1 : Int32) (v2 : Int32), kw_X4_fill_4 o Q n σ v1 v2 → ∀ (H : Heap) (locs : List Loc), ka_P G σ H → va_S (ka_A G) s.heap H locs → ∀ ls : Array Slot, lv_has ls 5 [(0, .ref (ka_a G (0, o, 0))), (1, .int v1), (2, .int v2)] → W p l e rm_X4_fill s m args below meth c H locs 0 0 (MQ below (va_Qi Q (ka_B G) (ka_A G)) args s 0 0 (ka_A G)) (F0 m 4 ls []) := by
  obtain ⟨hx, hb, -, hml, hown, hts, -⟩ := id C0
  intro n
  induction n with
  | zero =>
    intro σ v1 v2 hq
    rw [kw_X4_fill_4] at hq
    exact hq.elim
  | succ n ih =>
    intro σ v1 v2 hq H locs hP hS ls hl
    rw [kw_X4_fill_4] at hq
    refine lv_iload_n hx hb dX4_fill_4 rfl (lv_at hl 2 rfl) ?_
    refine lv_aload_n hx hb dX4_fill_5 rfl (lv_at hl 0 rfl) ?_
    refine kg_X4_count C0 hK hP (kv_p (by decide) ho) kq_153 dX4_fill_6 ?_
    refine lv_icmp_ge (tgt := 106) hx hb dX4_fill_9 (by decide) (fun hc => ?_) (fun hc => ?_)
    · have hq := hq.1 hc
      refine lv_iload_n hx hb dX4_fill_106 rfl (lv_at hl 1 rfl) ?_
      exact kr_iret C0 hK hP hS hq dX4_fill_107
    · have hq := hq.2 hc
      refine lv_iconst (v := 0) hx hb dX4_fill_12 (by decide) ?_
      refine lv_istore_n (lv' := [(3, .int (0 : Int32)), (0, .ref (ka_a G (0, o, 0))), (1, .int v1), (2, .int v2)]) hx hb dX4_fill_13 rfl hl (by decide) rfl (fun ls hl => ?_)
      obtain ⟨n2, hq⟩ := hq
      exact kb_X4_fill_14 hI ho C0 hK ih n2 σ v1 v2 (0 : Int32) hq H locs hP hS ls (lv_sub hl [1, 2, 3, 0] rfl)
set_option maxHeartbeats 4000000 in
set_option maxRecDepth 100000 in
theorem km_X4_fill (l : Launch) {G : ka_G} (hI : ka_I G) {o : Nat} (ho : o < 18) {σ : ka_S} {Q : Int32 → ka_S → Prop} (hq : kw_X4_fill σ o Q) : kc_i l yX4_fill (kw_ yX4_fill cX4_fill 5 (some .int)) rm_X4_fill G [.ref (ka_a G (0, o, 0))] σ Q := by
  refine ka_of "GlossRows$Page" rfl (by decide) (Nat.le_of_ble_eq_true rfl) ?_
  intro p e s m below meth c C0 hK H locs hP hS ls hl
  obtain ⟨hx, hb, -, hml, hown, hts, -⟩ := id C0
  have hl : lv_has ls 5 [(0, .ref (ka_a G (0, o, 0)))] := hl
  unfold kw_X4_fill at hq
  refine lv_iconst (v := 0) hx hb dX4_fill_0 (by decide) ?_
  refine lv_istore_n (lv' := [(1, .int (0 : Int32)), (0, .ref (ka_a G (0, o, 0)))]) hx hb dX4_fill_1 rfl hl (by decide) rfl (fun ls hl => ?_)
  refine lv_iconst (v := 0) hx hb dX4_fill_2 (by decide) ?_
  refine lv_istore_n (lv' := [(2, .int (0 : Int32)), (1, .int (0 : Int32)), (0, .ref (ka_a G (0, o, 0)))]) hx hb dX4_fill_3 rfl hl (by decide) rfl (fun ls hl => ?_)
  obtain ⟨n1, hq⟩ := hq
  exact kb_X4_fill_4 hI ho C0 hK n1 σ (0 : Int32) (0 : Int32) hq H locs hP hS ls (lv_sub hl [2, 1, 0] rfl)
/-! GlossRows$Page.countParts()I -/
def rm_X4_countParts : Room := { frames := 0, cells := 0, slots := 0, locals := 0 }
def kw_X4_countParts_4 (o : Nat) (Q : Int32 → ka_S → Prop) : Nat → ka_S → Int32 → Int32 → Prop
  | 0, _, _, _ => False
  | n + 1, σ, v1, v2 => ((σ.1 (0, o, 0) 2) ≤ v2 → Q v1 σ) ∧
    (¬ (σ.1 (0, o, 0) 2) ≤ v2 → vp_in v2 12 ∧
      ∀ x3 : Int32, x3 = (v1 + (σ.1 (5, o, v2.toNatClampNeg) 4)) → 
      ∀ x4 : Int32, x4 = v2 + (1 : Int32) →
      (kw_X4_countParts_4 o Q n) σ x3 x4)
def kw_X4_countParts (σ : ka_S) (o : Nat) (Q : Int32 → ka_S → Prop) : Prop := ∃ n1 : Nat, kw_X4_countParts_4 o Q n1 σ (0 : Int32) (0 : Int32)
set_option maxHeartbeats 4000000 in
set_option maxRecDepth 100000 in
theorem kb_X4_countParts_4 {p : Program} {l : Launch} {e : Env} {s : State} {m : MethodId} {args : Array Value} {below : List Frame} {meth : Method} {c : Code} {G : ka_G} (hI : ka_I G) {o : Nat} (ho : o < 18) (C0 : ka_C p s m args meth c cX4_countParts 3 "GlossRows$Page" (some .int)) (hK : ka_Kn G s) {Q : Int32 → ka_S → Prop} : ∀ (n : Nat) (σ : ka_S) (v1 : Int32) (v2 : Int32), kw_X4_countParts_4 o Q n σ v1 v2 → ∀ (H : Heap) (locs : List Loc), ka_P G σ H → va_S (ka_A G) s.heap H locs → ∀ ls : Array Slot, lv_has ls 3 [(0, .ref (ka_a G (0, o, 0))), (1, .int v1), (2, .int v2)] → W p l e rm_X4_countParts s m args below meth c H locs 0 0 (MQ below (va_Qi Q (ka_B G) (ka_A G)) args s 0 0 (ka_A G)) (F0 m 4 ls []) := by
  obtain ⟨hx, hb, -, hml, hown, hts, -⟩ := id C0
  intro n
  induction n with
  | zero =>
    intro σ v1 v2 hq
    rw [kw_X4_countParts_4] at hq
    exact hq.elim
  | succ n ih =>
    intro σ v1 v2 hq H locs hP hS ls hl
    rw [kw_X4_countParts_4] at hq
    refine lv_iload_n hx hb dX4_countParts_4 rfl (lv_at hl 2 rfl) ?_
    refine lv_aload_n hx hb dX4_countParts_5 rfl (lv_at hl 0 rfl) ?_
    refine kg_X4_count C0 hK hP (kv_p (by decide) ho) kq_153 dX4_countParts_6 ?_
    refine lv_icmp_ge (tgt := 30) hx hb dX4_countParts_9 (by decide) (fun hc => ?_) (fun hc => ?_)
    · have hq := hq.1 hc
      refine lv_iload_n hx hb dX4_countParts_30 rfl (lv_at hl 1 rfl) ?_
      exact kr_iret C0 hK hP hS hq dX4_countParts_31
    · have hq := hq.2 hc
      refine lv_iload_n hx hb dX4_countParts_12 rfl (lv_at hl 1 rfl) ?_
      refine lv_aload_n hx hb dX4_countParts_13 rfl (lv_at hl 0 rfl) ?_
      refine kg_X4_words C0 hK hP (kv_p (by decide) ho) kq_148 dX4_countParts_14 ?_
      refine lv_iload_n hx hb dX4_countParts_17 rfl (lv_at hl 2 rfl) ?_
      obtain ⟨b2, hq⟩ := hq
      refine kr_aald (t := 3) C0 hK hP (kv_p (by decide) ho) rfl rfl b2 rfl dX4_countParts_18 ?_
      refine kg_X7_size C0 hK hP (kv_w (by decide) (by decide) (k_19 ho) (vp_lt b2)) kq_70 dX4_countParts_19 ?_
      refine lv_iadd hx hb dX4_countParts_22 ?_
      refine lv_topi (fun x3 ex3 => ?_)
      have hq := hq x3 ex3
      refine lv_istore_n (lv' := [(1, .int x3), (0, .ref (ka_a G (0, o, 0))), (2, .int v2)]) hx hb dX4_countParts_23 rfl hl (by decide) rfl (fun ls hl => ?_)
      obtain ⟨x4, ex4⟩ : ∃ y : Int32, y = v2 + (1 : Int32) := ⟨_, rfl⟩
      have hq := hq x4 ex4
      refine lv_iinc (v := x4) (lv' := [(2, .int x4), (1, .int x3), (0, .ref (ka_a G (0, o, 0)))]) hx hb dX4_countParts_24 hl (k := 2) rfl (by rw [ex4]; rfl) (by decide) rfl (fun ls hl => ?_)
      refine lv_goto (tgt := 4) hx hb dX4_countParts_27 (by decide) ?_
      exact ih σ x3 x4 hq H locs hP hS ls (lv_sub hl [2, 1, 0] rfl)
set_option maxHeartbeats 4000000 in
set_option maxRecDepth 100000 in
theorem km_X4_countParts (l : Launch) {G : ka_G} (hI : ka_I G) {o : Nat} (ho : o < 18) {σ : ka_S} {Q : Int32 → ka_S → Prop} (hq : kw_X4_countParts σ o Q) : kc_i l yX4_countParts (kw_ yX4_countParts cX4_countParts 3 (some .int)) rm_X4_countParts G [.ref (ka_a G (0, o, 0))] σ Q := by
  refine ka_of "GlossRows$Page" rfl (by decide) (Nat.le_of_ble_eq_true rfl) ?_
  intro p e s m below meth c C0 hK H locs hP hS ls hl
  obtain ⟨hx, hb, -, hml, hown, hts, -⟩ := id C0
  have hl : lv_has ls 3 [(0, .ref (ka_a G (0, o, 0)))] := hl
  unfold kw_X4_countParts at hq
  refine lv_iconst (v := 0) hx hb dX4_countParts_0 (by decide) ?_
  refine lv_istore_n (lv' := [(1, .int (0 : Int32)), (0, .ref (ka_a G (0, o, 0)))]) hx hb dX4_countParts_1 rfl hl (by decide) rfl (fun ls hl => ?_)
  refine lv_iconst (v := 0) hx hb dX4_countParts_2 (by decide) ?_
  refine lv_istore_n (lv' := [(2, .int (0 : Int32)), (1, .int (0 : Int32)), (0, .ref (ka_a G (0, o, 0)))]) hx hb dX4_countParts_3 rfl hl (by decide) rfl (fun ls hl => ?_)
  obtain ⟨n1, hq⟩ := hq
  exact kb_X4_countParts_4 hI ho C0 hK n1 σ (0 : Int32) (0 : Int32) hq H locs hP hS ls (lv_sub hl [2, 1, 0] rfl)
/-! GlossRows$Page.countGaps()I -/
def rm_X4_countGaps : Room := { frames := 1, cells := 0, slots := 0, locals := 22 }
def kw_X4_countGaps_4 (o : Nat) (Q : Int32 → ka_S → Prop) : Nat → ka_S → Int32 → Int32 → Prop
  | 0, _, _, _ => False
  | n + 1, σ, v1, v2 => ((σ.1 (0, o, 0) 2) ≤ v2 → Q v1 σ) ∧
    (¬ (σ.1 (0, o, 0) 2) ≤ v2 → vp_in v2 12 ∧
      kw_X7_countGaps σ o v2.toNatClampNeg (fun r4 σ3 => 
      ∀ x5 : Int32, x5 = (v1 + r4) → 
      ∀ x6 : Int32, x6 = v2 + (1 : Int32) →
      (kw_X4_countGaps_4 o Q n) σ3 x5 x6))
def kw_X4_countGaps (σ : ka_S) (o : Nat) (Q : Int32 → ka_S → Prop) : Prop := ∃ n1 : Nat, kw_X4_countGaps_4 o Q n1 σ (0 : Int32) (0 : Int32)
set_option maxHeartbeats 4000000 in
set_option maxRecDepth 100000 in
theorem kb_X4_countGaps_4 {p : Program} {l : Launch} {e : Env} {s : State} {m : MethodId} {args : Array Value} {below : List Frame} {meth : Method} {c : Code} {G : ka_G} (hI : ka_I G) {o : Nat} (ho : o < 18) (C0 : ka_C p s m args meth c cX4_countGaps 3 "GlossRows$Page" (some .int)) (hK : ka_Kn G s) {Q : Int32 → ka_S → Prop} : ∀ (n : Nat) (σ : ka_S) (v1 : Int32) (v2 : Int32), kw_X4_countGaps_4 o Q n σ v1 v2 → ∀ (H : Heap) (locs : List Loc), ka_P G σ H → va_S (ka_A G) s.heap H locs → ∀ ls : Array Slot, lv_has ls 3 [(0, .ref (ka_a G (0, o, 0))), (1, .int v1), (2, .int v2)] → W p l e rm_X4_countGaps s m args below meth c H locs 0 0 (MQ below (va_Qi Q (ka_B G) (ka_A G)) args s 0 0 (ka_A G)) (F0 m 4 ls []) := by
  obtain ⟨hx, hb, -, hml, hown, hts, -⟩ := id C0
  intro n
  induction n with
  | zero =>
    intro σ v1 v2 hq
    rw [kw_X4_countGaps_4] at hq
    exact hq.elim
  | succ n ih =>
    intro σ v1 v2 hq H locs hP hS ls hl
    rw [kw_X4_countGaps_4] at hq
    refine lv_iload_n hx hb dX4_countGaps_4 rfl (lv_at hl 2 rfl) ?_
    refine lv_aload_n hx hb dX4_countGaps_5 rfl (lv_at hl 0 rfl) ?_
    refine kg_X4_count C0 hK hP (kv_p (by decide) ho) kq_153 dX4_countGaps_6 ?_
    refine lv_icmp_ge (tgt := 30) hx hb dX4_countGaps_9 (by decide) (fun hc => ?_) (fun hc => ?_)
    · have hq := hq.1 hc
      refine lv_iload_n hx hb dX4_countGaps_30 rfl (lv_at hl 1 rfl) ?_
      exact kr_iret C0 hK hP hS hq dX4_countGaps_31
    · have hq := hq.2 hc
      refine lv_iload_n hx hb dX4_countGaps_12 rfl (lv_at hl 1 rfl) ?_
      refine lv_aload_n hx hb dX4_countGaps_13 rfl (lv_at hl 0 rfl) ?_
      refine kg_X4_words C0 hK hP (kv_p (by decide) ho) kq_148 dX4_countGaps_14 ?_
      refine lv_iload_n hx hb dX4_countGaps_17 rfl (lv_at hl 2 rfl) ?_
      obtain ⟨b2, hq⟩ := hq
      refine kr_aald (t := 3) C0 hK hP (kv_p (by decide) ho) rfl rfl b2 rfl dX4_countGaps_18 ?_
      refine kr_Vi (k := (5, o, v2.toNatClampNeg)) (As := []) (rest := [.int v1]) C0 hK hP hS hl (km_X7_countGaps l hI (k_19 ho) (vp_lt b2) hq) kd_X7_countGaps kq_494 (kv_w (by decide) (by decide) (k_19 ho) (vp_lt b2)) rfl rfl rfl ⟨rfl, rfl, Nat.le_of_ble_eq_true rfl, Nat.le_of_ble_eq_true rfl⟩ rfl (Nat.le_of_ble_eq_true rfl) dX4_countGaps_19 ⟨Nat.zero_le _, Nat.zero_le _⟩ (fun r4 σ3 H locs hq hP hS => ?_)
      refine lv_iadd hx hb dX4_countGaps_22 ?_
      refine lv_topi (fun x5 ex5 => ?_)
      have hq := hq x5 ex5
      refine lv_istore_n (lv' := [(1, .int x5), (0, .ref (ka_a G (0, o, 0))), (2, .int v2)]) hx hb dX4_countGaps_23 rfl hl (by decide) rfl (fun ls hl => ?_)
      obtain ⟨x6, ex6⟩ : ∃ y : Int32, y = v2 + (1 : Int32) := ⟨_, rfl⟩
      have hq := hq x6 ex6
      refine lv_iinc (v := x6) (lv' := [(2, .int x6), (1, .int x5), (0, .ref (ka_a G (0, o, 0)))]) hx hb dX4_countGaps_24 hl (k := 2) rfl (by rw [ex6]; rfl) (by decide) rfl (fun ls hl => ?_)
      refine lv_goto (tgt := 4) hx hb dX4_countGaps_27 (by decide) ?_
      exact ih σ3 x5 x6 hq H locs hP hS ls (lv_sub hl [2, 1, 0] rfl)
set_option maxHeartbeats 4000000 in
set_option maxRecDepth 100000 in
theorem km_X4_countGaps (l : Launch) {G : ka_G} (hI : ka_I G) {o : Nat} (ho : o < 18) {σ : ka_S} {Q : Int32 → ka_S → Prop} (hq : kw_X4_countGaps σ o Q) : kc_i l yX4_countGaps (kw_ yX4_countGaps cX4_countGaps 3 (some .int)) rm_X4_countGaps G [.ref (ka_a G (0, o, 0))] σ Q := by
  refine ka_of "GlossRows$Page" rfl (by decide) (Nat.le_of_ble_eq_true rfl) ?_
  intro p e s m below meth c C0 hK H locs hP hS ls hl
  obtain ⟨hx, hb, -, hml, hown, hts, -⟩ := id C0
  have hl : lv_has ls 3 [(0, .ref (ka_a G (0, o, 0)))] := hl
  unfold kw_X4_countGaps at hq
  refine lv_iconst (v := 0) hx hb dX4_countGaps_0 (by decide) ?_
  refine lv_istore_n (lv' := [(1, .int (0 : Int32)), (0, .ref (ka_a G (0, o, 0)))]) hx hb dX4_countGaps_1 rfl hl (by decide) rfl (fun ls hl => ?_)
  refine lv_iconst (v := 0) hx hb dX4_countGaps_2 (by decide) ?_
  refine lv_istore_n (lv' := [(2, .int (0 : Int32)), (1, .int (0 : Int32)), (0, .ref (ka_a G (0, o, 0)))]) hx hb dX4_countGaps_3 rfl hl (by decide) rfl (fun ls hl => ?_)
  obtain ⟨n1, hq⟩ := hq
  exact kb_X4_countGaps_4 hI ho C0 hK n1 σ (0 : Int32) (0 : Int32) hq H locs hP hS ls (lv_sub hl [2, 1, 0] rfl)
/-! GlossRows$Page.countSentences()I -/
def rm_X4_countSentences : Room := { frames := 0, cells := 0, slots := 0, locals := 0 }
def kw_X4_countSentences_4 (o : Nat) (Q : Int32 → ka_S → Prop) : Nat → ka_S → Int32 → Int32 → Prop
  | 0, _, _, _ => False
  | n + 1, σ, v1, v2 => ((σ.1 (0, o, 0) 2) ≤ v2 → Q v1 σ) ∧
    (¬ (σ.1 (0, o, 0) 2) ≤ v2 → vp_in v2 12 ∧
      ((σ.1 (5, o, v2.toNatClampNeg) 6) = (0 : Int32) → (v2 = ((σ.1 (0, o, 0) 2) - (1 : Int32)) → ∀ x6 : Int32, x6 = v1 + (1 : Int32) →
          ∀ x7 : Int32, x7 = v2 + (1 : Int32) →
          (kw_X4_countSentences_4 o Q n) σ x6 x7) ∧
        (¬ v2 = ((σ.1 (0, o, 0) 2) - (1 : Int32)) → ∀ x5 : Int32, x5 = v2 + (1 : Int32) →
          (kw_X4_countSentences_4 o Q n) σ v1 x5)) ∧
      (¬ (σ.1 (5, o, v2.toNatClampNeg) 6) = (0 : Int32) → ∀ x3 : Int32, x3 = v1 + (1 : Int32) →
        ∀ x4 : Int32, x4 = v2 + (1 : Int32) →
        (kw_X4_countSentences_4 o Q n) σ x3 x4))
def kw_X4_countSentences (σ : ka_S) (o : Nat) (Q : Int32 → ka_S → Prop) : Prop := ∃ n1 : Nat, kw_X4_countSentences_4 o Q n1 σ (0 : Int32) (0 : Int32)
set_option maxHeartbeats 4000000 in
set_option maxRecDepth 100000 in
theorem kb_X4_countSentences_4 {p : Program} {l : Launch} {e : Env} {s : State} {m : MethodId} {args : Array Value} {below : List Frame} {meth : Method} {c : Code} {G : ka_G} (hI : ka_I G) {o : Nat} (ho : o < 18) (C0 : ka_C p s m args meth c cX4_countSentences 3 "GlossRows$Page" (some .int)) (hK : ka_Kn G s) {Q : Int32 → ka_S → Prop} : ∀ (n : Nat) (σ : ka_S) (v1 : Int32) (v2 : Int32), kw_X4_countSentences_4 o Q n σ v1 v2 → ∀ (H : Heap) (locs : List Loc), ka_P G σ H → va_S (ka_A G) s.heap H locs → ∀ ls : Array Slot, lv_has ls 3 [(0, .ref (ka_a G (0, o, 0))), (1, .int v1), (2, .int v2)] → W p l e rm_X4_countSentences s m args below meth c H locs 0 0 (MQ below (va_Qi Q (ka_B G) (ka_A G)) args s 0 0 (ka_A G)) (F0 m 4 ls []) := by
  obtain ⟨hx, hb, -, hml, hown, hts, -⟩ := id C0
  intro n
  induction n with
  | zero =>
    intro σ v1 v2 hq
    rw [kw_X4_countSentences_4] at hq
    exact hq.elim
  | succ n ih =>
    intro σ v1 v2 hq H locs hP hS ls hl
    rw [kw_X4_countSentences_4] at hq
    refine lv_iload_n hx hb dX4_countSentences_4 rfl (lv_at hl 2 rfl) ?_
    refine lv_aload_n hx hb dX4_countSentences_5 rfl (lv_at hl 0 rfl) ?_
    refine kg_X4_count C0 hK hP (kv_p (by decide) ho) kq_153 dX4_countSentences_6 ?_
    refine lv_icmp_ge (tgt := 43) hx hb dX4_countSentences_9 (by decide) (fun hc => ?_) (fun hc => ?_)
    · have hq := hq.1 hc
      refine lv_iload_n hx hb dX4_countSentences_43 rfl (lv_at hl 1 rfl) ?_
      exact kr_iret C0 hK hP hS hq dX4_countSentences_44
    · have hq := hq.2 hc
      refine lv_aload_n hx hb dX4_countSentences_12 rfl (lv_at hl 0 rfl) ?_
      refine kg_X4_words C0 hK hP (kv_p (by decide) ho) kq_148 dX4_countSentences_13 ?_
      refine lv_iload_n hx hb dX4_countSentences_16 rfl (lv_at hl 2 rfl) ?_
      obtain ⟨b2, hq⟩ := hq
      refine kr_aald (t := 3) C0 hK hP (kv_p (by decide) ho) rfl rfl b2 rfl dX4_countSentences_17 ?_
      refine kg_X7_ended C0 hK hP (kv_w (by decide) (by decide) (k_19 ho) (vp_lt b2)) kq_79 dX4_countSentences_18 ?_
      refine lv_if_ne (tgt := 34) hx hb dX4_countSentences_21 (by decide) (fun hc => ?_) (fun hc => ?_)
      · have hq := hq.2 hc
        obtain ⟨x3, ex3⟩ : ∃ y : Int32, y = v1 + (1 : Int32) := ⟨_, rfl⟩
        have hq := hq x3 ex3
        refine lv_iinc (v := x3) (lv' := [(1, .int x3), (0, .ref (ka_a G (0, o, 0))), (2, .int v2)]) hx hb dX4_countSentences_34 hl (k := 1) rfl (by rw [ex3]; rfl) (by decide) rfl (fun ls hl => ?_)
        obtain ⟨x4, ex4⟩ : ∃ y : Int32, y = v2 + (1 : Int32) := ⟨_, rfl⟩
        have hq := hq x4 ex4
        refine lv_iinc (v := x4) (lv' := [(2, .int x4), (1, .int x3), (0, .ref (ka_a G (0, o, 0)))]) hx hb dX4_countSentences_37 hl (k := 2) rfl (by rw [ex4]; rfl) (by decide) rfl (fun ls hl => ?_)
        refine lv_goto (tgt := 4) hx hb dX4_countSentences_40 (by decide) ?_
        exact ih σ x3 x4 hq H locs hP hS ls (lv_sub hl [2, 1, 0] rfl)
      · have hq := hq.1 hc
        refine lv_iload_n hx hb dX4_countSentences_24 rfl (lv_at hl 2 rfl) ?_
        refine lv_aload_n hx hb dX4_countSentences_25 rfl (lv_at hl 0 rfl) ?_
        refine kg_X4_count C0 hK hP (kv_p (by decide) ho) kq_153 dX4_countSentences_26 ?_
        refine lv_iconst (v := 1) hx hb dX4_countSentences_29 (by decide) ?_
        refine lv_isub hx hb dX4_countSentences_30 ?_
        refine lv_icmp_ne (tgt := 37) hx hb dX4_countSentences_31 (by decide) (fun hc => ?_) (fun hc => ?_)
        · have hq := hq.2 hc
          obtain ⟨x5, ex5⟩ : ∃ y : Int32, y = v2 + (1 : Int32) := ⟨_, rfl⟩
          have hq := hq x5 ex5
          refine lv_iinc (v := x5) (lv' := [(2, .int x5), (0, .ref (ka_a G (0, o, 0))), (1, .int v1)]) hx hb dX4_countSentences_37 hl (k := 2) rfl (by rw [ex5]; rfl) (by decide) rfl (fun ls hl => ?_)
          refine lv_goto (tgt := 4) hx hb dX4_countSentences_40 (by decide) ?_
          exact ih σ v1 x5 hq H locs hP hS ls (lv_sub hl [1, 2, 0] rfl)
        · have hq := hq.1 hc
          obtain ⟨x6, ex6⟩ : ∃ y : Int32, y = v1 + (1 : Int32) := ⟨_, rfl⟩
          have hq := hq x6 ex6
          refine lv_iinc (v := x6) (lv' := [(1, .int x6), (0, .ref (ka_a G (0, o, 0))), (2, .int v2)]) hx hb dX4_countSentences_34 hl (k := 1) rfl (by rw [ex6]; rfl) (by decide) rfl (fun ls hl => ?_)
          obtain ⟨x7, ex7⟩ : ∃ y : Int32, y = v2 + (1 : Int32) := ⟨_, rfl⟩
          have hq := hq x7 ex7
          refine lv_iinc (v := x7) (lv' := [(2, .int x7), (1, .int x6), (0, .ref (ka_a G (0, o, 0)))]) hx hb dX4_countSentences_37 hl (k := 2) rfl (by rw [ex7]; rfl) (by decide) rfl (fun ls hl => ?_)
          refine lv_goto (tgt := 4) hx hb dX4_countSentences_40 (by decide) ?_
          exact ih σ x6 x7 hq H locs hP hS ls (lv_sub hl [2, 1, 0] rfl)
set_option maxHeartbeats 4000000 in
set_option maxRecDepth 100000 in
theorem km_X4_countSentences (l : Launch) {G : ka_G} (hI : ka_I G) {o : Nat} (ho : o < 18) {σ : ka_S} {Q : Int32 → ka_S → Prop} (hq : kw_X4_countSentences σ o Q) : kc_i l yX4_countSentences (kw_ yX4_countSentences cX4_countSentences 3 (some .int)) rm_X4_countSentences G [.ref (ka_a G (0, o, 0))] σ Q := by
  refine ka_of "GlossRows$Page" rfl (by decide) (Nat.le_of_ble_eq_true rfl) ?_
  intro p e s m below meth c C0 hK H locs hP hS ls hl
  obtain ⟨hx, hb, -, hml, hown, hts, -⟩ := id C0
  have hl : lv_has ls 3 [(0, .ref (ka_a G (0, o, 0)))] := hl
  unfold kw_X4_countSentences at hq
  refine lv_iconst (v := 0) hx hb dX4_countSentences_0 (by decide) ?_
  refine lv_istore_n (lv' := [(1, .int (0 : Int32)), (0, .ref (ka_a G (0, o, 0)))]) hx hb dX4_countSentences_1 rfl hl (by decide) rfl (fun ls hl => ?_)
  refine lv_iconst (v := 0) hx hb dX4_countSentences_2 (by decide) ?_
  refine lv_istore_n (lv' := [(2, .int (0 : Int32)), (1, .int (0 : Int32)), (0, .ref (ka_a G (0, o, 0)))]) hx hb dX4_countSentences_3 rfl hl (by decide) rfl (fun ls hl => ?_)
  obtain ⟨n1, hq⟩ := hq
  exact kb_X4_countSentences_4 hI ho C0 hK n1 σ (0 : Int32) (0 : Int32) hq H locs hP hS ls (lv_sub hl [2, 1, 0] rfl)
/-! GlossRows$Page.countDiffering()I -/
def rm_X4_countDiffering : Room := { frames := 1, cells := 0, slots := 0, locals := 23 }
def kw_X4_countDiffering_14 (o : Nat) (K4 : ka_S → Int32 → Int32 → Prop) (Q : Int32 → ka_S → Prop) : Nat → ka_S → Int32 → Int32 → Int32 → Prop
  | 0, _, _, _, _ => False
  | n + 1, σ, v1, v2, v3 => vp_in v2 12 ∧
    ((σ.1 (5, o, v2.toNatClampNeg) 4) ≤ v3 → ∀ x4 : Int32, x4 = v2 + (1 : Int32) →
      K4 σ v1 x4) ∧
    (¬ (σ.1 (5, o, v2.toNatClampNeg) 4) ≤ v3 → vp_in v2 12 ∧
      vp_in v3 4 ∧
      ∀ x7 : Int64, x7 = (σ.2 (7, o, v2.toNatClampNeg) v3.toNatClampNeg) → 
      vp_in v2 12 ∧
      vp_in v3 4 ∧
      kw_X3_find σ o (σ.2 (6, o, v2.toNatClampNeg) v3.toNatClampNeg) (fun r11 σ10 => 
      (x7 = (0 : Int64) → ∀ x12 : Int32, x12 = v3 + (1 : Int32) →
        (kw_X4_countDiffering_14 o K4 Q n) σ10 v1 v2 x12) ∧
      (¬ x7 = (0 : Int64) → (r11 = (-9 : Int32) → ∀ x13 : Int32, x13 = v3 + (1 : Int32) →
          (kw_X4_countDiffering_14 o K4 Q n) σ10 v1 v2 x13) ∧
        (¬ r11 = (-9 : Int32) → vp_in r11 16 ∧
          ((σ10.2 (4, o, 0) r11.toNatClampNeg) = x7 → ∀ x15 : Int32, x15 = v3 + (1 : Int32) →
            (kw_X4_countDiffering_14 o K4 Q n) σ10 v1 v2 x15) ∧
          (¬ (σ10.2 (4, o, 0) r11.toNatClampNeg) = x7 → ∀ x16 : Int32, x16 = v1 + (1 : Int32) →
            ∀ x17 : Int32, x17 = v3 + (1 : Int32) →
            (kw_X4_countDiffering_14 o K4 Q n) σ10 x16 v2 x17)))))
def kw_X4_countDiffering_4 (o : Nat) (Q : Int32 → ka_S → Prop) : Nat → ka_S → Int32 → Int32 → Prop
  | 0, _, _, _ => False
  | n + 1, σ, v1, v2 => ((σ.1 (0, o, 0) 2) ≤ v2 → Q v1 σ) ∧
    (¬ (σ.1 (0, o, 0) 2) ≤ v2 → ∃ n2 : Nat, kw_X4_countDiffering_14 o (kw_X4_countDiffering_4 o Q n) Q n2 σ v1 v2 (0 : Int32))
def kw_X4_countDiffering (σ : ka_S) (o : Nat) (Q : Int32 → ka_S → Prop) : Prop := ∃ n1 : Nat, kw_X4_countDiffering_4 o Q n1 σ (0 : Int32) (0 : Int32)
set_option maxHeartbeats 4000000 in
set_option maxRecDepth 100000 in
theorem kb_X4_countDiffering_14 {p : Program} {l : Launch} {e : Env} {s : State} {m : MethodId} {args : Array Value} {below : List Frame} {meth : Method} {c : Code} {G : ka_G} (hI : ka_I G) {o : Nat} (ho : o < 18) (C0 : ka_C p s m args meth c cX4_countDiffering 7 "GlossRows$Page" (some .int)) (hK : ka_Kn G s) {Q : Int32 → ka_S → Prop} {K4 : ka_S → Int32 → Int32 → Prop} (hk4 : ∀ (σ : ka_S) (v1 : Int32) (v2 : Int32), K4 σ v1 v2 → ∀ (H : Heap) (locs : List Loc), ka_P G σ H → va_S (ka_A G) s.heap H locs → ∀ ls : Array Slot, lv_has ls 7 [(0, .ref (ka_a G (0, o, 0))), (1, .int v1), (2, .int v2)] → W p l e rm_X4_countDiffering s m args below meth c H locs 0 0 (MQ below (va_Qi Q (ka_B G) (ka_A G)) args s 0 0 (ka_A G)) (F0 m 4 ls [])) : ∀ (n : Nat) (σ : ka_S) (v1 : Int32) (v2 : Int32) (v3 : Int32), kw_X4_countDiffering_14 o K4 Q n σ v1 v2 v3 → ∀ (H : Heap) (locs : List Loc), ka_P G σ H → va_S (ka_A G) s.heap H locs → ∀ ls : Array Slot, lv_has ls 7 [(0, .ref (ka_a G (0, o, 0))), (1, .int v1), (2, .int v2), (3, .int v3)] → W p l e rm_X4_countDiffering s m args below meth c H locs 0 0 (MQ below (va_Qi Q (ka_B G) (ka_A G)) args s 0 0 (ka_A G)) (F0 m 14 ls []) := by
  obtain ⟨hx, hb, -, hml, hown, hts, -⟩ := id C0
  intro n
  induction n with
  | zero =>
    intro σ v1 v2 v3 hq
    rw [kw_X4_countDiffering_14] at hq
    exact hq.elim
  | succ n ih =>
    intro σ v1 v2 v3 hq H locs hP hS ls hl
    rw [kw_X4_countDiffering_14] at hq
    refine lv_iload_n hx hb dX4_countDiffering_14 rfl (lv_at hl 3 rfl) ?_
    refine lv_aload_n hx hb dX4_countDiffering_15 rfl (lv_at hl 0 rfl) ?_
    refine kg_X4_words C0 hK hP (kv_p (by decide) ho) kq_148 dX4_countDiffering_16 ?_
    refine lv_iload_n hx hb dX4_countDiffering_19 rfl (lv_at hl 2 rfl) ?_
    obtain ⟨b3, hq⟩ := hq
    refine kr_aald (t := 3) C0 hK hP (kv_p (by decide) ho) rfl rfl b3 rfl dX4_countDiffering_20 ?_
    refine kg_X7_size C0 hK hP (kv_w (by decide) (by decide) (k_19 ho) (vp_lt b3)) kq_70 dX4_countDiffering_21 ?_
    refine lv_icmp_ge (tgt := 99) hx hb dX4_countDiffering_24 (by decide) (fun hc => ?_) (fun hc => ?_)
    · have hq := hq.1 hc
      obtain ⟨x4, ex4⟩ : ∃ y : Int32, y = v2 + (1 : Int32) := ⟨_, rfl⟩
      have hq := hq x4 ex4
      refine lv_iinc (v := x4) (lv' := [(2, .int x4), (0, .ref (ka_a G (0, o, 0))), (1, .int v1), (3, .int v3)]) hx hb dX4_countDiffering_99 hl (k := 2) rfl (by rw [ex4]; rfl) (by decide) rfl (fun ls hl => ?_)
      refine lv_goto (tgt := 4) hx hb dX4_countDiffering_102 (by decide) ?_
      exact hk4 σ v1 x4 hq H locs hP hS ls (lv_sub hl [1, 2, 0] rfl)
    · have hq := hq.2 hc
      refine lv_aload_n hx hb dX4_countDiffering_27 rfl (lv_at hl 0 rfl) ?_
      refine kg_X4_words C0 hK hP (kv_p (by decide) ho) kq_148 dX4_countDiffering_28 ?_
      refine lv_iload_n hx hb dX4_countDiffering_31 rfl (lv_at hl 2 rfl) ?_
      obtain ⟨b5, hq⟩ := hq
      refine kr_aald (t := 3) C0 hK hP (kv_p (by decide) ho) rfl rfl b5 rfl dX4_countDiffering_32 ?_
      refine kg_X7_glosses C0 hK hP (kv_w (by decide) (by decide) (k_19 ho) (vp_lt b5)) kq_64 dX4_countDiffering_33 ?_
      refine lv_iload_n hx hb dX4_countDiffering_36 rfl (lv_at hl 3 rfl) ?_
      obtain ⟨b6, hq⟩ := hq
      refine kr_lald C0 hK hP (kv_w (by decide) (by decide) (k_19 ho) (vp_lt b5)) rfl b6 dX4_countDiffering_37 ?_
      refine lv_topl (fun x7 ex7 => ?_)
      have hq := hq x7 ex7
      refine lv_lstore (lv' := [(4, .long x7), (0, .ref (ka_a G (0, o, 0))), (1, .int v1), (2, .int v2), (3, .int v3)]) hx hb dX4_countDiffering_38 hl (by decide) rfl (fun ls hl => ?_)
      refine lv_aload_n hx hb dX4_countDiffering_40 rfl (lv_at hl 1 rfl) ?_
      refine kg_X4_lexicon C0 hK hP (kv_p (by decide) ho) kq_151 dX4_countDiffering_41 ?_
      refine lv_aload_n hx hb dX4_countDiffering_44 rfl (lv_at hl 1 rfl) ?_
      refine kg_X4_words C0 hK hP (kv_p (by decide) ho) kq_148 dX4_countDiffering_45 ?_
      refine lv_iload_n hx hb dX4_countDiffering_48 rfl (lv_at hl 3 rfl) ?_
      obtain ⟨b8, hq⟩ := hq
      refine kr_aald (t := 3) C0 hK hP (kv_p (by decide) ho) rfl rfl b8 rfl dX4_countDiffering_49 ?_
      refine kg_X7_parts C0 hK hP (kv_w (by decide) (by decide) (k_19 ho) (vp_lt b8)) kq_60 dX4_countDiffering_50 ?_
      refine lv_iload_n hx hb dX4_countDiffering_53 rfl (lv_at hl 4 rfl) ?_
      obtain ⟨b9, hq⟩ := hq
      refine kr_lald C0 hK hP (kv_w (by decide) (by decide) (k_19 ho) (vp_lt b8)) rfl b9 dX4_countDiffering_54 ?_
      refine kr_Vi (k := (2, o, 0)) (As := [.long (σ.2 (6, o, v2.toNatClampNeg) v3.toNatClampNeg)]) (rest := []) C0 hK hP hS hl (km_X3_find l hI ho hq) kd_X3_find kq_538 (kv_p (by decide) ho) rfl rfl rfl ⟨rfl, rfl, Nat.le_of_ble_eq_true rfl, Nat.le_of_ble_eq_true rfl⟩ rfl (Nat.le_of_ble_eq_true rfl) dX4_countDiffering_55 ⟨Nat.zero_le _, Nat.zero_le _⟩ (fun r11 σ10 H locs hq hP hS => ?_)
      refine lv_istore (lv' := [(6, .int r11), (4, .long x7), (0, .ref (ka_a G (0, o, 0))), (1, .int v1), (2, .int v2), (3, .int v3)]) hx hb dX4_countDiffering_58 hl (by decide) rfl (fun ls hl => ?_)
      refine lv_lload hx hb dX4_countDiffering_60 (lv_at hl 1 rfl) ?_
      refine lv_lconst (v := 0) hx hb dX4_countDiffering_62 (by decide) ?_
      refine kr_ceq (tgt := 93) C0 dX4_countDiffering_63 dX4_countDiffering_64 (by decide) (fun hc => ?_) (fun hc => ?_)
      · have hq := hq.1 hc
        obtain ⟨x12, ex12⟩ : ∃ y : Int32, y = v3 + (1 : Int32) := ⟨_, rfl⟩
        have hq := hq x12 ex12
        refine lv_iinc (v := x12) (lv' := [(3, .int x12), (6, .int r11), (4, .long x7), (0, .ref (ka_a G (0, o, 0))), (1, .int v1), (2, .int v2)]) hx hb dX4_countDiffering_93 hl (k := 5) rfl (by rw [ex12]; rfl) (by decide) rfl (fun ls hl => ?_)
        refine lv_goto (tgt := 14) hx hb dX4_countDiffering_96 (by decide) ?_
        exact ih σ10 v1 v2 x12 hq H locs hP hS ls (lv_sub hl [3, 4, 5, 0] rfl)
      · have hq := hq.2 hc
        refine lv_iload hx hb dX4_countDiffering_67 (lv_at hl 0 rfl) ?_
        refine lv_bipush (v := -9) hx hb dX4_countDiffering_69 (by decide) ?_
        refine lv_icmp_eq (tgt := 93) hx hb dX4_countDiffering_71 (by decide) (fun hc => ?_) (fun hc => ?_)
        · have hq := hq.1 hc
          obtain ⟨x13, ex13⟩ : ∃ y : Int32, y = v3 + (1 : Int32) := ⟨_, rfl⟩
          have hq := hq x13 ex13
          refine lv_iinc (v := x13) (lv' := [(3, .int x13), (6, .int r11), (4, .long x7), (0, .ref (ka_a G (0, o, 0))), (1, .int v1), (2, .int v2)]) hx hb dX4_countDiffering_93 hl (k := 5) rfl (by rw [ex13]; rfl) (by decide) rfl (fun ls hl => ?_)
          refine lv_goto (tgt := 14) hx hb dX4_countDiffering_96 (by decide) ?_
          exact ih σ10 v1 v2 x13 hq H locs hP hS ls (lv_sub hl [3, 4, 5, 0] rfl)
        · have hq := hq.2 hc
          refine lv_aload_n hx hb dX4_countDiffering_74 rfl (lv_at hl 2 rfl) ?_
          refine kg_X4_lexicon C0 hK hP (kv_p (by decide) ho) kq_151 dX4_countDiffering_75 ?_
          refine kg_X3_glosses C0 hK hP (kv_p (by decide) ho) kq_132 dX4_countDiffering_78 ?_
          refine lv_iload hx hb dX4_countDiffering_81 (lv_at hl 0 rfl) ?_
          obtain ⟨b14, hq⟩ := hq
          refine kr_lald C0 hK hP (kv_p (by decide) ho) rfl b14 dX4_countDiffering_83 ?_
          refine lv_lload hx hb dX4_countDiffering_84 (lv_at hl 1 rfl) ?_
          refine kr_ceq (tgt := 93) C0 dX4_countDiffering_86 dX4_countDiffering_87 (by decide) (fun hc => ?_) (fun hc => ?_)
          · have hq := hq.1 hc
            obtain ⟨x15, ex15⟩ : ∃ y : Int32, y = v3 + (1 : Int32) := ⟨_, rfl⟩
            have hq := hq x15 ex15
            refine lv_iinc (v := x15) (lv' := [(3, .int x15), (6, .int r11), (4, .long x7), (0, .ref (ka_a G (0, o, 0))), (1, .int v1), (2, .int v2)]) hx hb dX4_countDiffering_93 hl (k := 5) rfl (by rw [ex15]; rfl) (by decide) rfl (fun ls hl => ?_)
            refine lv_goto (tgt := 14) hx hb dX4_countDiffering_96 (by decide) ?_
            exact ih σ10 v1 v2 x15 hq H locs hP hS ls (lv_sub hl [3, 4, 5, 0] rfl)
          · have hq := hq.2 hc
            obtain ⟨x16, ex16⟩ : ∃ y : Int32, y = v1 + (1 : Int32) := ⟨_, rfl⟩
            have hq := hq x16 ex16
            refine lv_iinc (v := x16) (lv' := [(1, .int x16), (6, .int r11), (4, .long x7), (0, .ref (ka_a G (0, o, 0))), (2, .int v2), (3, .int v3)]) hx hb dX4_countDiffering_90 hl (k := 3) rfl (by rw [ex16]; rfl) (by decide) rfl (fun ls hl => ?_)
            obtain ⟨x17, ex17⟩ : ∃ y : Int32, y = v3 + (1 : Int32) := ⟨_, rfl⟩
            have hq := hq x17 ex17
            refine lv_iinc (v := x17) (lv' := [(3, .int x17), (1, .int x16), (6, .int r11), (4, .long x7), (0, .ref (ka_a G (0, o, 0))), (2, .int v2)]) hx hb dX4_countDiffering_93 hl (k := 5) rfl (by rw [ex17]; rfl) (by decide) rfl (fun ls hl => ?_)
            refine lv_goto (tgt := 14) hx hb dX4_countDiffering_96 (by decide) ?_
            exact ih σ10 x16 v2 x17 hq H locs hP hS ls (lv_sub hl [4, 1, 5, 0] rfl)
set_option maxHeartbeats 4000000 in
set_option maxRecDepth 100000 in
theorem kb_X4_countDiffering_4 {p : Program} {l : Launch} {e : Env} {s : State} {m : MethodId} {args : Array Value} {below : List Frame} {meth : Method} {c : Code} {G : ka_G} (hI : ka_I G) {o : Nat} (ho : o < 18) (C0 : ka_C p s m args meth c cX4_countDiffering 7 "GlossRows$Page" (some .int)) (hK : ka_Kn G s) {Q : Int32 → ka_S → Prop} : ∀ (n : Nat) (σ : ka_S) (v1 : Int32) (v2 : Int32), kw_X4_countDiffering_4 o Q n σ v1 v2 → ∀ (H : Heap) (locs : List Loc), ka_P G σ H → va_S (ka_A G) s.heap H locs → ∀ ls : Array Slot, lv_has ls 7 [(0, .ref (ka_a G (0, o, 0))), (1, .int v1), (2, .int v2)] → W p l e rm_X4_countDiffering s m args below meth c H locs 0 0 (MQ below (va_Qi Q (ka_B G) (ka_A G)) args s 0 0 (ka_A G)) (F0 m 4 ls []) := by
  obtain ⟨hx, hb, -, hml, hown, hts, -⟩ := id C0
  intro n
  induction n with
  | zero =>
    intro σ v1 v2 hq
    rw [kw_X4_countDiffering_4] at hq
    exact hq.elim
  | succ n ih =>
    intro σ v1 v2 hq H locs hP hS ls hl
    rw [kw_X4_countDiffering_4] at hq
    refine lv_iload_n hx hb dX4_countDiffering_4 rfl (lv_at hl 2 rfl) ?_
    refine lv_aload_n hx hb dX4_countDiffering_5 rfl (lv_at hl 0 rfl) ?_
    refine kg_X4_count C0 hK hP (kv_p (by decide) ho) kq_153 dX4_countDiffering_6 ?_
    refine lv_icmp_ge (tgt := 105) hx hb dX4_countDiffering_9 (by decide) (fun hc => ?_) (fun hc => ?_)
    · have hq := hq.1 hc
      refine lv_iload_n hx hb dX4_countDiffering_105 rfl (lv_at hl 1 rfl) ?_
      exact kr_iret C0 hK hP hS hq dX4_countDiffering_106
    · have hq := hq.2 hc
      refine lv_iconst (v := 0) hx hb dX4_countDiffering_12 (by decide) ?_
      refine lv_istore_n (lv' := [(3, .int (0 : Int32)), (0, .ref (ka_a G (0, o, 0))), (1, .int v1), (2, .int v2)]) hx hb dX4_countDiffering_13 rfl hl (by decide) rfl (fun ls hl => ?_)
      obtain ⟨n2, hq⟩ := hq
      exact kb_X4_countDiffering_14 hI ho C0 hK ih n2 σ v1 v2 (0 : Int32) hq H locs hP hS ls (lv_sub hl [1, 2, 3, 0] rfl)
set_option maxHeartbeats 4000000 in
set_option maxRecDepth 100000 in
theorem km_X4_countDiffering (l : Launch) {G : ka_G} (hI : ka_I G) {o : Nat} (ho : o < 18) {σ : ka_S} {Q : Int32 → ka_S → Prop} (hq : kw_X4_countDiffering σ o Q) : kc_i l yX4_countDiffering (kw_ yX4_countDiffering cX4_countDiffering 7 (some .int)) rm_X4_countDiffering G [.ref (ka_a G (0, o, 0))] σ Q := by
  refine ka_of "GlossRows$Page" rfl (by decide) (Nat.le_of_ble_eq_true rfl) ?_
  intro p e s m below meth c C0 hK H locs hP hS ls hl
  obtain ⟨hx, hb, -, hml, hown, hts, -⟩ := id C0
  have hl : lv_has ls 7 [(0, .ref (ka_a G (0, o, 0)))] := hl
  unfold kw_X4_countDiffering at hq
  refine lv_iconst (v := 0) hx hb dX4_countDiffering_0 (by decide) ?_
  refine lv_istore_n (lv' := [(1, .int (0 : Int32)), (0, .ref (ka_a G (0, o, 0)))]) hx hb dX4_countDiffering_1 rfl hl (by decide) rfl (fun ls hl => ?_)
  refine lv_iconst (v := 0) hx hb dX4_countDiffering_2 (by decide) ?_
  refine lv_istore_n (lv' := [(2, .int (0 : Int32)), (1, .int (0 : Int32)), (0, .ref (ka_a G (0, o, 0)))]) hx hb dX4_countDiffering_3 rfl hl (by decide) rfl (fun ls hl => ?_)
  obtain ⟨n1, hq⟩ := hq
  exact kb_X4_countDiffering_4 hI ho C0 hK n1 σ (0 : Int32) (0 : Int32) hq H locs hP hS ls (lv_sub hl [2, 1, 0] rfl)
/-! GlossRows$Page.placeOfGap(I)I -/
def rm_X4_placeOfGap : Room := { frames := 0, cells := 0, slots := 0, locals := 0 }
def kw_X4_placeOfGap_15 (o : Nat) (K4 : ka_S → Int32 → Int32 → Int32 → Prop) (Q : Int32 → ka_S → Prop) : Nat → ka_S → Int32 → Int32 → Int32 → Int32 → Prop
  | 0, _, _, _, _, _ => False
  | n + 1, σ, v1, v2, v3, v4 => vp_in v3 12 ∧
    ((σ.1 (5, o, v3.toNatClampNeg) 4) ≤ v4 → ∀ x4 : Int32, x4 = v3 + (1 : Int32) →
      K4 σ v1 v2 x4) ∧
    (¬ (σ.1 (5, o, v3.toNatClampNeg) 4) ≤ v4 → vp_in v3 12 ∧
      vp_in v4 4 ∧
      ((σ.2 (7, o, v3.toNatClampNeg) v4.toNatClampNeg) = (0 : Int64) → (v2 = v1 → Q (((10 : Int32) * v3) + v4) σ) ∧
        (¬ v2 = v1 → ∀ x8 : Int32, x8 = v2 + (1 : Int32) →
          ∀ x9 : Int32, x9 = v4 + (1 : Int32) →
          (kw_X4_placeOfGap_15 o K4 Q n) σ v1 x8 v3 x9)) ∧
      (¬ (σ.2 (7, o, v3.toNatClampNeg) v4.toNatClampNeg) = (0 : Int64) → ∀ x7 : Int32, x7 = v4 + (1 : Int32) →
        (kw_X4_placeOfGap_15 o K4 Q n) σ v1 v2 v3 x7))
def kw_X4_placeOfGap_4 (o : Nat) (Q : Int32 → ka_S → Prop) : Nat → ka_S → Int32 → Int32 → Int32 → Prop
  | 0, _, _, _, _ => False
  | n + 1, σ, v1, v2, v3 => ((σ.1 (0, o, 0) 2) ≤ v3 → Q (-9 : Int32) σ) ∧
    (¬ (σ.1 (0, o, 0) 2) ≤ v3 → ∃ n2 : Nat, kw_X4_placeOfGap_15 o (kw_X4_placeOfGap_4 o Q n) Q n2 σ v1 v2 v3 (0 : Int32))
def kw_X4_placeOfGap (σ : ka_S) (o : Nat) (v1 : Int32) (Q : Int32 → ka_S → Prop) : Prop := ∃ n1 : Nat, kw_X4_placeOfGap_4 o Q n1 σ v1 (0 : Int32) (0 : Int32)
set_option maxHeartbeats 4000000 in
set_option maxRecDepth 100000 in
theorem kb_X4_placeOfGap_15 {p : Program} {l : Launch} {e : Env} {s : State} {m : MethodId} {args : Array Value} {below : List Frame} {meth : Method} {c : Code} {G : ka_G} (hI : ka_I G) {o : Nat} (ho : o < 18) (C0 : ka_C p s m args meth c cX4_placeOfGap 5 "GlossRows$Page" (some .int)) (hK : ka_Kn G s) {Q : Int32 → ka_S → Prop} {K4 : ka_S → Int32 → Int32 → Int32 → Prop} (hk4 : ∀ (σ : ka_S) (v1 : Int32) (v2 : Int32) (v3 : Int32), K4 σ v1 v2 v3 → ∀ (H : Heap) (locs : List Loc), ka_P G σ H → va_S (ka_A G) s.heap H locs → ∀ ls : Array Slot, lv_has ls 5 [(0, .ref (ka_a G (0, o, 0))), (1, .int v1), (2, .int v2), (3, .int v3)] → W p l e rm_X4_placeOfGap s m args below meth c H locs 0 0 (MQ below (va_Qi Q (ka_B G) (ka_A G)) args s 0 0 (ka_A G)) (F0 m 4 ls [])) : ∀ (n : Nat) (σ : ka_S) (v1 : Int32) (v2 : Int32) (v3 : Int32) (v4 : Int32), kw_X4_placeOfGap_15 o K4 Q n σ v1 v2 v3 v4 → ∀ (H : Heap) (locs : List Loc), ka_P G σ H → va_S (ka_A G) s.heap H locs → ∀ ls : Array Slot, lv_has ls 5 [(0, .ref (ka_a G (0, o, 0))), (1, .int v1), (2, .int v2), (3, .int v3), (4, .int v4)] → W p l e rm_X4_placeOfGap s m args below meth c H locs 0 0 (MQ below (va_Qi Q (ka_B G) (ka_A G)) args s 0 0 (ka_A G)) (F0 m 15 ls []) := by
  obtain ⟨hx, hb, -, hml, hown, hts, -⟩ := id C0
  intro n
  induction n with
  | zero =>
    intro σ v1 v2 v3 v4 hq
    rw [kw_X4_placeOfGap_15] at hq
    exact hq.elim
  | succ n ih =>
    intro σ v1 v2 v3 v4 hq H locs hP hS ls hl
    rw [kw_X4_placeOfGap_15] at hq
    refine lv_iload hx hb dX4_placeOfGap_15 (lv_at hl 4 rfl) ?_
    refine lv_aload_n hx hb dX4_placeOfGap_17 rfl (lv_at hl 0 rfl) ?_
    refine kg_X4_words C0 hK hP (kv_p (by decide) ho) kq_148 dX4_placeOfGap_18 ?_
    refine lv_iload_n hx hb dX4_placeOfGap_21 rfl (lv_at hl 3 rfl) ?_
    obtain ⟨b3, hq⟩ := hq
    refine kr_aald (t := 3) C0 hK hP (kv_p (by decide) ho) rfl rfl b3 rfl dX4_placeOfGap_22 ?_
    refine kg_X7_size C0 hK hP (kv_w (by decide) (by decide) (k_19 ho) (vp_lt b3)) kq_70 dX4_placeOfGap_23 ?_
    refine lv_icmp_ge (tgt := 68) hx hb dX4_placeOfGap_26 (by decide) (fun hc => ?_) (fun hc => ?_)
    · have hq := hq.1 hc
      obtain ⟨x4, ex4⟩ : ∃ y : Int32, y = v3 + (1 : Int32) := ⟨_, rfl⟩
      have hq := hq x4 ex4
      refine lv_iinc (v := x4) (lv' := [(3, .int x4), (0, .ref (ka_a G (0, o, 0))), (1, .int v1), (2, .int v2), (4, .int v4)]) hx hb dX4_placeOfGap_68 hl (k := 3) rfl (by rw [ex4]; rfl) (by decide) rfl (fun ls hl => ?_)
      refine lv_goto (tgt := 4) hx hb dX4_placeOfGap_71 (by decide) ?_
      exact hk4 σ v1 v2 x4 hq H locs hP hS ls (lv_sub hl [1, 2, 3, 0] rfl)
    · have hq := hq.2 hc
      refine lv_aload_n hx hb dX4_placeOfGap_29 rfl (lv_at hl 0 rfl) ?_
      refine kg_X4_words C0 hK hP (kv_p (by decide) ho) kq_148 dX4_placeOfGap_30 ?_
      refine lv_iload_n hx hb dX4_placeOfGap_33 rfl (lv_at hl 3 rfl) ?_
      obtain ⟨b5, hq⟩ := hq
      refine kr_aald (t := 3) C0 hK hP (kv_p (by decide) ho) rfl rfl b5 rfl dX4_placeOfGap_34 ?_
      refine kg_X7_glosses C0 hK hP (kv_w (by decide) (by decide) (k_19 ho) (vp_lt b5)) kq_64 dX4_placeOfGap_35 ?_
      refine lv_iload hx hb dX4_placeOfGap_38 (lv_at hl 4 rfl) ?_
      obtain ⟨b6, hq⟩ := hq
      refine kr_lald C0 hK hP (kv_w (by decide) (by decide) (k_19 ho) (vp_lt b5)) rfl b6 dX4_placeOfGap_40 ?_
      refine lv_lconst (v := 0) hx hb dX4_placeOfGap_41 (by decide) ?_
      refine kr_cne (tgt := 62) C0 dX4_placeOfGap_42 dX4_placeOfGap_43 (by decide) (fun hc => ?_) (fun hc => ?_)
      · have hq := hq.2 hc
        obtain ⟨x7, ex7⟩ : ∃ y : Int32, y = v4 + (1 : Int32) := ⟨_, rfl⟩
        have hq := hq x7 ex7
        refine lv_iinc (v := x7) (lv' := [(4, .int x7), (0, .ref (ka_a G (0, o, 0))), (1, .int v1), (2, .int v2), (3, .int v3)]) hx hb dX4_placeOfGap_62 hl (k := 4) rfl (by rw [ex7]; rfl) (by decide) rfl (fun ls hl => ?_)
        refine lv_goto (tgt := 15) hx hb dX4_placeOfGap_65 (by decide) ?_
        exact ih σ v1 v2 v3 x7 hq H locs hP hS ls (lv_sub hl [1, 2, 3, 4, 0] rfl)
      · have hq := hq.1 hc
        refine lv_iload_n hx hb dX4_placeOfGap_46 rfl (lv_at hl 2 rfl) ?_
        refine lv_iload_n hx hb dX4_placeOfGap_47 rfl (lv_at hl 1 rfl) ?_
        refine lv_icmp_ne (tgt := 59) hx hb dX4_placeOfGap_48 (by decide) (fun hc => ?_) (fun hc => ?_)
        · have hq := hq.2 hc
          obtain ⟨x8, ex8⟩ : ∃ y : Int32, y = v2 + (1 : Int32) := ⟨_, rfl⟩
          have hq := hq x8 ex8
          refine lv_iinc (v := x8) (lv' := [(2, .int x8), (0, .ref (ka_a G (0, o, 0))), (1, .int v1), (3, .int v3), (4, .int v4)]) hx hb dX4_placeOfGap_59 hl (k := 2) rfl (by rw [ex8]; rfl) (by decide) rfl (fun ls hl => ?_)
          obtain ⟨x9, ex9⟩ : ∃ y : Int32, y = v4 + (1 : Int32) := ⟨_, rfl⟩
          have hq := hq x9 ex9
          refine lv_iinc (v := x9) (lv' := [(4, .int x9), (2, .int x8), (0, .ref (ka_a G (0, o, 0))), (1, .int v1), (3, .int v3)]) hx hb dX4_placeOfGap_62 hl (k := 4) rfl (by rw [ex9]; rfl) (by decide) rfl (fun ls hl => ?_)
          refine lv_goto (tgt := 15) hx hb dX4_placeOfGap_65 (by decide) ?_
          exact ih σ v1 x8 v3 x9 hq H locs hP hS ls (lv_sub hl [2, 3, 1, 4, 0] rfl)
        · have hq := hq.1 hc
          refine lv_bipush (v := 10) hx hb dX4_placeOfGap_51 (by decide) ?_
          refine lv_iload_n hx hb dX4_placeOfGap_53 rfl (lv_at hl 3 rfl) ?_
          refine lv_imul hx hb dX4_placeOfGap_54 ?_
          refine lv_iload hx hb dX4_placeOfGap_55 (lv_at hl 4 rfl) ?_
          refine lv_iadd hx hb dX4_placeOfGap_57 ?_
          exact kr_iret C0 hK hP hS hq dX4_placeOfGap_58
set_option maxHeartbeats 4000000 in
set_option maxRecDepth 100000 in
theorem kb_X4_placeOfGap_4 {p : Program} {l : Launch} {e : Env} {s : State} {m : MethodId} {args : Array Value} {below : List Frame} {meth : Method} {c : Code} {G : ka_G} (hI : ka_I G) {o : Nat} (ho : o < 18) (C0 : ka_C p s m args meth c cX4_placeOfGap 5 "GlossRows$Page" (some .int)) (hK : ka_Kn G s) {Q : Int32 → ka_S → Prop} : ∀ (n : Nat) (σ : ka_S) (v1 : Int32) (v2 : Int32) (v3 : Int32), kw_X4_placeOfGap_4 o Q n σ v1 v2 v3 → ∀ (H : Heap) (locs : List Loc), ka_P G σ H → va_S (ka_A G) s.heap H locs → ∀ ls : Array Slot, lv_has ls 5 [(0, .ref (ka_a G (0, o, 0))), (1, .int v1), (2, .int v2), (3, .int v3)] → W p l e rm_X4_placeOfGap s m args below meth c H locs 0 0 (MQ below (va_Qi Q (ka_B G) (ka_A G)) args s 0 0 (ka_A G)) (F0 m 4 ls []) := by
  obtain ⟨hx, hb, -, hml, hown, hts, -⟩ := id C0
  intro n
  induction n with
  | zero =>
    intro σ v1 v2 v3 hq
    rw [kw_X4_placeOfGap_4] at hq
    exact hq.elim
  | succ n ih =>
    intro σ v1 v2 v3 hq H locs hP hS ls hl
    rw [kw_X4_placeOfGap_4] at hq
    refine lv_iload_n hx hb dX4_placeOfGap_4 rfl (lv_at hl 3 rfl) ?_
    refine lv_aload_n hx hb dX4_placeOfGap_5 rfl (lv_at hl 0 rfl) ?_
    refine kg_X4_count C0 hK hP (kv_p (by decide) ho) kq_153 dX4_placeOfGap_6 ?_
    refine lv_icmp_ge (tgt := 74) hx hb dX4_placeOfGap_9 (by decide) (fun hc => ?_) (fun hc => ?_)
    · have hq := hq.1 hc
      refine lv_bipush (v := -9) hx hb dX4_placeOfGap_74 (by decide) ?_
      exact kr_iret C0 hK hP hS hq dX4_placeOfGap_76
    · have hq := hq.2 hc
      refine lv_iconst (v := 0) hx hb dX4_placeOfGap_12 (by decide) ?_
      refine lv_istore (lv' := [(4, .int (0 : Int32)), (0, .ref (ka_a G (0, o, 0))), (1, .int v1), (2, .int v2), (3, .int v3)]) hx hb dX4_placeOfGap_13 hl (by decide) rfl (fun ls hl => ?_)
      obtain ⟨n2, hq⟩ := hq
      exact kb_X4_placeOfGap_15 hI ho C0 hK ih n2 σ v1 v2 v3 (0 : Int32) hq H locs hP hS ls (lv_sub hl [1, 2, 3, 4, 0] rfl)
set_option maxHeartbeats 4000000 in
set_option maxRecDepth 100000 in
theorem km_X4_placeOfGap (l : Launch) {G : ka_G} (hI : ka_I G) {o : Nat} (ho : o < 18) {σ : ka_S} {v1 : Int32} {Q : Int32 → ka_S → Prop} (hq : kw_X4_placeOfGap σ o v1 Q) : kc_i l yX4_placeOfGap (kw_ yX4_placeOfGap cX4_placeOfGap 5 (some .int)) rm_X4_placeOfGap G [.ref (ka_a G (0, o, 0)), .int v1] σ Q := by
  refine ka_of "GlossRows$Page" rfl (by decide) (Nat.le_of_ble_eq_true rfl) ?_
  intro p e s m below meth c C0 hK H locs hP hS ls hl
  obtain ⟨hx, hb, -, hml, hown, hts, -⟩ := id C0
  have hl : lv_has ls 5 [(0, .ref (ka_a G (0, o, 0))), (1, .int v1)] := hl
  unfold kw_X4_placeOfGap at hq
  refine lv_iconst (v := 0) hx hb dX4_placeOfGap_0 (by decide) ?_
  refine lv_istore_n (lv' := [(2, .int (0 : Int32)), (0, .ref (ka_a G (0, o, 0))), (1, .int v1)]) hx hb dX4_placeOfGap_1 rfl hl (by decide) rfl (fun ls hl => ?_)
  refine lv_iconst (v := 0) hx hb dX4_placeOfGap_2 (by decide) ?_
  refine lv_istore_n (lv' := [(3, .int (0 : Int32)), (2, .int (0 : Int32)), (0, .ref (ka_a G (0, o, 0))), (1, .int v1)]) hx hb dX4_placeOfGap_3 rfl hl (by decide) rfl (fun ls hl => ?_)
  obtain ⟨n1, hq⟩ := hq
  exact kb_X4_placeOfGap_4 hI ho C0 hK n1 σ v1 (0 : Int32) (0 : Int32) hq H locs hP hS ls (lv_sub hl [2, 3, 1, 0] rfl)
/-! GlossRows$Page.countUses(J)I -/
def rm_X4_countUses : Room := { frames := 0, cells := 0, slots := 0, locals := 0 }
def kw_X4_countUses_17 (o : Nat) (K5 : ka_S → Int64 → Int32 → Int32 → Prop) (Q : Int32 → ka_S → Prop) : Nat → ka_S → Int64 → Int32 → Int32 → Int32 → Prop
  | 0, _, _, _, _, _ => False
  | n + 1, σ, v1, v3, v4, v5 => vp_in v4 12 ∧
    ((σ.1 (5, o, v4.toNatClampNeg) 4) ≤ v5 → ∀ x4 : Int32, x4 = v4 + (1 : Int32) →
      K5 σ v1 v3 x4) ∧
    (¬ (σ.1 (5, o, v4.toNatClampNeg) 4) ≤ v5 → vp_in v4 12 ∧
      vp_in v5 4 ∧
      ((σ.2 (6, o, v4.toNatClampNeg) v5.toNatClampNeg) = v1 → ∀ x8 : Int32, x8 = v3 + (1 : Int32) →
        ∀ x9 : Int32, x9 = v5 + (1 : Int32) →
        (kw_X4_countUses_17 o K5 Q n) σ v1 x8 v4 x9) ∧
      (¬ (σ.2 (6, o, v4.toNatClampNeg) v5.toNatClampNeg) = v1 → ∀ x7 : Int32, x7 = v5 + (1 : Int32) →
        (kw_X4_countUses_17 o K5 Q n) σ v1 v3 v4 x7))
def kw_X4_countUses_5 (o : Nat) (Q : Int32 → ka_S → Prop) : Nat → ka_S → Int64 → Int32 → Int32 → Prop
  | 0, _, _, _, _ => False
  | n + 1, σ, v1, v3, v4 => ((σ.1 (0, o, 0) 2) ≤ v4 → Q v3 σ) ∧
    (¬ (σ.1 (0, o, 0) 2) ≤ v4 → ∃ n2 : Nat, kw_X4_countUses_17 o (kw_X4_countUses_5 o Q n) Q n2 σ v1 v3 v4 (0 : Int32))
def kw_X4_countUses (σ : ka_S) (o : Nat) (v1 : Int64) (Q : Int32 → ka_S → Prop) : Prop := ∃ n1 : Nat, kw_X4_countUses_5 o Q n1 σ v1 (0 : Int32) (0 : Int32)
set_option maxHeartbeats 4000000 in
set_option maxRecDepth 100000 in
theorem kb_X4_countUses_17 {p : Program} {l : Launch} {e : Env} {s : State} {m : MethodId} {args : Array Value} {below : List Frame} {meth : Method} {c : Code} {G : ka_G} (hI : ka_I G) {o : Nat} (ho : o < 18) (C0 : ka_C p s m args meth c cX4_countUses 6 "GlossRows$Page" (some .int)) (hK : ka_Kn G s) {Q : Int32 → ka_S → Prop} {K5 : ka_S → Int64 → Int32 → Int32 → Prop} (hk5 : ∀ (σ : ka_S) (v1 : Int64) (v3 : Int32) (v4 : Int32), K5 σ v1 v3 v4 → ∀ (H : Heap) (locs : List Loc), ka_P G σ H → va_S (ka_A G) s.heap H locs → ∀ ls : Array Slot, lv_has ls 6 [(0, .ref (ka_a G (0, o, 0))), (1, .long v1), (3, .int v3), (4, .int v4)] → W p l e rm_X4_countUses s m args below meth c H locs 0 0 (MQ below (va_Qi Q (ka_B G) (ka_A G)) args s 0 0 (ka_A G)) (F0 m 5 ls [])) : ∀ (n : Nat) (σ : ka_S) (v1 : Int64) (v3 : Int32) (v4 : Int32) (v5 : Int32), kw_X4_countUses_17 o K5 Q n σ v1 v3 v4 v5 → ∀ (H : Heap) (locs : List Loc), ka_P G σ H → va_S (ka_A G) s.heap H locs → ∀ ls : Array Slot, lv_has ls 6 [(0, .ref (ka_a G (0, o, 0))), (1, .long v1), (3, .int v3), (4, .int v4), (5, .int v5)] → W p l e rm_X4_countUses s m args below meth c H locs 0 0 (MQ below (va_Qi Q (ka_B G) (ka_A G)) args s 0 0 (ka_A G)) (F0 m 17 ls []) := by
  obtain ⟨hx, hb, -, hml, hown, hts, -⟩ := id C0
  intro n
  induction n with
  | zero =>
    intro σ v1 v3 v4 v5 hq
    rw [kw_X4_countUses_17] at hq
    exact hq.elim
  | succ n ih =>
    intro σ v1 v3 v4 v5 hq H locs hP hS ls hl
    rw [kw_X4_countUses_17] at hq
    refine lv_iload hx hb dX4_countUses_17 (lv_at hl 4 rfl) ?_
    refine lv_aload_n hx hb dX4_countUses_19 rfl (lv_at hl 0 rfl) ?_
    refine kg_X4_words C0 hK hP (kv_p (by decide) ho) kq_148 dX4_countUses_20 ?_
    refine lv_iload hx hb dX4_countUses_23 (lv_at hl 3 rfl) ?_
    obtain ⟨b3, hq⟩ := hq
    refine kr_aald (t := 3) C0 hK hP (kv_p (by decide) ho) rfl rfl b3 rfl dX4_countUses_25 ?_
    refine kg_X7_size C0 hK hP (kv_w (by decide) (by decide) (k_19 ho) (vp_lt b3)) kq_70 dX4_countUses_26 ?_
    refine lv_icmp_ge (tgt := 59) hx hb dX4_countUses_29 (by decide) (fun hc => ?_) (fun hc => ?_)
    · have hq := hq.1 hc
      obtain ⟨x4, ex4⟩ : ∃ y : Int32, y = v4 + (1 : Int32) := ⟨_, rfl⟩
      have hq := hq x4 ex4
      refine lv_iinc (v := x4) (lv' := [(4, .int x4), (0, .ref (ka_a G (0, o, 0))), (1, .long v1), (3, .int v3), (5, .int v5)]) hx hb dX4_countUses_59 hl (k := 3) rfl (by rw [ex4]; rfl) (by decide) rfl (fun ls hl => ?_)
      refine lv_goto (tgt := 5) hx hb dX4_countUses_62 (by decide) ?_
      exact hk5 σ v1 v3 x4 hq H locs hP hS ls (lv_sub hl [1, 2, 3, 0] rfl)
    · have hq := hq.2 hc
      refine lv_aload_n hx hb dX4_countUses_32 rfl (lv_at hl 0 rfl) ?_
      refine kg_X4_words C0 hK hP (kv_p (by decide) ho) kq_148 dX4_countUses_33 ?_
      refine lv_iload hx hb dX4_countUses_36 (lv_at hl 3 rfl) ?_
      obtain ⟨b5, hq⟩ := hq
      refine kr_aald (t := 3) C0 hK hP (kv_p (by decide) ho) rfl rfl b5 rfl dX4_countUses_38 ?_
      refine kg_X7_parts C0 hK hP (kv_w (by decide) (by decide) (k_19 ho) (vp_lt b5)) kq_60 dX4_countUses_39 ?_
      refine lv_iload hx hb dX4_countUses_42 (lv_at hl 4 rfl) ?_
      obtain ⟨b6, hq⟩ := hq
      refine kr_lald C0 hK hP (kv_w (by decide) (by decide) (k_19 ho) (vp_lt b5)) rfl b6 dX4_countUses_44 ?_
      refine lv_lload_n hx hb dX4_countUses_45 rfl (lv_at hl 1 rfl) ?_
      refine kr_cne (tgt := 53) C0 dX4_countUses_46 dX4_countUses_47 (by decide) (fun hc => ?_) (fun hc => ?_)
      · have hq := hq.2 hc
        obtain ⟨x7, ex7⟩ : ∃ y : Int32, y = v5 + (1 : Int32) := ⟨_, rfl⟩
        have hq := hq x7 ex7
        refine lv_iinc (v := x7) (lv' := [(5, .int x7), (0, .ref (ka_a G (0, o, 0))), (1, .long v1), (3, .int v3), (4, .int v4)]) hx hb dX4_countUses_53 hl (k := 4) rfl (by rw [ex7]; rfl) (by decide) rfl (fun ls hl => ?_)
        refine lv_goto (tgt := 17) hx hb dX4_countUses_56 (by decide) ?_
        exact ih σ v1 v3 v4 x7 hq H locs hP hS ls (lv_sub hl [1, 2, 3, 4, 0] rfl)
      · have hq := hq.1 hc
        obtain ⟨x8, ex8⟩ : ∃ y : Int32, y = v3 + (1 : Int32) := ⟨_, rfl⟩
        have hq := hq x8 ex8
        refine lv_iinc (v := x8) (lv' := [(3, .int x8), (0, .ref (ka_a G (0, o, 0))), (1, .long v1), (4, .int v4), (5, .int v5)]) hx hb dX4_countUses_50 hl (k := 2) rfl (by rw [ex8]; rfl) (by decide) rfl (fun ls hl => ?_)
        obtain ⟨x9, ex9⟩ : ∃ y : Int32, y = v5 + (1 : Int32) := ⟨_, rfl⟩
        have hq := hq x9 ex9
        refine lv_iinc (v := x9) (lv' := [(5, .int x9), (3, .int x8), (0, .ref (ka_a G (0, o, 0))), (1, .long v1), (4, .int v4)]) hx hb dX4_countUses_53 hl (k := 4) rfl (by rw [ex9]; rfl) (by decide) rfl (fun ls hl => ?_)
        refine lv_goto (tgt := 17) hx hb dX4_countUses_56 (by decide) ?_
        exact ih σ v1 x8 v4 x9 hq H locs hP hS ls (lv_sub hl [2, 3, 1, 4, 0] rfl)
set_option maxHeartbeats 4000000 in
set_option maxRecDepth 100000 in
theorem kb_X4_countUses_5 {p : Program} {l : Launch} {e : Env} {s : State} {m : MethodId} {args : Array Value} {below : List Frame} {meth : Method} {c : Code} {G : ka_G} (hI : ka_I G) {o : Nat} (ho : o < 18) (C0 : ka_C p s m args meth c cX4_countUses 6 "GlossRows$Page" (some .int)) (hK : ka_Kn G s) {Q : Int32 → ka_S → Prop} : ∀ (n : Nat) (σ : ka_S) (v1 : Int64) (v3 : Int32) (v4 : Int32), kw_X4_countUses_5 o Q n σ v1 v3 v4 → ∀ (H : Heap) (locs : List Loc), ka_P G σ H → va_S (ka_A G) s.heap H locs → ∀ ls : Array Slot, lv_has ls 6 [(0, .ref (ka_a G (0, o, 0))), (1, .long v1), (3, .int v3), (4, .int v4)] → W p l e rm_X4_countUses s m args below meth c H locs 0 0 (MQ below (va_Qi Q (ka_B G) (ka_A G)) args s 0 0 (ka_A G)) (F0 m 5 ls []) := by
  obtain ⟨hx, hb, -, hml, hown, hts, -⟩ := id C0
  intro n
  induction n with
  | zero =>
    intro σ v1 v3 v4 hq
    rw [kw_X4_countUses_5] at hq
    exact hq.elim
  | succ n ih =>
    intro σ v1 v3 v4 hq H locs hP hS ls hl
    rw [kw_X4_countUses_5] at hq
    refine lv_iload hx hb dX4_countUses_5 (lv_at hl 3 rfl) ?_
    refine lv_aload_n hx hb dX4_countUses_7 rfl (lv_at hl 0 rfl) ?_
    refine kg_X4_count C0 hK hP (kv_p (by decide) ho) kq_153 dX4_countUses_8 ?_
    refine lv_icmp_ge (tgt := 65) hx hb dX4_countUses_11 (by decide) (fun hc => ?_) (fun hc => ?_)
    · have hq := hq.1 hc
      refine lv_iload_n hx hb dX4_countUses_65 rfl (lv_at hl 2 rfl) ?_
      exact kr_iret C0 hK hP hS hq dX4_countUses_66
    · have hq := hq.2 hc
      refine lv_iconst (v := 0) hx hb dX4_countUses_14 (by decide) ?_
      refine lv_istore (lv' := [(5, .int (0 : Int32)), (0, .ref (ka_a G (0, o, 0))), (1, .long v1), (3, .int v3), (4, .int v4)]) hx hb dX4_countUses_15 hl (by decide) rfl (fun ls hl => ?_)
      obtain ⟨n2, hq⟩ := hq
      exact kb_X4_countUses_17 hI ho C0 hK ih n2 σ v1 v3 v4 (0 : Int32) hq H locs hP hS ls (lv_sub hl [1, 2, 3, 4, 0] rfl)
set_option maxHeartbeats 4000000 in
set_option maxRecDepth 100000 in
theorem km_X4_countUses (l : Launch) {G : ka_G} (hI : ka_I G) {o : Nat} (ho : o < 18) {σ : ka_S} {v1 : Int64} {Q : Int32 → ka_S → Prop} (hq : kw_X4_countUses σ o v1 Q) : kc_i l yX4_countUses (kw_ yX4_countUses cX4_countUses 6 (some .int)) rm_X4_countUses G [.ref (ka_a G (0, o, 0)), .long v1] σ Q := by
  refine ka_of "GlossRows$Page" rfl (by decide) (Nat.le_of_ble_eq_true rfl) ?_
  intro p e s m below meth c C0 hK H locs hP hS ls hl
  obtain ⟨hx, hb, -, hml, hown, hts, -⟩ := id C0
  have hl : lv_has ls 6 [(0, .ref (ka_a G (0, o, 0))), (1, .long v1)] := hl
  unfold kw_X4_countUses at hq
  refine lv_iconst (v := 0) hx hb dX4_countUses_0 (by decide) ?_
  refine lv_istore_n (lv' := [(3, .int (0 : Int32)), (0, .ref (ka_a G (0, o, 0))), (1, .long v1)]) hx hb dX4_countUses_1 rfl hl (by decide) rfl (fun ls hl => ?_)
  refine lv_iconst (v := 0) hx hb dX4_countUses_2 (by decide) ?_
  refine lv_istore (lv' := [(4, .int (0 : Int32)), (3, .int (0 : Int32)), (0, .ref (ka_a G (0, o, 0))), (1, .long v1)]) hx hb dX4_countUses_3 hl (by decide) rfl (fun ls hl => ?_)
  obtain ⟨n1, hq⟩ := hq
  exact kb_X4_countUses_5 hI ho C0 hK n1 σ v1 (0 : Int32) (0 : Int32) hq H locs hP hS ls (lv_sub hl [2, 3, 1, 0] rfl)
/-! GlossRows$Page.placeOfMostUsed()I -/
def rm_X4_placeOfMostUsed : Room := { frames := 1, cells := 0, slots := 0, locals := 25 }
def kw_X4_placeOfMostUsed_79 (o : Nat) (K10 : ka_S → Int32 → Int32 → Int64 → Int32 → Prop) (K22 : ka_S → Int32 → Int32 → Int64 → Int32 → Int32 → Prop) (Q : Int32 → ka_S → Prop) (σ : ka_S) (v5 : Int32) (v6 : Int32) (v7 : Int64) (v9 : Int32) : Prop := ∀ x12 : Int32, x12 = (((10 : Int32) * v5) + v6) → 
  ∀ x13 : Int32, x13 = v6 + (1 : Int32) →
  K22 σ x12 v9 v7 v5 x13
def kw_X4_placeOfMostUsed_22 (o : Nat) (K10 : ka_S → Int32 → Int32 → Int64 → Int32 → Prop) (Q : Int32 → ka_S → Prop) : Nat → ka_S → Int32 → Int32 → Int64 → Int32 → Int32 → Prop
  | 0, _, _, _, _, _, _ => False
  | n + 1, σ, v1, v2, v3, v5, v6 => vp_in v5 12 ∧
    ((σ.1 (5, o, v5.toNatClampNeg) 4) ≤ v6 → ∀ x4 : Int32, x4 = v5 + (1 : Int32) →
      K10 σ v1 v2 v3 x4) ∧
    (¬ (σ.1 (5, o, v5.toNatClampNeg) 4) ≤ v6 → vp_in v5 12 ∧
      vp_in v6 4 ∧
      ∀ x7 : Int64, x7 = (σ.2 (6, o, v5.toNatClampNeg) v6.toNatClampNeg) → 
      kw_X4_countUses σ o x7 (fun r9 σ8 => 
      (v2 < r9 → kw_X4_placeOfMostUsed_79 o K10 (kw_X4_placeOfMostUsed_22 o K10 Q n) Q σ8 v5 v6 x7 r9) ∧
      (¬ v2 < r9 → (r9 = v2 → (v3 ≤ x7 → ∀ x11 : Int32, x11 = v6 + (1 : Int32) →
            (kw_X4_placeOfMostUsed_22 o K10 Q n) σ8 v1 v2 v3 v5 x11) ∧
          (¬ v3 ≤ x7 → kw_X4_placeOfMostUsed_79 o K10 (kw_X4_placeOfMostUsed_22 o K10 Q n) Q σ8 v5 v6 x7 r9)) ∧
        (¬ r9 = v2 → ∀ x10 : Int32, x10 = v6 + (1 : Int32) →
          (kw_X4_placeOfMostUsed_22 o K10 Q n) σ8 v1 v2 v3 v5 x10))))
def kw_X4_placeOfMostUsed_10 (o : Nat) (Q : Int32 → ka_S → Prop) : Nat → ka_S → Int32 → Int32 → Int64 → Int32 → Prop
  | 0, _, _, _, _, _ => False
  | n + 1, σ, v1, v2, v3, v5 => ((σ.1 (0, o, 0) 2) ≤ v5 → Q v1 σ) ∧
    (¬ (σ.1 (0, o, 0) 2) ≤ v5 → ∃ n2 : Nat, kw_X4_placeOfMostUsed_22 o (kw_X4_placeOfMostUsed_10 o Q n) Q n2 σ v1 v2 v3 v5 (0 : Int32))
def kw_X4_placeOfMostUsed (σ : ka_S) (o : Nat) (Q : Int32 → ka_S → Prop) : Prop := ∃ n1 : Nat, kw_X4_placeOfMostUsed_10 o Q n1 σ (-9 : Int32) (0 : Int32) (0 : Int64) (0 : Int32)
set_option maxHeartbeats 4000000 in
set_option maxRecDepth 100000 in
theorem kb_X4_placeOfMostUsed_79 {p : Program} {l : Launch} {e : Env} {s : State} {m : MethodId} {args : Array Value} {below : List Frame} {meth : Method} {c : Code} {G : ka_G} (hI : ka_I G) {o : Nat} (ho : o < 18) (C0 : ka_C p s m args meth c cX4_placeOfMostUsed 10 "GlossRows$Page" (some .int)) (hK : ka_Kn G s) {Q : Int32 → ka_S → Prop} {K10 : ka_S → Int32 → Int32 → Int64 → Int32 → Prop} {K22 : ka_S → Int32 → Int32 → Int64 → Int32 → Int32 → Prop} (hk10 : ∀ (σ : ka_S) (v1 : Int32) (v2 : Int32) (v3 : Int64) (v5 : Int32), K10 σ v1 v2 v3 v5 → ∀ (H : Heap) (locs : List Loc), ka_P G σ H → va_S (ka_A G) s.heap H locs → ∀ ls : Array Slot, lv_has ls 10 [(0, .ref (ka_a G (0, o, 0))), (1, .int v1), (2, .int v2), (3, .long v3), (5, .int v5)] → W p l e rm_X4_placeOfMostUsed s m args below meth c H locs 0 0 (MQ below (va_Qi Q (ka_B G) (ka_A G)) args s 0 0 (ka_A G)) (F0 m 10 ls [])) (hk22 : ∀ (σ : ka_S) (v1 : Int32) (v2 : Int32) (v3 : Int64) (v5 : Int32) (v6 : Int32), K22 σ v1 v2 v3 v5 v6 → ∀ (H : Heap) (locs : List Loc), ka_P G σ H → va_S (ka_A G) s.heap H locs → ∀ ls : Array Slot, lv_has ls 10 [(0, .ref (ka_a G (0, o, 0))), (1, .int v1), (2, .int v2), (3, .long v3), (5, .int v5), (6, .int v6)] → W p l e rm_X4_placeOfMostUsed s m args below meth c H locs 0 0 (MQ below (va_Qi Q (ka_B G) (ka_A G)) args s 0 0 (ka_A G)) (F0 m 22 ls [])) : ∀ (σ : ka_S) (v5 : Int32) (v6 : Int32) (v7 : Int64) (v9 : Int32), kw_X4_placeOfMostUsed_79 o K10 K22 Q σ v5 v6 v7 v9 → ∀ (H : Heap) (locs : List Loc), ka_P G σ H → va_S (ka_A G) s.heap H locs → ∀ ls : Array Slot, lv_has ls 10 [(0, .ref (ka_a G (0, o, 0))), (5, .int v5), (6, .int v6), (7, .long v7), (9, .int v9)] → W p l e rm_X4_placeOfMostUsed s m args below meth c H locs 0 0 (MQ below (va_Qi Q (ka_B G) (ka_A G)) args s 0 0 (ka_A G)) (F0 m 79 ls []) := by
  obtain ⟨hx, hb, -, hml, hown, hts, -⟩ := id C0
  intro σ v5 v6 v7 v9 hq H locs hP hS ls hl
  unfold kw_X4_placeOfMostUsed_79 at hq
  refine lv_bipush (v := 10) hx hb dX4_placeOfMostUsed_79 (by decide) ?_
  refine lv_iload hx hb dX4_placeOfMostUsed_81 (lv_at hl 1 rfl) ?_
  refine lv_imul hx hb dX4_placeOfMostUsed_83 ?_
  refine lv_iload hx hb dX4_placeOfMostUsed_84 (lv_at hl 2 rfl) ?_
  refine lv_iadd hx hb dX4_placeOfMostUsed_86 ?_
  refine lv_topi (fun x12 ex12 => ?_)
  have hq := hq x12 ex12
  refine lv_istore_n (lv' := [(1, .int x12), (0, .ref (ka_a G (0, o, 0))), (5, .int v5), (6, .int v6), (7, .long v7), (9, .int v9)]) hx hb dX4_placeOfMostUsed_87 rfl hl (by decide) rfl (fun ls hl => ?_)
  refine lv_iload hx hb dX4_placeOfMostUsed_88 (lv_at hl 5 rfl) ?_
  refine lv_istore_n (lv' := [(2, .int v9), (1, .int x12), (0, .ref (ka_a G (0, o, 0))), (5, .int v5), (6, .int v6), (7, .long v7), (9, .int v9)]) hx hb dX4_placeOfMostUsed_90 rfl hl (by decide) rfl (fun ls hl => ?_)
  refine lv_lload hx hb dX4_placeOfMostUsed_91 (lv_at hl 5 rfl) ?_
  refine lv_lstore_n (lv' := [(3, .long v7), (2, .int v9), (1, .int x12), (0, .ref (ka_a G (0, o, 0))), (5, .int v5), (6, .int v6), (7, .long v7), (9, .int v9)]) hx hb dX4_placeOfMostUsed_93 rfl hl (by decide) rfl (fun ls hl => ?_)
  obtain ⟨x13, ex13⟩ : ∃ y : Int32, y = v6 + (1 : Int32) := ⟨_, rfl⟩
  have hq := hq x13 ex13
  refine lv_iinc (v := x13) (lv' := [(6, .int x13), (3, .long v7), (2, .int v9), (1, .int x12), (0, .ref (ka_a G (0, o, 0))), (5, .int v5), (7, .long v7), (9, .int v9)]) hx hb dX4_placeOfMostUsed_94 hl (k := 5) rfl (by rw [ex13]; rfl) (by decide) rfl (fun ls hl => ?_)
  refine lv_goto (tgt := 22) hx hb dX4_placeOfMostUsed_97 (by decide) ?_
  exact hk22 σ x12 v9 v7 v5 x13 hq H locs hP hS ls (lv_sub hl [4, 3, 2, 1, 5, 0] rfl)
set_option maxHeartbeats 4000000 in
set_option maxRecDepth 100000 in
theorem kb_X4_placeOfMostUsed_22 {p : Program} {l : Launch} {e : Env} {s : State} {m : MethodId} {args : Array Value} {below : List Frame} {meth : Method} {c : Code} {G : ka_G} (hI : ka_I G) {o : Nat} (ho : o < 18) (C0 : ka_C p s m args meth c cX4_placeOfMostUsed 10 "GlossRows$Page" (some .int)) (hK : ka_Kn G s) {Q : Int32 → ka_S → Prop} {K10 : ka_S → Int32 → Int32 → Int64 → Int32 → Prop} (hk10 : ∀ (σ : ka_S) (v1 : Int32) (v2 : Int32) (v3 : Int64) (v5 : Int32), K10 σ v1 v2 v3 v5 → ∀ (H : Heap) (locs : List Loc), ka_P G σ H → va_S (ka_A G) s.heap H locs → ∀ ls : Array Slot, lv_has ls 10 [(0, .ref (ka_a G (0, o, 0))), (1, .int v1), (2, .int v2), (3, .long v3), (5, .int v5)] → W p l e rm_X4_placeOfMostUsed s m args below meth c H locs 0 0 (MQ below (va_Qi Q (ka_B G) (ka_A G)) args s 0 0 (ka_A G)) (F0 m 10 ls [])) : ∀ (n : Nat) (σ : ka_S) (v1 : Int32) (v2 : Int32) (v3 : Int64) (v5 : Int32) (v6 : Int32), kw_X4_placeOfMostUsed_22 o K10 Q n σ v1 v2 v3 v5 v6 → ∀ (H : Heap) (locs : List Loc), ka_P G σ H → va_S (ka_A G) s.heap H locs → ∀ ls : Array Slot, lv_has ls 10 [(0, .ref (ka_a G (0, o, 0))), (1, .int v1), (2, .int v2), (3, .long v3), (5, .int v5), (6, .int v6)] → W p l e rm_X4_placeOfMostUsed s m args below meth c H locs 0 0 (MQ below (va_Qi Q (ka_B G) (ka_A G)) args s 0 0 (ka_A G)) (F0 m 22 ls []) := by
  obtain ⟨hx, hb, -, hml, hown, hts, -⟩ := id C0
  intro n
  induction n with
  | zero =>
    intro σ v1 v2 v3 v5 v6 hq
    rw [kw_X4_placeOfMostUsed_22] at hq
    exact hq.elim
  | succ n ih =>
    intro σ v1 v2 v3 v5 v6 hq H locs hP hS ls hl
    rw [kw_X4_placeOfMostUsed_22] at hq
    refine lv_iload hx hb dX4_placeOfMostUsed_22 (lv_at hl 5 rfl) ?_
    refine lv_aload_n hx hb dX4_placeOfMostUsed_24 rfl (lv_at hl 0 rfl) ?_
    refine kg_X4_words C0 hK hP (kv_p (by decide) ho) kq_148 dX4_placeOfMostUsed_25 ?_
    refine lv_iload hx hb dX4_placeOfMostUsed_28 (lv_at hl 4 rfl) ?_
    obtain ⟨b3, hq⟩ := hq
    refine kr_aald (t := 3) C0 hK hP (kv_p (by decide) ho) rfl rfl b3 rfl dX4_placeOfMostUsed_30 ?_
    refine kg_X7_size C0 hK hP (kv_w (by decide) (by decide) (k_19 ho) (vp_lt b3)) kq_70 dX4_placeOfMostUsed_31 ?_
    refine lv_icmp_ge (tgt := 100) hx hb dX4_placeOfMostUsed_34 (by decide) (fun hc => ?_) (fun hc => ?_)
    · have hq := hq.1 hc
      obtain ⟨x4, ex4⟩ : ∃ y : Int32, y = v5 + (1 : Int32) := ⟨_, rfl⟩
      have hq := hq x4 ex4
      refine lv_iinc (v := x4) (lv' := [(5, .int x4), (0, .ref (ka_a G (0, o, 0))), (1, .int v1), (2, .int v2), (3, .long v3), (6, .int v6)]) hx hb dX4_placeOfMostUsed_100 hl (k := 4) rfl (by rw [ex4]; rfl) (by decide) rfl (fun ls hl => ?_)
      refine lv_goto (tgt := 10) hx hb dX4_placeOfMostUsed_103 (by decide) ?_
      exact hk10 σ v1 v2 v3 x4 hq H locs hP hS ls (lv_sub hl [1, 2, 3, 4, 0] rfl)
    · have hq := hq.2 hc
      refine lv_aload_n hx hb dX4_placeOfMostUsed_37 rfl (lv_at hl 0 rfl) ?_
      refine kg_X4_words C0 hK hP (kv_p (by decide) ho) kq_148 dX4_placeOfMostUsed_38 ?_
      refine lv_iload hx hb dX4_placeOfMostUsed_41 (lv_at hl 4 rfl) ?_
      obtain ⟨b5, hq⟩ := hq
      refine kr_aald (t := 3) C0 hK hP (kv_p (by decide) ho) rfl rfl b5 rfl dX4_placeOfMostUsed_43 ?_
      refine kg_X7_parts C0 hK hP (kv_w (by decide) (by decide) (k_19 ho) (vp_lt b5)) kq_60 dX4_placeOfMostUsed_44 ?_
      refine lv_iload hx hb dX4_placeOfMostUsed_47 (lv_at hl 5 rfl) ?_
      obtain ⟨b6, hq⟩ := hq
      refine kr_lald C0 hK hP (kv_w (by decide) (by decide) (k_19 ho) (vp_lt b5)) rfl b6 dX4_placeOfMostUsed_49 ?_
      refine lv_topl (fun x7 ex7 => ?_)
      have hq := hq x7 ex7
      refine lv_lstore (lv' := [(7, .long x7), (0, .ref (ka_a G (0, o, 0))), (1, .int v1), (2, .int v2), (3, .long v3), (5, .int v5), (6, .int v6)]) hx hb dX4_placeOfMostUsed_50 hl (by decide) rfl (fun ls hl => ?_)
      refine lv_aload_n hx hb dX4_placeOfMostUsed_52 rfl (lv_at hl 1 rfl) ?_
      refine lv_lload hx hb dX4_placeOfMostUsed_53 (lv_at hl 0 rfl) ?_
      refine kr_Vi (k := (0, o, 0)) (As := [.long x7]) (rest := []) C0 hK hP hS hl (km_X4_countUses l hI ho hq) kd_X4_countUses kq_655 (kv_p (by decide) ho) rfl rfl rfl ⟨rfl, rfl, Nat.le_of_ble_eq_true rfl, Nat.le_of_ble_eq_true rfl⟩ rfl (Nat.le_of_ble_eq_true rfl) dX4_placeOfMostUsed_55 ⟨Nat.zero_le _, Nat.zero_le _⟩ (fun r9 σ8 H locs hq hP hS => ?_)
      refine lv_istore (lv' := [(9, .int r9), (7, .long x7), (0, .ref (ka_a G (0, o, 0))), (1, .int v1), (2, .int v2), (3, .long v3), (5, .int v5), (6, .int v6)]) hx hb dX4_placeOfMostUsed_58 hl (by decide) rfl (fun ls hl => ?_)
      refine lv_iload hx hb dX4_placeOfMostUsed_60 (lv_at hl 0 rfl) ?_
      refine lv_iload_n hx hb dX4_placeOfMostUsed_62 rfl (lv_at hl 4 rfl) ?_
      refine lv_icmp_gt (tgt := 79) hx hb dX4_placeOfMostUsed_63 (by decide) (fun hc => ?_) (fun hc => ?_)
      · have hq := hq.1 hc
        exact kb_X4_placeOfMostUsed_79 hI ho C0 hK hk10 ih σ8 v5 v6 x7 r9 hq H locs hP hS ls (lv_sub hl [2, 6, 7, 1, 0] rfl)
      · have hq := hq.2 hc
        refine lv_iload hx hb dX4_placeOfMostUsed_66 (lv_at hl 0 rfl) ?_
        refine lv_iload_n hx hb dX4_placeOfMostUsed_68 rfl (lv_at hl 4 rfl) ?_
        refine lv_icmp_ne (tgt := 94) hx hb dX4_placeOfMostUsed_69 (by decide) (fun hc => ?_) (fun hc => ?_)
        · have hq := hq.2 hc
          obtain ⟨x10, ex10⟩ : ∃ y : Int32, y = v6 + (1 : Int32) := ⟨_, rfl⟩
          have hq := hq x10 ex10
          refine lv_iinc (v := x10) (lv' := [(6, .int x10), (9, .int r9), (7, .long x7), (0, .ref (ka_a G (0, o, 0))), (1, .int v1), (2, .int v2), (3, .long v3), (5, .int v5)]) hx hb dX4_placeOfMostUsed_94 hl (k := 7) rfl (by rw [ex10]; rfl) (by decide) rfl (fun ls hl => ?_)
          refine lv_goto (tgt := 22) hx hb dX4_placeOfMostUsed_97 (by decide) ?_
          exact ih σ8 v1 v2 v3 v5 x10 hq H locs hP hS ls (lv_sub hl [3, 4, 5, 6, 7, 0] rfl)
        · have hq := hq.1 hc
          refine lv_lload hx hb dX4_placeOfMostUsed_72 (lv_at hl 1 rfl) ?_
          refine lv_lload_n hx hb dX4_placeOfMostUsed_74 rfl (lv_at hl 5 rfl) ?_
          refine kr_cge (tgt := 94) C0 dX4_placeOfMostUsed_75 dX4_placeOfMostUsed_76 (by decide) (fun hc => ?_) (fun hc => ?_)
          · have hq := hq.1 hc
            obtain ⟨x11, ex11⟩ : ∃ y : Int32, y = v6 + (1 : Int32) := ⟨_, rfl⟩
            have hq := hq x11 ex11
            refine lv_iinc (v := x11) (lv' := [(6, .int x11), (9, .int r9), (7, .long x7), (0, .ref (ka_a G (0, o, 0))), (1, .int v1), (2, .int v2), (3, .long v3), (5, .int v5)]) hx hb dX4_placeOfMostUsed_94 hl (k := 7) rfl (by rw [ex11]; rfl) (by decide) rfl (fun ls hl => ?_)
            refine lv_goto (tgt := 22) hx hb dX4_placeOfMostUsed_97 (by decide) ?_
            exact ih σ8 v1 v2 v3 v5 x11 hq H locs hP hS ls (lv_sub hl [3, 4, 5, 6, 7, 0] rfl)
          · have hq := hq.2 hc
            exact kb_X4_placeOfMostUsed_79 hI ho C0 hK hk10 ih σ8 v5 v6 x7 r9 hq H locs hP hS ls (lv_sub hl [2, 6, 7, 1, 0] rfl)
set_option maxHeartbeats 4000000 in
set_option maxRecDepth 100000 in
theorem kb_X4_placeOfMostUsed_10 {p : Program} {l : Launch} {e : Env} {s : State} {m : MethodId} {args : Array Value} {below : List Frame} {meth : Method} {c : Code} {G : ka_G} (hI : ka_I G) {o : Nat} (ho : o < 18) (C0 : ka_C p s m args meth c cX4_placeOfMostUsed 10 "GlossRows$Page" (some .int)) (hK : ka_Kn G s) {Q : Int32 → ka_S → Prop} : ∀ (n : Nat) (σ : ka_S) (v1 : Int32) (v2 : Int32) (v3 : Int64) (v5 : Int32), kw_X4_placeOfMostUsed_10 o Q n σ v1 v2 v3 v5 → ∀ (H : Heap) (locs : List Loc), ka_P G σ H → va_S (ka_A G) s.heap H locs → ∀ ls : Array Slot, lv_has ls 10 [(0, .ref (ka_a G (0, o, 0))), (1, .int v1), (2, .int v2), (3, .long v3), (5, .int v5)] → W p l e rm_X4_placeOfMostUsed s m args below meth c H locs 0 0 (MQ below (va_Qi Q (ka_B G) (ka_A G)) args s 0 0 (ka_A G)) (F0 m 10 ls []) := by
  obtain ⟨hx, hb, -, hml, hown, hts, -⟩ := id C0
  intro n
  induction n with
  | zero =>
    intro σ v1 v2 v3 v5 hq
    rw [kw_X4_placeOfMostUsed_10] at hq
    exact hq.elim
  | succ n ih =>
    intro σ v1 v2 v3 v5 hq H locs hP hS ls hl
    rw [kw_X4_placeOfMostUsed_10] at hq
    refine lv_iload hx hb dX4_placeOfMostUsed_10 (lv_at hl 4 rfl) ?_
    refine lv_aload_n hx hb dX4_placeOfMostUsed_12 rfl (lv_at hl 0 rfl) ?_
    refine kg_X4_count C0 hK hP (kv_p (by decide) ho) kq_153 dX4_placeOfMostUsed_13 ?_
    refine lv_icmp_ge (tgt := 106) hx hb dX4_placeOfMostUsed_16 (by decide) (fun hc => ?_) (fun hc => ?_)
    · have hq := hq.1 hc
      refine lv_iload_n hx hb dX4_placeOfMostUsed_106 rfl (lv_at hl 1 rfl) ?_
      exact kr_iret C0 hK hP hS hq dX4_placeOfMostUsed_107
    · have hq := hq.2 hc
      refine lv_iconst (v := 0) hx hb dX4_placeOfMostUsed_19 (by decide) ?_
      refine lv_istore (lv' := [(6, .int (0 : Int32)), (0, .ref (ka_a G (0, o, 0))), (1, .int v1), (2, .int v2), (3, .long v3), (5, .int v5)]) hx hb dX4_placeOfMostUsed_20 hl (by decide) rfl (fun ls hl => ?_)
      obtain ⟨n2, hq⟩ := hq
      exact kb_X4_placeOfMostUsed_22 hI ho C0 hK ih n2 σ v1 v2 v3 v5 (0 : Int32) hq H locs hP hS ls (lv_sub hl [1, 2, 3, 4, 5, 0] rfl)
set_option maxHeartbeats 4000000 in
set_option maxRecDepth 100000 in
theorem km_X4_placeOfMostUsed (l : Launch) {G : ka_G} (hI : ka_I G) {o : Nat} (ho : o < 18) {σ : ka_S} {Q : Int32 → ka_S → Prop} (hq : kw_X4_placeOfMostUsed σ o Q) : kc_i l yX4_placeOfMostUsed (kw_ yX4_placeOfMostUsed cX4_placeOfMostUsed 10 (some .int)) rm_X4_placeOfMostUsed G [.ref (ka_a G (0, o, 0))] σ Q := by
  refine ka_of "GlossRows$Page" rfl (by decide) (Nat.le_of_ble_eq_true rfl) ?_
  intro p e s m below meth c C0 hK H locs hP hS ls hl
  obtain ⟨hx, hb, -, hml, hown, hts, -⟩ := id C0
  have hl : lv_has ls 10 [(0, .ref (ka_a G (0, o, 0)))] := hl
  unfold kw_X4_placeOfMostUsed at hq
  refine lv_bipush (v := -9) hx hb dX4_placeOfMostUsed_0 (by decide) ?_
  refine lv_istore_n (lv' := [(1, .int (-9 : Int32)), (0, .ref (ka_a G (0, o, 0)))]) hx hb dX4_placeOfMostUsed_2 rfl hl (by decide) rfl (fun ls hl => ?_)
  refine lv_iconst (v := 0) hx hb dX4_placeOfMostUsed_3 (by decide) ?_
  refine lv_istore_n (lv' := [(2, .int (0 : Int32)), (1, .int (-9 : Int32)), (0, .ref (ka_a G (0, o, 0)))]) hx hb dX4_placeOfMostUsed_4 rfl hl (by decide) rfl (fun ls hl => ?_)
  refine lv_lconst (v := 0) hx hb dX4_placeOfMostUsed_5 (by decide) ?_
  refine lv_lstore_n (lv' := [(3, .long (0 : Int64)), (2, .int (0 : Int32)), (1, .int (-9 : Int32)), (0, .ref (ka_a G (0, o, 0)))]) hx hb dX4_placeOfMostUsed_6 rfl hl (by decide) rfl (fun ls hl => ?_)
  refine lv_iconst (v := 0) hx hb dX4_placeOfMostUsed_7 (by decide) ?_
  refine lv_istore (lv' := [(5, .int (0 : Int32)), (3, .long (0 : Int64)), (2, .int (0 : Int32)), (1, .int (-9 : Int32)), (0, .ref (ka_a G (0, o, 0)))]) hx hb dX4_placeOfMostUsed_8 hl (by decide) rfl (fun ls hl => ?_)
  obtain ⟨n1, hq⟩ := hq
  exact kb_X4_placeOfMostUsed_10 hI ho C0 hK n1 σ (-9 : Int32) (0 : Int32) (0 : Int64) (0 : Int32) hq H locs hP hS ls (lv_sub hl [4, 3, 2, 1, 0] rfl)
