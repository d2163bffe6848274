/-! GlossRowsModel.learnOn([JII)V -/
def rm_X9_learnOn : Room := { frames := 2, cells := 0, slots := 0, locals := 42 }
def kw_X9_learnOn_107 (a : ka_K) (Q : ka_S → Prop) (σ : ka_S) (v1 : Int32) (v2 : Int32) (v3 : Int64) (v5 : Int32) : Prop := vp_in ((221 : Int32) + ((2 : Int32) * v5)) (ka_n a) ∧
  ∀ σ11 : ka_S, σ11 = ka_wL σ a ((221 : Int32) + ((2 : Int32) * v5)).toNatClampNeg v3 →
  kw_X9_glossAt σ11 v1 v2 (fun r13 σ12 => 
  vp_in r13 (ka_n a) ∧
  vp_in (((221 : Int32) + ((2 : Int32) * v5)) + (1 : Int32)) (ka_n a) ∧
  ∀ σ16 : ka_S, σ16 = ka_wL σ12 a (((221 : Int32) + ((2 : Int32) * v5)) + (1 : Int32)).toNatClampNeg (σ12.2 a r13.toNatClampNeg) →
  Q σ16)
def kw_X9_learnOn_100 (a : ka_K) (Q : ka_S → Prop) (σ : ka_S) (v1 : Int32) (v2 : Int32) (v3 : Int64) (v5 : Int32) : Prop := vp_in (1 : Int32) (ka_n a) ∧
  vp_in (1 : Int32) (ka_n a) ∧
  ∀ σ27 : ka_S, σ27 = ka_wL σ a (1 : Int32).toNatClampNeg ((σ.2 a (1 : Int32).toNatClampNeg) + (1 : Int64)) →
  kw_X9_learnOn_107 a Q σ27 v1 v2 v3 v5
def kw_X9_learnOn_26 (a : ka_K) (Q : ka_S → Prop) : Nat → ka_S → Int32 → Int32 → Int64 → Int32 → Prop
  | 0, _, _, _, _, _ => False
  | n + 1, σ, v1, v2, v3, v5 => (v5 ≤ (0 : Int32) → kw_X9_learnOn_100 a Q σ v1 v2 v3 v5) ∧
    (¬ v5 ≤ (0 : Int32) → vp_in (((221 : Int32) + ((2 : Int32) * v5)) - (2 : Int32)) (ka_n a) ∧
      ((σ.2 a (((221 : Int32) + ((2 : Int32) * v5)) - (2 : Int32)).toNatClampNeg) ≤ v3 → kw_X9_learnOn_100 a Q σ v1 v2 v3 v5) ∧
      (¬ (σ.2 a (((221 : Int32) + ((2 : Int32) * v5)) - (2 : Int32)).toNatClampNeg) ≤ v3 → vp_in (((221 : Int32) + ((2 : Int32) * v5)) - (2 : Int32)) (ka_n a) ∧
        vp_in ((221 : Int32) + ((2 : Int32) * v5)) (ka_n a) ∧
        ∀ σ20 : ka_S, σ20 = ka_wL σ a ((221 : Int32) + ((2 : Int32) * v5)).toNatClampNeg (σ.2 a (((221 : Int32) + ((2 : Int32) * v5)) - (2 : Int32)).toNatClampNeg) →
        vp_in (((221 : Int32) + ((2 : Int32) * v5)) - (1 : Int32)) (ka_n a) ∧
        vp_in (((221 : Int32) + ((2 : Int32) * v5)) + (1 : Int32)) (ka_n a) ∧
        ∀ σ23 : ka_S, σ23 = ka_wL σ20 a (((221 : Int32) + ((2 : Int32) * v5)) + (1 : Int32)).toNatClampNeg (σ20.2 a (((221 : Int32) + ((2 : Int32) * v5)) - (1 : Int32)).toNatClampNeg) →
        ∀ x24 : Int32, x24 = v5 + (-1 : Int32) →
        (kw_X9_learnOn_26 a Q n) σ23 v1 v2 v3 x24))
def kw_X9_learnOn (σ : ka_S) (a : ka_K) (v1 : Int32) (v2 : Int32) (Q : ka_S → Prop) : Prop := kw_X9_partAt σ v1 v2 (fun r2 σ1 => 
  vp_in r2 (ka_n a) ∧
  ∀ x4 : Int64, x4 = (σ1.2 a r2.toNatClampNeg) → 
  kw_X9_entryOf σ1 a x4 (fun r6 σ5 => 
  ((0 : Int32) ≤ r6 → kw_X9_learnOn_107 a Q σ5 v1 v2 x4 r6) ∧
  (¬ (0 : Int32) ≤ r6 → vp_in (1 : Int32) (ka_n a) ∧
    ∀ x8 : Int32, x8 = ((σ5.2 a (1 : Int32).toNatClampNeg).toInt32) → 
    ∃ n9 : Nat, kw_X9_learnOn_26 a Q n9 σ5 v1 v2 x4 x8)))
set_option maxHeartbeats 4000000 in
set_option maxRecDepth 100000 in
theorem kb_X9_learnOn_107 {p : Program} {l : Launch} {e : Env} {s : State} {m : MethodId} {args : Array Value} {below : List Frame} {meth : Method} {c : Code} {G : ka_G} (hI : ka_I G) {a : ka_K} (ha : ka_L a) (C0 : ka_C p s m args meth c cX9_learnOn 6 "GlossRowsModel" none) (hK : ka_Kn G s) {Q : ka_S → Prop} : ∀ (σ : ka_S) (v1 : Int32) (v2 : Int32) (v3 : Int64) (v5 : Int32), kw_X9_learnOn_107 a Q σ v1 v2 v3 v5 → ∀ (H : Heap) (locs : List Loc), ka_P G σ H → va_S (ka_A G) s.heap H locs → ∀ ls : Array Slot, lv_has ls 6 [(0, .ref (ka_a G a)), (1, .int v1), (2, .int v2), (3, .long v3), (5, .int v5)] → W p l e rm_X9_learnOn s m args below meth c H locs 0 0 (MQ below (va_Qv Q (ka_B G) (ka_A G)) args s 0 0 (ka_A G)) (F0 m 107 ls []) := by
  obtain ⟨hx, hb, -, hml, hown, hts, -⟩ := id C0
  intro σ v1 v2 v3 v5 hq H locs hP hS ls hl
  unfold kw_X9_learnOn_107 at hq
  refine lv_aload_n hx hb dX9_learnOn_107 rfl (lv_at hl 0 rfl) ?_
  refine lv_sipush (v := 221) hx hb dX9_learnOn_108 (by decide) ?_
  refine lv_iconst (v := 2) hx hb dX9_learnOn_111 (by decide) ?_
  refine lv_iload hx hb dX9_learnOn_112 (lv_at hl 4 rfl) ?_
  refine lv_imul hx hb dX9_learnOn_114 ?_
  refine lv_iadd hx hb dX9_learnOn_115 ?_
  refine lv_lload_n hx hb dX9_learnOn_116 rfl (lv_at hl 3 rfl) ?_
  obtain ⟨b10, hq⟩ := hq
  refine kr_last C0 hK hI hP hS ha.1 (ha.2 G) b10 dX9_learnOn_117 (fun H locs hP hS => ?_)
  obtain ⟨σ11, eσ11⟩ : ∃ z : ka_S, z = ka_wL σ a ((221 : Int32) + ((2 : Int32) * v5)).toNatClampNeg v3 := ⟨_, rfl⟩
  rw [← eσ11] at hP
  have hq := hq σ11 eσ11
  refine lv_aload_n hx hb dX9_learnOn_118 rfl (lv_at hl 0 rfl) ?_
  refine lv_sipush (v := 221) hx hb dX9_learnOn_119 (by decide) ?_
  refine lv_iconst (v := 2) hx hb dX9_learnOn_122 (by decide) ?_
  refine lv_iload hx hb dX9_learnOn_123 (lv_at hl 4 rfl) ?_
  refine lv_imul hx hb dX9_learnOn_125 ?_
  refine lv_iadd hx hb dX9_learnOn_126 ?_
  refine lv_iconst (v := 1) hx hb dX9_learnOn_127 (by decide) ?_
  refine lv_iadd hx hb dX9_learnOn_128 ?_
  refine lv_aload_n hx hb dX9_learnOn_129 rfl (lv_at hl 0 rfl) ?_
  refine lv_iload_n hx hb dX9_learnOn_130 rfl (lv_at hl 1 rfl) ?_
  refine lv_iload_n hx hb dX9_learnOn_131 rfl (lv_at hl 2 rfl) ?_
  refine kr_Si (As := [.int v1, .int v2]) (rest := [.ref (ka_a G a), .int (((221 : Int32) + ((2 : Int32) * v5)) + (1 : Int32)), .ref (ka_a G a)]) C0 hK hP hS hl (km_X9_glossAt l hI hq) kd_X9_glossAt kq_1115 ⟨rfl, rfl, Nat.le_of_ble_eq_true rfl, Nat.le_of_ble_eq_true rfl⟩ rfl (Nat.le_of_ble_eq_true rfl) dX9_learnOn_132 ⟨Nat.zero_le _, Nat.zero_le _⟩ (fun r13 σ12 H locs hq hP hS => ?_)
  obtain ⟨b14, hq⟩ := hq
  refine kr_lald C0 hK hP ha.1 (ha.2 G _) b14 dX9_learnOn_135 ?_
  obtain ⟨b15, hq⟩ := hq
  refine kr_last C0 hK hI hP hS ha.1 (ha.2 G) b15 dX9_learnOn_136 (fun H locs hP hS => ?_)
  obtain ⟨σ16, eσ16⟩ : ∃ z : ka_S, z = ka_wL σ12 a (((221 : Int32) + ((2 : Int32) * v5)) + (1 : Int32)).toNatClampNeg (σ12.2 a r13.toNatClampNeg) := ⟨_, rfl⟩
  rw [← eσ16] at hP
  have hq := hq σ16 eσ16
  exact kr_vret C0 hK hP hS hq dX9_learnOn_137
set_option maxHeartbeats 4000000 in
set_option maxRecDepth 100000 in
theorem kb_X9_learnOn_100 {p : Program} {l : Launch} {e : Env} {s : State} {m : MethodId} {args : Array Value} {below : List Frame} {meth : Method} {c : Code} {G : ka_G} (hI : ka_I G) {a : ka_K} (ha : ka_L a) (C0 : ka_C p s m args meth c cX9_learnOn 6 "GlossRowsModel" none) (hK : ka_Kn G s) {Q : ka_S → Prop} : ∀ (σ : ka_S) (v1 : Int32) (v2 : Int32) (v3 : Int64) (v5 : Int32), kw_X9_learnOn_100 a Q σ v1 v2 v3 v5 → ∀ (H : Heap) (locs : List Loc), ka_P G σ H → va_S (ka_A G) s.heap H locs → ∀ ls : Array Slot, lv_has ls 6 [(0, .ref (ka_a G a)), (1, .int v1), (2, .int v2), (3, .long v3), (5, .int v5)] → W p l e rm_X9_learnOn s m args below meth c H locs 0 0 (MQ below (va_Qv Q (ka_B G) (ka_A G)) args s 0 0 (ka_A G)) (F0 m 100 ls []) := by
  obtain ⟨hx, hb, -, hml, hown, hts, -⟩ := id C0
  intro σ v1 v2 v3 v5 hq H locs hP hS ls hl
  unfold kw_X9_learnOn_100 at hq
  refine lv_aload_n hx hb dX9_learnOn_100 rfl (lv_at hl 0 rfl) ?_
  refine lv_iconst (v := 1) hx hb dX9_learnOn_101 (by decide) ?_
  refine lv_dup2_11 hx hb dX9_learnOn_102 rfl rfl ?_
  obtain ⟨b25, hq⟩ := hq
  refine kr_lald C0 hK hP ha.1 (ha.2 G _) b25 dX9_learnOn_103 ?_
  refine lv_lconst (v := 1) hx hb dX9_learnOn_104 (by decide) ?_
  refine lv_ladd hx hb dX9_learnOn_105 ?_
  obtain ⟨b26, hq⟩ := hq
  refine kr_last C0 hK hI hP hS ha.1 (ha.2 G) b26 dX9_learnOn_106 (fun H locs hP hS => ?_)
  obtain ⟨σ27, eσ27⟩ : ∃ z : ka_S, z = ka_wL σ a (1 : Int32).toNatClampNeg ((σ.2 a (1 : Int32).toNatClampNeg) + (1 : Int64)) := ⟨_, rfl⟩
  rw [← eσ27] at hP
  have hq := hq σ27 eσ27
  exact kb_X9_learnOn_107 hI ha C0 hK σ27 v1 v2 v3 v5 hq H locs hP hS ls (lv_sub hl [0, 1, 2, 3, 4] rfl)
set_option maxHeartbeats 4000000 in
set_option maxRecDepth 100000 in
theorem kb_X9_learnOn_26 {p : Program} {l : Launch} {e : Env} {s : State} {m : MethodId} {args : Array Value} {below : List Frame} {meth : Method} {c : Code} {G : ka_G} (hI : ka_I G) {a : ka_K} (ha : ka_L a) (C0 : ka_C p s m args meth c cX9_learnOn 6 "GlossRowsModel" none) (hK : ka_Kn G s) {Q : ka_S → Prop} : ∀ (n : Nat) (σ : ka_S) (v1 : Int32) (v2 : Int32) (v3 : Int64) (v5 : Int32), kw_X9_learnOn_26 a Q n σ v1 v2 v3 v5 → ∀ (H : Heap) (locs : List Loc), ka_P G σ H → va_S (ka_A G) s.heap H locs → ∀ ls : Array Slot, lv_has ls 6 [(0, .ref (ka_a G a)), (1, .int v1), (2, .int v2), (3, .long v3), (5, .int v5)] → W p l e rm_X9_learnOn s m args below meth c H locs 0 0 (MQ below (va_Qv Q (ka_B G) (ka_A G)) args s 0 0 (ka_A G)) (F0 m 26 ls []) := by
  obtain ⟨hx, hb, -, hml, hown, hts, -⟩ := id C0
  intro n
  induction n with
  | zero =>
    intro σ v1 v2 v3 v5 hq
    rw [kw_X9_learnOn_26] at hq
    exact hq.elim
  | succ n ih =>
    intro σ v1 v2 v3 v5 hq H locs hP hS ls hl
    rw [kw_X9_learnOn_26] at hq
    refine lv_iload hx hb dX9_learnOn_26 (lv_at hl 4 rfl) ?_
    refine lv_if_le (tgt := 100) hx hb dX9_learnOn_28 (by decide) (fun hc => ?_) (fun hc => ?_)
    · have hq := hq.1 hc
      exact kb_X9_learnOn_100 hI ha C0 hK σ v1 v2 v3 v5 hq H locs hP hS ls (lv_sub hl [0, 1, 2, 3, 4] rfl)
    · have hq := hq.2 hc
      refine lv_aload_n hx hb dX9_learnOn_31 rfl (lv_at hl 0 rfl) ?_
      refine lv_sipush (v := 221) hx hb dX9_learnOn_32 (by decide) ?_
      refine lv_iconst (v := 2) hx hb dX9_learnOn_35 (by decide) ?_
      refine lv_iload hx hb dX9_learnOn_36 (lv_at hl 4 rfl) ?_
      refine lv_imul hx hb dX9_learnOn_38 ?_
      refine lv_iadd hx hb dX9_learnOn_39 ?_
      refine lv_iconst (v := 2) hx hb dX9_learnOn_40 (by decide) ?_
      refine lv_isub hx hb dX9_learnOn_41 ?_
      obtain ⟨b17, hq⟩ := hq
      refine kr_lald C0 hK hP ha.1 (ha.2 G _) b17 dX9_learnOn_42 ?_
      refine lv_lload_n hx hb dX9_learnOn_43 rfl (lv_at hl 3 rfl) ?_
      refine kr_cle (tgt := 100) C0 dX9_learnOn_44 dX9_learnOn_45 (by decide) (fun hc => ?_) (fun hc => ?_)
      · have hq := hq.1 hc
        exact kb_X9_learnOn_100 hI ha C0 hK σ v1 v2 v3 v5 hq H locs hP hS ls (lv_sub hl [0, 1, 2, 3, 4] rfl)
      · have hq := hq.2 hc
        refine lv_aload_n hx hb dX9_learnOn_48 rfl (lv_at hl 0 rfl) ?_
        refine lv_sipush (v := 221) hx hb dX9_learnOn_49 (by decide) ?_
        refine lv_iconst (v := 2) hx hb dX9_learnOn_52 (by decide) ?_
        refine lv_iload hx hb dX9_learnOn_53 (lv_at hl 4 rfl) ?_
        refine lv_imul hx hb dX9_learnOn_55 ?_
        refine lv_iadd hx hb dX9_learnOn_56 ?_
        refine lv_aload_n hx hb dX9_learnOn_57 rfl (lv_at hl 0 rfl) ?_
        refine lv_sipush (v := 221) hx hb dX9_learnOn_58 (by decide) ?_
        refine lv_iconst (v := 2) hx hb dX9_learnOn_61 (by decide) ?_
        refine lv_iload hx hb dX9_learnOn_62 (lv_at hl 4 rfl) ?_
        refine lv_imul hx hb dX9_learnOn_64 ?_
        refine lv_iadd hx hb dX9_learnOn_65 ?_
        refine lv_iconst (v := 2) hx hb dX9_learnOn_66 (by decide) ?_
        refine lv_isub hx hb dX9_learnOn_67 ?_
        obtain ⟨b18, hq⟩ := hq
        refine kr_lald C0 hK hP ha.1 (ha.2 G _) b18 dX9_learnOn_68 ?_
        obtain ⟨b19, hq⟩ := hq
        refine kr_last C0 hK hI hP hS ha.1 (ha.2 G) b19 dX9_learnOn_69 (fun H locs hP hS => ?_)
        obtain ⟨σ20, eσ20⟩ : ∃ z : ka_S, z = ka_wL σ a ((221 : Int32) + ((2 : Int32) * v5)).toNatClampNeg (σ.2 a (((221 : Int32) + ((2 : Int32) * v5)) - (2 : Int32)).toNatClampNeg) := ⟨_, rfl⟩
        rw [← eσ20] at hP
        have hq := hq σ20 eσ20
        refine lv_aload_n hx hb dX9_learnOn_70 rfl (lv_at hl 0 rfl) ?_
        refine lv_sipush (v := 221) hx hb dX9_learnOn_71 (by decide) ?_
        refine lv_iconst (v := 2) hx hb dX9_learnOn_74 (by decide) ?_
        refine lv_iload hx hb dX9_learnOn_75 (lv_at hl 4 rfl) ?_
        refine lv_imul hx hb dX9_learnOn_77 ?_
        refine lv_iadd hx hb dX9_learnOn_78 ?_
        refine lv_iconst (v := 1) hx hb dX9_learnOn_79 (by decide) ?_
        refine lv_iadd hx hb dX9_learnOn_80 ?_
        refine lv_aload_n hx hb dX9_learnOn_81 rfl (lv_at hl 0 rfl) ?_
        refine lv_sipush (v := 221) hx hb dX9_learnOn_82 (by decide) ?_
        refine lv_iconst (v := 2) hx hb dX9_learnOn_85 (by decide) ?_
        refine lv_iload hx hb dX9_learnOn_86 (lv_at hl 4 rfl) ?_
        refine lv_imul hx hb dX9_learnOn_88 ?_
        refine lv_iadd hx hb dX9_learnOn_89 ?_
        refine lv_iconst (v := 1) hx hb dX9_learnOn_90 (by decide) ?_
        refine lv_isub hx hb dX9_learnOn_91 ?_
        obtain ⟨b21, hq⟩ := hq
        refine kr_lald C0 hK hP ha.1 (ha.2 G _) b21 dX9_learnOn_92 ?_
        obtain ⟨b22, hq⟩ := hq
        refine kr_last C0 hK hI hP hS ha.1 (ha.2 G) b22 dX9_learnOn_93 (fun H locs hP hS => ?_)
        obtain ⟨σ23, eσ23⟩ : ∃ z : ka_S, z = ka_wL σ20 a (((221 : Int32) + ((2 : Int32) * v5)) + (1 : Int32)).toNatClampNeg (σ20.2 a (((221 : Int32) + ((2 : Int32) * v5)) - (1 : Int32)).toNatClampNeg) := ⟨_, rfl⟩
        rw [← eσ23] at hP
        have hq := hq σ23 eσ23
        obtain ⟨x24, ex24⟩ : ∃ y : Int32, y = v5 + (-1 : Int32) := ⟨_, rfl⟩
        have hq := hq x24 ex24
        refine lv_iinc (v := x24) (lv' := [(5, .int x24), (0, .ref (ka_a G a)), (1, .int v1), (2, .int v2), (3, .long v3)]) hx hb dX9_learnOn_94 hl (k := 4) rfl (by rw [ex24]; rfl) (by decide) rfl (fun ls hl => ?_)
        refine lv_goto (tgt := 26) hx hb dX9_learnOn_97 (by decide) ?_
        exact ih σ23 v1 v2 v3 x24 hq H locs hP hS ls (lv_sub hl [1, 2, 3, 4, 0] rfl)
set_option maxHeartbeats 4000000 in
set_option maxRecDepth 100000 in
theorem km_X9_learnOn (l : Launch) {G : ka_G} (hI : ka_I G) {a : ka_K} (ha : ka_L a) {σ : ka_S} {v1 : Int32} {v2 : Int32} {Q : ka_S → Prop} (hq : kw_X9_learnOn σ a v1 v2 Q) : kc_v l yX9_learnOn (kw_ yX9_learnOn cX9_learnOn 6 none) rm_X9_learnOn G [.ref (ka_a G a), .int v1, .int v2] σ Q := by
  refine ka_of "GlossRowsModel" rfl (by decide) (Nat.le_of_ble_eq_true rfl) ?_
  intro p e s m below meth c C0 hK H locs hP hS ls hl
  obtain ⟨hx, hb, -, hml, hown, hts, -⟩ := id C0
  have hl : lv_has ls 6 [(0, .ref (ka_a G a)), (1, .int v1), (2, .int v2)] := hl
  unfold kw_X9_learnOn at hq
  refine lv_aload_n hx hb dX9_learnOn_0 rfl (lv_at hl 0 rfl) ?_
  refine lv_iload_n hx hb dX9_learnOn_1 rfl (lv_at hl 1 rfl) ?_
  refine lv_iload_n hx hb dX9_learnOn_2 rfl (lv_at hl 2 rfl) ?_
  refine kr_Si (As := [.int v1, .int v2]) (rest := [.ref (ka_a G a)]) C0 hK hP hS hl (km_X9_partAt l hI hq) kd_X9_partAt kq_1105 ⟨rfl, rfl, Nat.le_of_ble_eq_true rfl, Nat.le_of_ble_eq_true rfl⟩ rfl (Nat.le_of_ble_eq_true rfl) dX9_learnOn_3 ⟨Nat.zero_le _, Nat.zero_le _⟩ (fun r2 σ1 H locs hq hP hS => ?_)
  obtain ⟨b3, hq⟩ := hq
  refine kr_lald C0 hK hP ha.1 (ha.2 G _) b3 dX9_learnOn_6 ?_
  refine lv_topl (fun x4 ex4 => ?_)
  have hq := hq x4 ex4
  refine lv_lstore_n (lv' := [(3, .long x4), (0, .ref (ka_a G a)), (1, .int v1), (2, .int v2)]) hx hb dX9_learnOn_7 rfl hl (by decide) rfl (fun ls hl => ?_)
  refine lv_aload_n hx hb dX9_learnOn_8 rfl (lv_at hl 1 rfl) ?_
  refine lv_lload_n hx hb dX9_learnOn_9 rfl (lv_at hl 0 rfl) ?_
  refine kr_Si (As := [.ref (ka_a G a), .long x4]) (rest := []) C0 hK hP hS hl (km_X9_entryOf l hI ha hq) kd_X9_entryOf kq_1131 ⟨rfl, rfl, Nat.le_of_ble_eq_true rfl, Nat.le_of_ble_eq_true rfl⟩ rfl (Nat.le_of_ble_eq_true rfl) dX9_learnOn_10 ⟨Nat.zero_le _, Nat.zero_le _⟩ (fun r6 σ5 H locs hq hP hS => ?_)
  refine lv_istore (lv' := [(5, .int r6), (3, .long x4), (0, .ref (ka_a G a)), (1, .int v1), (2, .int v2)]) hx hb dX9_learnOn_13 hl (by decide) rfl (fun ls hl => ?_)
  refine lv_iload hx hb dX9_learnOn_15 (lv_at hl 0 rfl) ?_
  refine lv_if_ge (tgt := 107) hx hb dX9_learnOn_17 (by decide) (fun hc => ?_) (fun hc => ?_)
  · have hq := hq.1 hc
    exact kb_X9_learnOn_107 hI ha C0 hK σ5 v1 v2 x4 r6 hq H locs hP hS ls (lv_sub hl [2, 3, 4, 1, 0] rfl)
  · have hq := hq.2 hc
    refine lv_aload_n hx hb dX9_learnOn_20 rfl (lv_at hl 2 rfl) ?_
    refine lv_iconst (v := 1) hx hb dX9_learnOn_21 (by decide) ?_
    obtain ⟨b7, hq⟩ := hq
    refine kr_lald C0 hK hP ha.1 (ha.2 G _) b7 dX9_learnOn_22 ?_
    refine lv_l2i hx hb dX9_learnOn_23 rfl ?_
    refine lv_topi (fun x8 ex8 => ?_)
    have hq := hq x8 ex8
    refine lv_istore (lv' := [(5, .int x8), (3, .long x4), (0, .ref (ka_a G a)), (1, .int v1), (2, .int v2)]) hx hb dX9_learnOn_24 hl (by decide) rfl (fun ls hl => ?_)
    obtain ⟨n9, hq⟩ := hq
    exact kb_X9_learnOn_26 hI ha C0 hK n9 σ5 v1 v2 x4 x8 hq H locs hP hS ls (lv_sub hl [2, 3, 4, 1, 0] rfl)
/-! GlossRowsModel.canLearn([JII)Z -/
def rm_X9_canLearn : Room := { frames := 2, cells := 0, slots := 0, locals := 42 }
def kw_X9_canLearn (σ : ka_S) (a : ka_K) (v1 : Int32) (v2 : Int32) (Q : Int32 → ka_S → Prop) : Prop := kw_X9_glossAt σ v1 v2 (fun r2 σ1 => 
  vp_in r2 (ka_n a) ∧
  ((σ1.2 a r2.toNatClampNeg) = (0 : Int64) → Q (0 : Int32) σ1) ∧
  (¬ (σ1.2 a r2.toNatClampNeg) = (0 : Int64) → vp_in (1 : Int32) (ka_n a) ∧
    ((σ1.2 a (1 : Int32).toNatClampNeg) < (16 : Int64) → Q (1 : Int32) σ1) ∧
    (¬ (σ1.2 a (1 : Int32).toNatClampNeg) < (16 : Int64) → kw_X9_partAt σ1 v1 v2 (fun r6 σ5 => 
      vp_in r6 (ka_n a) ∧
      kw_X9_entryOf σ5 a (σ5.2 a r6.toNatClampNeg) (fun r9 σ8 => 
      (r9 < (0 : Int32) → Q (0 : Int32) σ8) ∧
      (¬ r9 < (0 : Int32) → Q (1 : Int32) σ8))))))
set_option maxHeartbeats 4000000 in
set_option maxRecDepth 100000 in
theorem km_X9_canLearn (l : Launch) {G : ka_G} (hI : ka_I G) {a : ka_K} (ha : ka_L a) {σ : ka_S} {v1 : Int32} {v2 : Int32} {Q : Int32 → ka_S → Prop} (hq : kw_X9_canLearn σ a v1 v2 Q) : kc_i l yX9_canLearn (kw_ yX9_canLearn cX9_canLearn 3 (some .boolean)) rm_X9_canLearn G [.ref (ka_a G a), .int v1, .int v2] σ Q := by
  refine ka_of "GlossRowsModel" rfl (by decide) (Nat.le_of_ble_eq_true rfl) ?_
  intro p e s m below meth c C0 hK H locs hP hS ls hl
  obtain ⟨hx, hb, -, hml, hown, hts, -⟩ := id C0
  have hl : lv_has ls 3 [(0, .ref (ka_a G a)), (1, .int v1), (2, .int v2)] := hl
  unfold kw_X9_canLearn at hq
  refine lv_aload_n hx hb dX9_canLearn_0 rfl (lv_at hl 0 rfl) ?_
  refine lv_iload_n hx hb dX9_canLearn_1 rfl (lv_at hl 1 rfl) ?_
  refine lv_iload_n hx hb dX9_canLearn_2 rfl (lv_at hl 2 rfl) ?_
  refine kr_Si (As := [.int v1, .int v2]) (rest := [.ref (ka_a G a)]) C0 hK hP hS hl (km_X9_glossAt l hI hq) kd_X9_glossAt kq_1115 ⟨rfl, rfl, Nat.le_of_ble_eq_true rfl, Nat.le_of_ble_eq_true rfl⟩ rfl (Nat.le_of_ble_eq_true rfl) dX9_canLearn_3 ⟨Nat.zero_le _, Nat.zero_le _⟩ (fun r2 σ1 H locs hq hP hS => ?_)
  obtain ⟨b3, hq⟩ := hq
  refine kr_lald C0 hK hP ha.1 (ha.2 G _) b3 dX9_canLearn_6 ?_
  refine lv_lconst (v := 0) hx hb dX9_canLearn_7 (by decide) ?_
  refine kr_ceq (tgt := 40) C0 dX9_canLearn_8 dX9_canLearn_9 (by decide) (fun hc => ?_) (fun hc => ?_)
  · have hq := hq.1 hc
    refine lv_iconst (v := 0) hx hb dX9_canLearn_40 (by decide) ?_
    exact kr_zret C0 hK hP hS rfl hq dX9_canLearn_41
  · have hq := hq.2 hc
    refine lv_aload_n hx hb dX9_canLearn_12 rfl (lv_at hl 0 rfl) ?_
    refine lv_iconst (v := 1) hx hb dX9_canLearn_13 (by decide) ?_
    obtain ⟨b4, hq⟩ := hq
    refine kr_lald C0 hK hP ha.1 (ha.2 G _) b4 dX9_canLearn_14 ?_
    refine lv_ldc2 hx hb hown (hts _ kq_1268) dX9_canLearn_15 ?_
    refine kr_clt (tgt := 36) C0 dX9_canLearn_18 dX9_canLearn_19 (by decide) (fun hc => ?_) (fun hc => ?_)
    · have hq := hq.1 hc
      refine lv_iconst (v := 1) hx hb dX9_canLearn_36 (by decide) ?_
      refine lv_goto (tgt := 41) hx hb dX9_canLearn_37 (by decide) ?_
      exact kr_zret C0 hK hP hS rfl hq dX9_canLearn_41
    · have hq := hq.2 hc
      refine lv_aload_n hx hb dX9_canLearn_22 rfl (lv_at hl 0 rfl) ?_
      refine lv_aload_n hx hb dX9_canLearn_23 rfl (lv_at hl 0 rfl) ?_
      refine lv_iload_n hx hb dX9_canLearn_24 rfl (lv_at hl 1 rfl) ?_
      refine lv_iload_n hx hb dX9_canLearn_25 rfl (lv_at hl 2 rfl) ?_
      refine kr_Si (As := [.int v1, .int v2]) (rest := [.ref (ka_a G a), .ref (ka_a G a)]) C0 hK hP hS hl (km_X9_partAt l hI hq) kd_X9_partAt kq_1105 ⟨rfl, rfl, Nat.le_of_ble_eq_true rfl, Nat.le_of_ble_eq_true rfl⟩ rfl (Nat.le_of_ble_eq_true rfl) dX9_canLearn_26 ⟨Nat.zero_le _, Nat.zero_le _⟩ (fun r6 σ5 H locs hq hP hS => ?_)
      obtain ⟨b7, hq⟩ := hq
      refine kr_lald C0 hK hP ha.1 (ha.2 G _) b7 dX9_canLearn_29 ?_
      refine kr_Si (As := [.ref (ka_a G a), .long (σ5.2 a r6.toNatClampNeg)]) (rest := []) C0 hK hP hS hl (km_X9_entryOf l hI ha hq) kd_X9_entryOf kq_1131 ⟨rfl, rfl, Nat.le_of_ble_eq_true rfl, Nat.le_of_ble_eq_true rfl⟩ rfl (Nat.le_of_ble_eq_true rfl) dX9_canLearn_30 ⟨Nat.zero_le _, Nat.zero_le _⟩ (fun r9 σ8 H locs hq hP hS => ?_)
      refine lv_if_lt (tgt := 40) hx hb dX9_canLearn_33 (by decide) (fun hc => ?_) (fun hc => ?_)
      · have hq := hq.1 hc
        refine lv_iconst (v := 0) hx hb dX9_canLearn_40 (by decide) ?_
        exact kr_zret C0 hK hP hS rfl hq dX9_canLearn_41
      · have hq := hq.2 hc
        refine lv_iconst (v := 1) hx hb dX9_canLearn_36 (by decide) ?_
        refine lv_goto (tgt := 41) hx hb dX9_canLearn_37 (by decide) ?_
        exact kr_zret C0 hK hP hS rfl hq dX9_canLearn_41
/-! GlossRowsModel.fillOn([J)I -/
def rm_X9_fillOn : Room := { frames := 2, cells := 0, slots := 0, locals := 42 }
def kw_X9_fillOn_51 (a : ka_K) (K4 : ka_S → Int32 → Int32 → Prop) (K14 : ka_S → Int32 → Int32 → Int32 → Prop) (Q : Int32 → ka_S → Prop) (σ : ka_S) (v1 : Int32) (v2 : Int32) (v3 : Int32) (t0 : Int32) : Prop := (t0 < (0 : Int32) → ∀ x16 : Int32, x16 = v3 + (1 : Int32) →
    K14 σ v1 v2 x16) ∧
  (¬ t0 < (0 : Int32) → kw_X9_glossAt σ v2 v3 (fun r18 σ17 => 
    vp_in (((221 : Int32) + ((2 : Int32) * t0)) + (1 : Int32)) (ka_n a) ∧
    vp_in r18 (ka_n a) ∧
    ∀ σ21 : ka_S, σ21 = ka_wL σ17 a r18.toNatClampNeg (σ17.2 a (((221 : Int32) + ((2 : Int32) * t0)) + (1 : Int32)).toNatClampNeg) →
    ∀ x22 : Int32, x22 = v1 + (1 : Int32) →
    ∀ x23 : Int32, x23 = v3 + (1 : Int32) →
    K14 σ21 x22 v2 x23))
def kw_X9_fillOn_14 (a : ka_K) (K4 : ka_S → Int32 → Int32 → Prop) (Q : Int32 → ka_S → Prop) : Nat → ka_S → Int32 → Int32 → Int32 → Prop
  | 0, _, _, _, _ => False
  | n + 1, σ, v1, v2, v3 => kw_X9_parts σ a v2 (fun r6 σ5 => 
    (r6 ≤ v3 → ∀ x7 : Int32, x7 = v2 + (1 : Int32) →
      K4 σ5 v1 x7) ∧
    (¬ r6 ≤ v3 → kw_X9_glossAt σ5 v2 v3 (fun r9 σ8 => 
      vp_in r9 (ka_n a) ∧
      ((σ8.2 a r9.toNatClampNeg) = (0 : Int64) → kw_X9_partAt σ8 v2 v3 (fun r12 σ11 => 
        vp_in r12 (ka_n a) ∧
        kw_X9_entryOf σ11 a (σ11.2 a r12.toNatClampNeg) (fun r15 σ14 => 
        kw_X9_fillOn_51 a K4 (kw_X9_fillOn_14 a K4 Q n) Q σ14 v1 v2 v3 r15))) ∧
      (¬ (σ8.2 a r9.toNatClampNeg) = (0 : Int64) → kw_X9_fillOn_51 a K4 (kw_X9_fillOn_14 a K4 Q n) Q σ8 v1 v2 v3 (-9 : Int32)))))
def kw_X9_fillOn_4 (a : ka_K) (Q : Int32 → ka_S → Prop) : Nat → ka_S → Int32 → Int32 → Prop
  | 0, _, _, _ => False
  | n + 1, σ, v1, v2 => kw_X9_many σ a (fun r3 σ2 => 
    (r3 ≤ v2 → Q v1 σ2) ∧
    (¬ r3 ≤ v2 → ∃ n4 : Nat, kw_X9_fillOn_14 a (kw_X9_fillOn_4 a Q n) Q n4 σ2 v1 v2 (0 : Int32)))
def kw_X9_fillOn (σ : ka_S) (a : ka_K) (Q : Int32 → ka_S → Prop) : Prop := ∃ n1 : Nat, kw_X9_fillOn_4 a Q n1 σ (0 : Int32) (0 : Int32)
set_option maxHeartbeats 4000000 in
set_option maxRecDepth 100000 in
theorem kb_X9_fillOn_51 {p : Program} {l : Launch} {e : Env} {s : State} {m : MethodId} {args : Array Value} {below : List Frame} {meth : Method} {c : Code} {G : ka_G} (hI : ka_I G) {a : ka_K} (ha : ka_L a) (C0 : ka_C p s m args meth c cX9_fillOn 5 "GlossRowsModel" (some .int)) (hK : ka_Kn G s) {Q : Int32 → ka_S → Prop} {K4 : ka_S → Int32 → Int32 → Prop} {K14 : ka_S → Int32 → Int32 → Int32 → Prop} (hk4 : ∀ (σ : ka_S) (v1 : Int32) (v2 : Int32), K4 σ v1 v2 → ∀ (H : Heap) (locs : List Loc), ka_P G σ H → va_S (ka_A G) s.heap H locs → ∀ ls : Array Slot, lv_has ls 5 [(0, .ref (ka_a G a)), (1, .int v1), (2, .int v2)] → W p l e rm_X9_fillOn s m args below meth c H locs 0 0 (MQ below (va_Qi Q (ka_B G) (ka_A G)) args s 0 0 (ka_A G)) (F0 m 4 ls [])) (hk14 : ∀ (σ : ka_S) (v1 : Int32) (v2 : Int32) (v3 : Int32), K14 σ v1 v2 v3 → ∀ (H : Heap) (locs : List Loc), ka_P G σ H → va_S (ka_A G) s.heap H locs → ∀ ls : Array Slot, lv_has ls 5 [(0, .ref (ka_a G a)), (1, .int v1), (2, .int v2), (3, .int v3)] → W p l e rm_X9_fillOn s m args below meth c H locs 0 0 (MQ below (va_Qi Q (ka_B G) (ka_A G)) args s 0 0 (ka_A G)) (F0 m 14 ls [])) : ∀ (σ : ka_S) (v1 : Int32) (v2 : Int32) (v3 : Int32) (t0 : Int32), kw_X9_fillOn_51 a K4 K14 Q σ v1 v2 v3 t0 → ∀ (H : Heap) (locs : List Loc), ka_P G σ H → va_S (ka_A G) s.heap H locs → ∀ ls : Array Slot, lv_has ls 5 [(0, .ref (ka_a G a)), (1, .int v1), (2, .int v2), (3, .int v3)] → W p l e rm_X9_fillOn s m args below meth c H locs 0 0 (MQ below (va_Qi Q (ka_B G) (ka_A G)) args s 0 0 (ka_A G)) (F0 m 51 ls [.int t0]) := by
  obtain ⟨hx, hb, -, hml, hown, hts, -⟩ := id C0
  intro σ v1 v2 v3 t0 hq H locs hP hS ls hl
  unfold kw_X9_fillOn_51 at hq
  refine lv_istore (lv' := [(4, .int t0), (0, .ref (ka_a G a)), (1, .int v1), (2, .int v2), (3, .int v3)]) hx hb dX9_fillOn_51 hl (by decide) rfl (fun ls hl => ?_)
  refine lv_iload hx hb dX9_fillOn_53 (lv_at hl 0 rfl) ?_
  refine lv_if_lt (tgt := 80) hx hb dX9_fillOn_55 (by decide) (fun hc => ?_) (fun hc => ?_)
  · have hq := hq.1 hc
    obtain ⟨x16, ex16⟩ : ∃ y : Int32, y = v3 + (1 : Int32) := ⟨_, rfl⟩
    have hq := hq x16 ex16
    refine lv_iinc (v := x16) (lv' := [(3, .int x16), (4, .int t0), (0, .ref (ka_a G a)), (1, .int v1), (2, .int v2)]) hx hb dX9_fillOn_80 hl (k := 4) rfl (by rw [ex16]; rfl) (by decide) rfl (fun ls hl => ?_)
    refine lv_goto (tgt := 14) hx hb dX9_fillOn_83 (by decide) ?_
    exact hk14 σ v1 v2 x16 hq H locs hP hS ls (lv_sub hl [2, 3, 4, 0] rfl)
  · have hq := hq.2 hc
    refine lv_aload_n hx hb dX9_fillOn_58 rfl (lv_at hl 1 rfl) ?_
    refine lv_iload_n hx hb dX9_fillOn_59 rfl (lv_at hl 3 rfl) ?_
    refine lv_iload_n hx hb dX9_fillOn_60 rfl (lv_at hl 4 rfl) ?_
    refine kr_Si (As := [.int v2, .int v3]) (rest := [.ref (ka_a G a)]) C0 hK hP hS hl (km_X9_glossAt l hI hq) kd_X9_glossAt kq_1115 ⟨rfl, rfl, Nat.le_of_ble_eq_true rfl, Nat.le_of_ble_eq_true rfl⟩ rfl (Nat.le_of_ble_eq_true rfl) dX9_fillOn_61 ⟨Nat.zero_le _, Nat.zero_le _⟩ (fun r18 σ17 H locs hq hP hS => ?_)
    refine lv_aload_n hx hb dX9_fillOn_64 rfl (lv_at hl 1 rfl) ?_
    refine lv_sipush (v := 221) hx hb dX9_fillOn_65 (by decide) ?_
    refine lv_iconst (v := 2) hx hb dX9_fillOn_68 (by decide) ?_
    refine lv_iload hx hb dX9_fillOn_69 (lv_at hl 0 rfl) ?_
    refine lv_imul hx hb dX9_fillOn_71 ?_
    refine lv_iadd hx hb dX9_fillOn_72 ?_
    refine lv_iconst (v := 1) hx hb dX9_fillOn_73 (by decide) ?_
    refine lv_iadd hx hb dX9_fillOn_74 ?_
    obtain ⟨b19, hq⟩ := hq
    refine kr_lald C0 hK hP ha.1 (ha.2 G _) b19 dX9_fillOn_75 ?_
    obtain ⟨b20, hq⟩ := hq
    refine kr_last C0 hK hI hP hS ha.1 (ha.2 G) b20 dX9_fillOn_76 (fun H locs hP hS => ?_)
    obtain ⟨σ21, eσ21⟩ : ∃ z : ka_S, z = ka_wL σ17 a r18.toNatClampNeg (σ17.2 a (((221 : Int32) + ((2 : Int32) * t0)) + (1 : Int32)).toNatClampNeg) := ⟨_, rfl⟩
    rw [← eσ21] at hP
    have hq := hq σ21 eσ21
    obtain ⟨x22, ex22⟩ : ∃ y : Int32, y = v1 + (1 : Int32) := ⟨_, rfl⟩
    have hq := hq x22 ex22
    refine lv_iinc (v := x22) (lv' := [(1, .int x22), (4, .int t0), (0, .ref (ka_a G a)), (2, .int v2), (3, .int v3)]) hx hb dX9_fillOn_77 hl (k := 2) rfl (by rw [ex22]; rfl) (by decide) rfl (fun ls hl => ?_)
    obtain ⟨x23, ex23⟩ : ∃ y : Int32, y = v3 + (1 : Int32) := ⟨_, rfl⟩
    have hq := hq x23 ex23
    refine lv_iinc (v := x23) (lv' := [(3, .int x23), (1, .int x22), (4, .int t0), (0, .ref (ka_a G a)), (2, .int v2)]) hx hb dX9_fillOn_80 hl (k := 4) rfl (by rw [ex23]; rfl) (by decide) rfl (fun ls hl => ?_)
    refine lv_goto (tgt := 14) hx hb dX9_fillOn_83 (by decide) ?_
    exact hk14 σ21 x22 v2 x23 hq H locs hP hS ls (lv_sub hl [3, 1, 4, 0] rfl)
set_option maxHeartbeats 4000000 in
set_option maxRecDepth 100000 in
theorem kb_X9_fillOn_14 {p : Program} {l : Launch} {e : Env} {s : State} {m : MethodId} {args : Array Value} {below : List Frame} {meth : Method} {c : Code} {G : ka_G} (hI : ka_I G) {a : ka_K} (ha : ka_L a) (C0 : ka_C p s m args meth c cX9_fillOn 5 "GlossRowsModel" (some .int)) (hK : ka_Kn G s) {Q : Int32 → ka_S → Prop} {K4 : ka_S → Int32 → Int32 → Prop} (hk4 : ∀ (σ : ka_S) (v1 : Int32) (v2 : Int32), K4 σ v1 v2 → ∀ (H : Heap) (locs : List Loc), ka_P G σ H → va_S (ka_A G) s.heap H locs → ∀ ls : Array Slot, lv_has ls 5 [(0, .ref (ka_a G a)), (1, .int v1), (2, .int v2)] → W p l e rm_X9_fillOn s m args below meth c H locs 0 0 (MQ below (va_Qi Q (ka_B G) (ka_A G)) args s 0 0 (ka_A G)) (F0 m 4 ls [])) : ∀ (n : Nat) (σ : ka_S) (v1 : Int32) (v2 : Int32) (v3 : Int32), kw_X9_fillOn_14 a K4 Q n σ v1 v2 v3 → ∀ (H : Heap) (locs : List Loc), ka_P G σ H → va_S (ka_A G) s.heap H locs → ∀ ls : Array Slot, lv_has ls 5 [(0, .ref (ka_a G a)), (1, .int v1), (2, .int v2), (3, .int v3)] → W p l e rm_X9_fillOn s m args below meth c H locs 0 0 (MQ below (va_Qi Q (ka_B G) (ka_A G)) args s 0 0 (ka_A G)) (F0 m 14 ls []) := by
  obtain ⟨hx, hb, -, hml, hown, hts, -⟩ := id C0
  intro n
  induction n with
  | zero =>
    intro σ v1 v2 v3 hq
    rw [kw_X9_fillOn_14] at hq
    exact hq.elim
  | succ n ih =>
    intro σ v1 v2 v3 hq H locs hP hS ls hl
    rw [kw_X9_fillOn_14] at hq
    refine lv_iload_n hx hb dX9_fillOn_14 rfl (lv_at hl 3 rfl) ?_
    refine lv_aload_n hx hb dX9_fillOn_15 rfl (lv_at hl 0 rfl) ?_
    refine lv_iload_n hx hb dX9_fillOn_16 rfl (lv_at hl 2 rfl) ?_
    refine kr_Si (As := [.ref (ka_a G a), .int v2]) (rest := [.int v3]) C0 hK hP hS hl (km_X9_parts l hI ha hq) kd_X9_parts kq_1099 ⟨rfl, rfl, Nat.le_of_ble_eq_true rfl, Nat.le_of_ble_eq_true rfl⟩ rfl (Nat.le_of_ble_eq_true rfl) dX9_fillOn_17 ⟨Nat.zero_le _, Nat.zero_le _⟩ (fun r6 σ5 H locs hq hP hS => ?_)
    refine lv_icmp_ge (tgt := 86) hx hb dX9_fillOn_20 (by decide) (fun hc => ?_) (fun hc => ?_)
    · have hq := hq.1 hc
      obtain ⟨x7, ex7⟩ : ∃ y : Int32, y = v2 + (1 : Int32) := ⟨_, rfl⟩
      have hq := hq x7 ex7
      refine lv_iinc (v := x7) (lv' := [(2, .int x7), (0, .ref (ka_a G a)), (1, .int v1), (3, .int v3)]) hx hb dX9_fillOn_86 hl (k := 2) rfl (by rw [ex7]; rfl) (by decide) rfl (fun ls hl => ?_)
      refine lv_goto (tgt := 4) hx hb dX9_fillOn_89 (by decide) ?_
      exact hk4 σ5 v1 x7 hq H locs hP hS ls (lv_sub hl [1, 2, 0] rfl)
    · have hq := hq.2 hc
      refine lv_aload_n hx hb dX9_fillOn_23 rfl (lv_at hl 0 rfl) ?_
      refine lv_iload_n hx hb dX9_fillOn_24 rfl (lv_at hl 2 rfl) ?_
      refine lv_iload_n hx hb dX9_fillOn_25 rfl (lv_at hl 3 rfl) ?_
      refine kr_Si (As := [.int v2, .int v3]) (rest := [.ref (ka_a G a)]) C0 hK hP hS hl (km_X9_glossAt l hI hq) kd_X9_glossAt kq_1115 ⟨rfl, rfl, Nat.le_of_ble_eq_true rfl, Nat.le_of_ble_eq_true rfl⟩ rfl (Nat.le_of_ble_eq_true rfl) dX9_fillOn_26 ⟨Nat.zero_le _, Nat.zero_le _⟩ (fun r9 σ8 H locs hq hP hS => ?_)
      obtain ⟨b10, hq⟩ := hq
      refine kr_lald C0 hK hP ha.1 (ha.2 G _) b10 dX9_fillOn_29 ?_
      refine lv_lconst (v := 0) hx hb dX9_fillOn_30 (by decide) ?_
      refine kr_cne (tgt := 49) C0 dX9_fillOn_31 dX9_fillOn_32 (by decide) (fun hc => ?_) (fun hc => ?_)
      · have hq := hq.2 hc
        refine lv_bipush (v := -9) hx hb dX9_fillOn_49 (by decide) ?_
        exact kb_X9_fillOn_51 hI ha C0 hK hk4 ih σ8 v1 v2 v3 (-9 : Int32) hq H locs hP hS ls (lv_sub hl [0, 1, 2, 3] rfl)
      · have hq := hq.1 hc
        refine lv_aload_n hx hb dX9_fillOn_35 rfl (lv_at hl 0 rfl) ?_
        refine lv_aload_n hx hb dX9_fillOn_36 rfl (lv_at hl 0 rfl) ?_
        refine lv_iload_n hx hb dX9_fillOn_37 rfl (lv_at hl 2 rfl) ?_
        refine lv_iload_n hx hb dX9_fillOn_38 rfl (lv_at hl 3 rfl) ?_
        refine kr_Si (As := [.int v2, .int v3]) (rest := [.ref (ka_a G a), .ref (ka_a G a)]) C0 hK hP hS hl (km_X9_partAt l hI hq) kd_X9_partAt kq_1105 ⟨rfl, rfl, Nat.le_of_ble_eq_true rfl, Nat.le_of_ble_eq_true rfl⟩ rfl (Nat.le_of_ble_eq_true rfl) dX9_fillOn_39 ⟨Nat.zero_le _, Nat.zero_le _⟩ (fun r12 σ11 H locs hq hP hS => ?_)
        obtain ⟨b13, hq⟩ := hq
        refine kr_lald C0 hK hP ha.1 (ha.2 G _) b13 dX9_fillOn_42 ?_
        refine kr_Si (As := [.ref (ka_a G a), .long (σ11.2 a r12.toNatClampNeg)]) (rest := []) C0 hK hP hS hl (km_X9_entryOf l hI ha hq) kd_X9_entryOf kq_1131 ⟨rfl, rfl, Nat.le_of_ble_eq_true rfl, Nat.le_of_ble_eq_true rfl⟩ rfl (Nat.le_of_ble_eq_true rfl) dX9_fillOn_43 ⟨Nat.zero_le _, Nat.zero_le _⟩ (fun r15 σ14 H locs hq hP hS => ?_)
        refine lv_goto (tgt := 51) hx hb dX9_fillOn_46 (by decide) ?_
        exact kb_X9_fillOn_51 hI ha C0 hK hk4 ih σ14 v1 v2 v3 r15 hq H locs hP hS ls (lv_sub hl [0, 1, 2, 3] rfl)
set_option maxHeartbeats 4000000 in
set_option maxRecDepth 100000 in
theorem kb_X9_fillOn_4 {p : Program} {l : Launch} {e : Env} {s : State} {m : MethodId} {args : Array Value} {below : List Frame} {meth : Method} {c : Code} {G : ka_G} (hI : ka_I G) {a : ka_K} (ha : ka_L a) (C0 : ka_C p s m args meth c cX9_fillOn 5 "GlossRowsModel" (some .int)) (hK : ka_Kn G s) {Q : Int32 → ka_S → Prop} : ∀ (n : Nat) (σ : ka_S) (v1 : Int32) (v2 : Int32), kw_X9_fillOn_4 a Q n σ v1 v2 → ∀ (H : Heap) (locs : List Loc), ka_P G σ H → va_S (ka_A G) s.heap H locs → ∀ ls : Array Slot, lv_has ls 5 [(0, .ref (ka_a G a)), (1, .int v1), (2, .int v2)] → W p l e rm_X9_fillOn s m args below meth c H locs 0 0 (MQ below (va_Qi Q (ka_B G) (ka_A G)) args s 0 0 (ka_A G)) (F0 m 4 ls []) := by
  obtain ⟨hx, hb, -, hml, hown, hts, -⟩ := id C0
  intro n
  induction n with
  | zero =>
    intro σ v1 v2 hq
    rw [kw_X9_fillOn_4] at hq
    exact hq.elim
  | succ n ih =>
    intro σ v1 v2 hq H locs hP hS ls hl
    rw [kw_X9_fillOn_4] at hq
    refine lv_iload_n hx hb dX9_fillOn_4 rfl (lv_at hl 2 rfl) ?_
    refine lv_aload_n hx hb dX9_fillOn_5 rfl (lv_at hl 0 rfl) ?_
    refine kr_Si (As := [.ref (ka_a G a)]) (rest := [.int v2]) C0 hK hP hS hl (km_X9_many l hI ha hq) kd_X9_many kq_1077 ⟨rfl, rfl, Nat.le_of_ble_eq_true rfl, Nat.le_of_ble_eq_true rfl⟩ rfl (Nat.le_of_ble_eq_true rfl) dX9_fillOn_6 ⟨Nat.zero_le _, Nat.zero_le _⟩ (fun r3 σ2 H locs hq hP hS => ?_)
    refine lv_icmp_ge (tgt := 92) hx hb dX9_fillOn_9 (by decide) (fun hc => ?_) (fun hc => ?_)
    · have hq := hq.1 hc
      refine lv_iload_n hx hb dX9_fillOn_92 rfl (lv_at hl 1 rfl) ?_
      exact kr_iret C0 hK hP hS hq dX9_fillOn_93
    · have hq := hq.2 hc
      refine lv_iconst (v := 0) hx hb dX9_fillOn_12 (by decide) ?_
      refine lv_istore_n (lv' := [(3, .int (0 : Int32)), (0, .ref (ka_a G a)), (1, .int v1), (2, .int v2)]) hx hb dX9_fillOn_13 rfl hl (by decide) rfl (fun ls hl => ?_)
      obtain ⟨n4, hq⟩ := hq
      exact kb_X9_fillOn_14 hI ha C0 hK ih n4 σ2 v1 v2 (0 : Int32) hq H locs hP hS ls (lv_sub hl [1, 2, 3, 0] rfl)
set_option maxHeartbeats 4000000 in
set_option maxRecDepth 100000 in
theorem km_X9_fillOn (l : Launch) {G : ka_G} (hI : ka_I G) {a : ka_K} (ha : ka_L a) {σ : ka_S} {Q : Int32 → ka_S → Prop} (hq : kw_X9_fillOn σ a Q) : kc_i l yX9_fillOn (kw_ yX9_fillOn cX9_fillOn 5 (some .int)) rm_X9_fillOn G [.ref (ka_a G a)] σ Q := by
  refine ka_of "GlossRowsModel" rfl (by decide) (Nat.le_of_ble_eq_true rfl) ?_
  intro p e s m below meth c C0 hK H locs hP hS ls hl
  obtain ⟨hx, hb, -, hml, hown, hts, -⟩ := id C0
  have hl : lv_has ls 5 [(0, .ref (ka_a G a))] := hl
  unfold kw_X9_fillOn at hq
  refine lv_iconst (v := 0) hx hb dX9_fillOn_0 (by decide) ?_
  refine lv_istore_n (lv' := [(1, .int (0 : Int32)), (0, .ref (ka_a G a))]) hx hb dX9_fillOn_1 rfl hl (by decide) rfl (fun ls hl => ?_)
  refine lv_iconst (v := 0) hx hb dX9_fillOn_2 (by decide) ?_
  refine lv_istore_n (lv' := [(2, .int (0 : Int32)), (1, .int (0 : Int32)), (0, .ref (ka_a G a))]) hx hb dX9_fillOn_3 rfl hl (by decide) rfl (fun ls hl => ?_)
  obtain ⟨n1, hq⟩ := hq
  exact kb_X9_fillOn_4 hI ha C0 hK n1 σ (0 : Int32) (0 : Int32) hq H locs hP hS ls (lv_sub hl [2, 1, 0] rfl)
/-! GlossRowsModel.gapsOf([JI)I -/
def rm_X9_gapsOf : Room := { frames := 2, cells := 0, slots := 0, locals := 42 }
def kw_X9_gapsOf_4 (a : ka_K) (Q : Int32 → ka_S → Prop) : Nat → ka_S → Int32 → Int32 → Int32 → Prop
  | 0, _, _, _, _ => False
  | n + 1, σ, v1, v2, v3 => kw_X9_parts σ a v1 (fun r3 σ2 => 
    (r3 ≤ v3 → Q v2 σ2) ∧
    (¬ r3 ≤ v3 → kw_X9_glossAt σ2 v1 v3 (fun r5 σ4 => 
      vp_in r5 (ka_n a) ∧
      ((σ4.2 a r5.toNatClampNeg) = (0 : Int64) → ∀ x9 : Int32, x9 = (v2 + (1 : Int32)) → 
        ∀ x10 : Int32, x10 = v3 + (1 : Int32) →
        (kw_X9_gapsOf_4 a Q n) σ4 v1 x9 x10) ∧
      (¬ (σ4.2 a r5.toNatClampNeg) = (0 : Int64) → ∀ x7 : Int32, x7 = (v2 + (0 : Int32)) → 
        ∀ x8 : Int32, x8 = v3 + (1 : Int32) →
        (kw_X9_gapsOf_4 a Q n) σ4 v1 x7 x8))))
def kw_X9_gapsOf (σ : ka_S) (a : ka_K) (v1 : Int32) (Q : Int32 → ka_S → Prop) : Prop := ∃ n1 : Nat, kw_X9_gapsOf_4 a Q n1 σ v1 (0 : Int32) (0 : Int32)
set_option maxHeartbeats 4000000 in
set_option maxRecDepth 100000 in
theorem kb_X9_gapsOf_4 {p : Program} {l : Launch} {e : Env} {s : State} {m : MethodId} {args : Array Value} {below : List Frame} {meth : Method} {c : Code} {G : ka_G} (hI : ka_I G) {a : ka_K} (ha : ka_L a) (C0 : ka_C p s m args meth c cX9_gapsOf 4 "GlossRowsModel" (some .int)) (hK : ka_Kn G s) {Q : Int32 → ka_S → Prop} : ∀ (n : Nat) (σ : ka_S) (v1 : Int32) (v2 : Int32) (v3 : Int32), kw_X9_gapsOf_4 a Q n σ v1 v2 v3 → ∀ (H : Heap) (locs : List Loc), ka_P G σ H → va_S (ka_A G) s.heap H locs → ∀ ls : Array Slot, lv_has ls 4 [(0, .ref (ka_a G a)), (1, .int v1), (2, .int v2), (3, .int v3)] → W p l e rm_X9_gapsOf s m args below meth c H locs 0 0 (MQ below (va_Qi Q (ka_B G) (ka_A G)) args s 0 0 (ka_A G)) (F0 m 4 ls []) := by
  obtain ⟨hx, hb, -, hml, hown, hts, -⟩ := id C0
  intro n
  induction n with
  | zero =>
    intro σ v1 v2 v3 hq
    rw [kw_X9_gapsOf_4] at hq
    exact hq.elim
  | succ n ih =>
    intro σ v1 v2 v3 hq H locs hP hS ls hl
    rw [kw_X9_gapsOf_4] at hq
    refine lv_iload_n hx hb dX9_gapsOf_4 rfl (lv_at hl 3 rfl) ?_
    refine lv_aload_n hx hb dX9_gapsOf_5 rfl (lv_at hl 0 rfl) ?_
    refine lv_iload_n hx hb dX9_gapsOf_6 rfl (lv_at hl 1 rfl) ?_
    refine kr_Si (As := [.ref (ka_a G a), .int v1]) (rest := [.int v3]) C0 hK hP hS hl (km_X9_parts l hI ha hq) kd_X9_parts kq_1099 ⟨rfl, rfl, Nat.le_of_ble_eq_true rfl, Nat.le_of_ble_eq_true rfl⟩ rfl (Nat.le_of_ble_eq_true rfl) dX9_gapsOf_7 ⟨Nat.zero_le _, Nat.zero_le _⟩ (fun r3 σ2 H locs hq hP hS => ?_)
    refine lv_icmp_ge (tgt := 39) hx hb dX9_gapsOf_10 (by decide) (fun hc => ?_) (fun hc => ?_)
    · have hq := hq.1 hc
      refine lv_iload_n hx hb dX9_gapsOf_39 rfl (lv_at hl 2 rfl) ?_
      exact kr_iret C0 hK hP hS hq dX9_gapsOf_40
    · have hq := hq.2 hc
      refine lv_iload_n hx hb dX9_gapsOf_13 rfl (lv_at hl 2 rfl) ?_
      refine lv_aload_n hx hb dX9_gapsOf_14 rfl (lv_at hl 0 rfl) ?_
      refine lv_iload_n hx hb dX9_gapsOf_15 rfl (lv_at hl 1 rfl) ?_
      refine lv_iload_n hx hb dX9_gapsOf_16 rfl (lv_at hl 3 rfl) ?_
      refine kr_Si (As := [.int v1, .int v3]) (rest := [.ref (ka_a G a), .int v2]) C0 hK hP hS hl (km_X9_glossAt l hI hq) kd_X9_glossAt kq_1115 ⟨rfl, rfl, Nat.le_of_ble_eq_true rfl, Nat.le_of_ble_eq_true rfl⟩ rfl (Nat.le_of_ble_eq_true rfl) dX9_gapsOf_17 ⟨Nat.zero_le _, Nat.zero_le _⟩ (fun r5 σ4 H locs hq hP hS => ?_)
      obtain ⟨b6, hq⟩ := hq
      refine kr_lald C0 hK hP ha.1 (ha.2 G _) b6 dX9_gapsOf_20 ?_
      refine lv_lconst (v := 0) hx hb dX9_gapsOf_21 (by decide) ?_
      refine kr_cne (tgt := 30) C0 dX9_gapsOf_22 dX9_gapsOf_23 (by decide) (fun hc => ?_) (fun hc => ?_)
      · have hq := hq.2 hc
        refine lv_iconst (v := 0) hx hb dX9_gapsOf_30 (by decide) ?_
        refine lv_iadd hx hb dX9_gapsOf_31 ?_
        refine lv_topi (fun x7 ex7 => ?_)
        have hq := hq x7 ex7
        refine lv_istore_n (lv' := [(2, .int x7), (0, .ref (ka_a G a)), (1, .int v1), (3, .int v3)]) hx hb dX9_gapsOf_32 rfl hl (by decide) rfl (fun ls hl => ?_)
        obtain ⟨x8, ex8⟩ : ∃ y : Int32, y = v3 + (1 : Int32) := ⟨_, rfl⟩
        have hq := hq x8 ex8
        refine lv_iinc (v := x8) (lv' := [(3, .int x8), (2, .int x7), (0, .ref (ka_a G a)), (1, .int v1)]) hx hb dX9_gapsOf_33 hl (k := 3) rfl (by rw [ex8]; rfl) (by decide) rfl (fun ls hl => ?_)
        refine lv_goto (tgt := 4) hx hb dX9_gapsOf_36 (by decide) ?_
        exact ih σ4 v1 x7 x8 hq H locs hP hS ls (lv_sub hl [2, 3, 1, 0] rfl)
      · have hq := hq.1 hc
        refine lv_iconst (v := 1) hx hb dX9_gapsOf_26 (by decide) ?_
        refine lv_goto (tgt := 31) hx hb dX9_gapsOf_27 (by decide) ?_
        refine lv_iadd hx hb dX9_gapsOf_31 ?_
        refine lv_topi (fun x9 ex9 => ?_)
        have hq := hq x9 ex9
        refine lv_istore_n (lv' := [(2, .int x9), (0, .ref (ka_a G a)), (1, .int v1), (3, .int v3)]) hx hb dX9_gapsOf_32 rfl hl (by decide) rfl (fun ls hl => ?_)
        obtain ⟨x10, ex10⟩ : ∃ y : Int32, y = v3 + (1 : Int32) := ⟨_, rfl⟩
        have hq := hq x10 ex10
        refine lv_iinc (v := x10) (lv' := [(3, .int x10), (2, .int x9), (0, .ref (ka_a G a)), (1, .int v1)]) hx hb dX9_gapsOf_33 hl (k := 3) rfl (by rw [ex10]; rfl) (by decide) rfl (fun ls hl => ?_)
        refine lv_goto (tgt := 4) hx hb dX9_gapsOf_36 (by decide) ?_
        exact ih σ4 v1 x9 x10 hq H locs hP hS ls (lv_sub hl [2, 3, 1, 0] rfl)
set_option maxHeartbeats 4000000 in
set_option maxRecDepth 100000 in
theorem km_X9_gapsOf (l : Launch) {G : ka_G} (hI : ka_I G) {a : ka_K} (ha : ka_L a) {σ : ka_S} {v1 : Int32} {Q : Int32 → ka_S → Prop} (hq : kw_X9_gapsOf σ a v1 Q) : kc_i l yX9_gapsOf (kw_ yX9_gapsOf cX9_gapsOf 4 (some .int)) rm_X9_gapsOf G [.ref (ka_a G a), .int v1] σ Q := by
  refine ka_of "GlossRowsModel" rfl (by decide) (Nat.le_of_ble_eq_true rfl) ?_
  intro p e s m below meth c C0 hK H locs hP hS ls hl
  obtain ⟨hx, hb, -, hml, hown, hts, -⟩ := id C0
  have hl : lv_has ls 4 [(0, .ref (ka_a G a)), (1, .int v1)] := hl
  unfold kw_X9_gapsOf at hq
  refine lv_iconst (v := 0) hx hb dX9_gapsOf_0 (by decide) ?_
  refine lv_istore_n (lv' := [(2, .int (0 : Int32)), (0, .ref (ka_a G a)), (1, .int v1)]) hx hb dX9_gapsOf_1 rfl hl (by decide) rfl (fun ls hl => ?_)
  refine lv_iconst (v := 0) hx hb dX9_gapsOf_2 (by decide) ?_
  refine lv_istore_n (lv' := [(3, .int (0 : Int32)), (2, .int (0 : Int32)), (0, .ref (ka_a G a)), (1, .int v1)]) hx hb dX9_gapsOf_3 rfl hl (by decide) rfl (fun ls hl => ?_)
  obtain ⟨n1, hq⟩ := hq
  exact kb_X9_gapsOf_4 hI ha C0 hK n1 σ v1 (0 : Int32) (0 : Int32) hq H locs hP hS ls (lv_sub hl [2, 3, 1, 0] rfl)
/-! GlossRowsModel.gaps([J)I -/
def rm_X9_gaps : Room := { frames := 3, cells := 0, slots := 0, locals := 65 }
def kw_X9_gaps_4 (a : ka_K) (Q : Int32 → ka_S → Prop) : Nat → ka_S → Int32 → Int32 → Prop
  | 0, _, _, _ => False
  | n + 1, σ, v1, v2 => kw_X9_many σ a (fun r3 σ2 => 
    (r3 ≤ v2 → Q v1 σ2) ∧
    (¬ r3 ≤ v2 → kw_X9_gapsOf σ2 a v2 (fun r5 σ4 => 
      ∀ x6 : Int32, x6 = (v1 + r5) → 
      ∀ x7 : Int32, x7 = v2 + (1 : Int32) →
      (kw_X9_gaps_4 a Q n) σ4 x6 x7)))
def kw_X9_gaps (σ : ka_S) (a : ka_K) (Q : Int32 → ka_S → Prop) : Prop := ∃ n1 : Nat, kw_X9_gaps_4 a Q n1 σ (0 : Int32) (0 : Int32)
set_option maxHeartbeats 4000000 in
set_option maxRecDepth 100000 in
theorem kb_X9_gaps_4 {p : Program} {l : Launch} {e : Env} {s : State} {m : MethodId} {args : Array Value} {below : List Frame} {meth : Method} {c : Code} {G : ka_G} (hI : ka_I G) {a : ka_K} (ha : ka_L a) (C0 : ka_C p s m args meth c cX9_gaps 3 "GlossRowsModel" (some .int)) (hK : ka_Kn G s) {Q : Int32 → ka_S → Prop} : ∀ (n : Nat) (σ : ka_S) (v1 : Int32) (v2 : Int32), kw_X9_gaps_4 a Q n σ v1 v2 → ∀ (H : Heap) (locs : List Loc), ka_P G σ H → va_S (ka_A G) s.heap H locs → ∀ ls : Array Slot, lv_has ls 3 [(0, .ref (ka_a G a)), (1, .int v1), (2, .int v2)] → W p l e rm_X9_gaps s m args below meth c H locs 0 0 (MQ below (va_Qi Q (ka_B G) (ka_A G)) args s 0 0 (ka_A G)) (F0 m 4 ls []) := by
  obtain ⟨hx, hb, -, hml, hown, hts, -⟩ := id C0
  intro n
  induction n with
  | zero =>
    intro σ v1 v2 hq
    rw [kw_X9_gaps_4] at hq
    exact hq.elim
  | succ n ih =>
    intro σ v1 v2 hq H locs hP hS ls hl
    rw [kw_X9_gaps_4] at hq
    refine lv_iload_n hx hb dX9_gaps_4 rfl (lv_at hl 2 rfl) ?_
    refine lv_aload_n hx hb dX9_gaps_5 rfl (lv_at hl 0 rfl) ?_
    refine kr_Si (As := [.ref (ka_a G a)]) (rest := [.int v2]) C0 hK hP hS hl (km_X9_many l hI ha hq) kd_X9_many kq_1077 ⟨rfl, rfl, Nat.le_of_ble_eq_true rfl, Nat.le_of_ble_eq_true rfl⟩ rfl (Nat.le_of_ble_eq_true rfl) dX9_gaps_6 ⟨Nat.zero_le _, Nat.zero_le _⟩ (fun r3 σ2 H locs hq hP hS => ?_)
    refine lv_icmp_ge (tgt := 26) hx hb dX9_gaps_9 (by decide) (fun hc => ?_) (fun hc => ?_)
    · have hq := hq.1 hc
      refine lv_iload_n hx hb dX9_gaps_26 rfl (lv_at hl 1 rfl) ?_
      exact kr_iret C0 hK hP hS hq dX9_gaps_27
    · have hq := hq.2 hc
      refine lv_iload_n hx hb dX9_gaps_12 rfl (lv_at hl 1 rfl) ?_
      refine lv_aload_n hx hb dX9_gaps_13 rfl (lv_at hl 0 rfl) ?_
      refine lv_iload_n hx hb dX9_gaps_14 rfl (lv_at hl 2 rfl) ?_
      refine kr_Si (As := [.ref (ka_a G a), .int v2]) (rest := [.int v1]) C0 hK hP hS hl (km_X9_gapsOf l hI ha hq) kd_X9_gapsOf kq_1125 ⟨rfl, rfl, Nat.le_of_ble_eq_true rfl, Nat.le_of_ble_eq_true rfl⟩ rfl (Nat.le_of_ble_eq_true rfl) dX9_gaps_15 ⟨Nat.zero_le _, Nat.zero_le _⟩ (fun r5 σ4 H locs hq hP hS => ?_)
      refine lv_iadd hx hb dX9_gaps_18 ?_
      refine lv_topi (fun x6 ex6 => ?_)
      have hq := hq x6 ex6
      refine lv_istore_n (lv' := [(1, .int x6), (0, .ref (ka_a G a)), (2, .int v2)]) hx hb dX9_gaps_19 rfl hl (by decide) rfl (fun ls hl => ?_)
      obtain ⟨x7, ex7⟩ : ∃ y : Int32, y = v2 + (1 : Int32) := ⟨_, rfl⟩
      have hq := hq x7 ex7
      refine lv_iinc (v := x7) (lv' := [(2, .int x7), (1, .int x6), (0, .ref (ka_a G a))]) hx hb dX9_gaps_20 hl (k := 2) rfl (by rw [ex7]; rfl) (by decide) rfl (fun ls hl => ?_)
      refine lv_goto (tgt := 4) hx hb dX9_gaps_23 (by decide) ?_
      exact ih σ4 x6 x7 hq H locs hP hS ls (lv_sub hl [2, 1, 0] rfl)
set_option maxHeartbeats 4000000 in
set_option maxRecDepth 100000 in
theorem km_X9_gaps (l : Launch) {G : ka_G} (hI : ka_I G) {a : ka_K} (ha : ka_L a) {σ : ka_S} {Q : Int32 → ka_S → Prop} (hq : kw_X9_gaps σ a Q) : kc_i l yX9_gaps (kw_ yX9_gaps cX9_gaps 3 (some .int)) rm_X9_gaps G [.ref (ka_a G a)] σ Q := by
  refine ka_of "GlossRowsModel" rfl (by decide) (Nat.le_of_ble_eq_true rfl) ?_
  intro p e s m below meth c C0 hK H locs hP hS ls hl
  obtain ⟨hx, hb, -, hml, hown, hts, -⟩ := id C0
  have hl : lv_has ls 3 [(0, .ref (ka_a G a))] := hl
  unfold kw_X9_gaps at hq
  refine lv_iconst (v := 0) hx hb dX9_gaps_0 (by decide) ?_
  refine lv_istore_n (lv' := [(1, .int (0 : Int32)), (0, .ref (ka_a G a))]) hx hb dX9_gaps_1 rfl hl (by decide) rfl (fun ls hl => ?_)
  refine lv_iconst (v := 0) hx hb dX9_gaps_2 (by decide) ?_
  refine lv_istore_n (lv' := [(2, .int (0 : Int32)), (1, .int (0 : Int32)), (0, .ref (ka_a G a))]) hx hb dX9_gaps_3 rfl hl (by decide) rfl (fun ls hl => ?_)
  obtain ⟨n1, hq⟩ := hq
  exact kb_X9_gaps_4 hI ha C0 hK n1 σ (0 : Int32) (0 : Int32) hq H locs hP hS ls (lv_sub hl [2, 1, 0] rfl)
/-! GlossRowsModel.removeOn([JI)V -/
def rm_X9_removeOn : Room := { frames := 1, cells := 0, slots := 0, locals := 25 }
def kw_X9_removeOn (σ : ka_S) (a : ka_K) (v1 : Int32) (Q : ka_S → Prop) : Prop := kw_X9_many σ a (fun r2 σ1 => 
  kw_X9_copy σ1 a a ((5 : Int32) + ((18 : Int32) * (v1 + (1 : Int32)))) ((5 : Int32) + ((18 : Int32) * v1)) ((18 : Int32) * ((r2 - (1 : Int32)) - v1)) (fun σ3 => 
  vp_in (0 : Int32) (ka_n a) ∧
  vp_in (0 : Int32) (ka_n a) ∧
  ∀ σ6 : ka_S, σ6 = ka_wL σ3 a (0 : Int32).toNatClampNeg ((σ3.2 a (0 : Int32).toNatClampNeg) - (1 : Int64)) →
  Q σ6))
set_option maxHeartbeats 4000000 in
set_option maxRecDepth 100000 in
theorem km_X9_removeOn (l : Launch) {G : ka_G} (hI : ka_I G) {a : ka_K} (ha : ka_L a) {σ : ka_S} {v1 : Int32} {Q : ka_S → Prop} (hq : kw_X9_removeOn σ a v1 Q) : kc_v l yX9_removeOn (kw_ yX9_removeOn cX9_removeOn 2 none) rm_X9_removeOn G [.ref (ka_a G a), .int v1] σ Q := by
  refine ka_of "GlossRowsModel" rfl (by decide) (Nat.le_of_ble_eq_true rfl) ?_
  intro p e s m below meth c C0 hK H locs hP hS ls hl
  obtain ⟨hx, hb, -, hml, hown, hts, -⟩ := id C0
  have hl : lv_has ls 2 [(0, .ref (ka_a G a)), (1, .int v1)] := hl
  unfold kw_X9_removeOn at hq
  refine lv_aload_n hx hb dX9_removeOn_0 rfl (lv_at hl 0 rfl) ?_
  refine lv_iconst (v := 5) hx hb dX9_removeOn_1 (by decide) ?_
  refine lv_bipush (v := 18) hx hb dX9_removeOn_2 (by decide) ?_
  refine lv_iload_n hx hb dX9_removeOn_4 rfl (lv_at hl 1 rfl) ?_
  refine lv_iconst (v := 1) hx hb dX9_removeOn_5 (by decide) ?_
  refine lv_iadd hx hb dX9_removeOn_6 ?_
  refine lv_imul hx hb dX9_removeOn_7 ?_
  refine lv_iadd hx hb dX9_removeOn_8 ?_
  refine lv_aload_n hx hb dX9_removeOn_9 rfl (lv_at hl 0 rfl) ?_
  refine lv_iconst (v := 5) hx hb dX9_removeOn_10 (by decide) ?_
  refine lv_bipush (v := 18) hx hb dX9_removeOn_11 (by decide) ?_
  refine lv_iload_n hx hb dX9_removeOn_13 rfl (lv_at hl 1 rfl) ?_
  refine lv_imul hx hb dX9_removeOn_14 ?_
  refine lv_iadd hx hb dX9_removeOn_15 ?_
  refine lv_bipush (v := 18) hx hb dX9_removeOn_16 (by decide) ?_
  refine lv_aload_n hx hb dX9_removeOn_18 rfl (lv_at hl 0 rfl) ?_
  refine kr_Si (As := [.ref (ka_a G a)]) (rest := [.int (18 : Int32), .int ((5 : Int32) + ((18 : Int32) * v1)), .ref (ka_a G a), .int ((5 : Int32) + ((18 : Int32) * (v1 + (1 : Int32)))), .ref (ka_a G a)]) C0 hK hP hS hl (km_X9_many l hI ha hq) kd_X9_many kq_1077 ⟨rfl, rfl, Nat.le_of_ble_eq_true rfl, Nat.le_of_ble_eq_true rfl⟩ rfl (Nat.le_of_ble_eq_true rfl) dX9_removeOn_19 ⟨Nat.zero_le _, Nat.zero_le _⟩ (fun r2 σ1 H locs hq hP hS => ?_)
  refine lv_iconst (v := 1) hx hb dX9_removeOn_22 (by decide) ?_
  refine lv_isub hx hb dX9_removeOn_23 ?_
  refine lv_iload_n hx hb dX9_removeOn_24 rfl (lv_at hl 1 rfl) ?_
  refine lv_isub hx hb dX9_removeOn_25 ?_
  refine lv_imul hx hb dX9_removeOn_26 ?_
  refine kr_Sv (As := [.ref (ka_a G a), .int ((5 : Int32) + ((18 : Int32) * (v1 + (1 : Int32)))), .ref (ka_a G a), .int ((5 : Int32) + ((18 : Int32) * v1)), .int ((18 : Int32) * ((r2 - (1 : Int32)) - v1))]) (rest := []) C0 hK hP hS hl (km_X9_copy l hI ha ha hq) kd_X9_copy kq_1080 ⟨rfl, rfl, Nat.le_of_ble_eq_true rfl, Nat.le_of_ble_eq_true rfl⟩ rfl (Nat.le_of_ble_eq_true rfl) dX9_removeOn_27 ⟨Nat.zero_le _, Nat.zero_le _⟩ (fun σ3 H locs hq hP hS => ?_)
  refine lv_aload_n hx hb dX9_removeOn_30 rfl (lv_at hl 0 rfl) ?_
  refine lv_iconst (v := 0) hx hb dX9_removeOn_31 (by decide) ?_
  refine lv_dup2_11 hx hb dX9_removeOn_32 rfl rfl ?_
  obtain ⟨b4, hq⟩ := hq
  refine kr_lald C0 hK hP ha.1 (ha.2 G _) b4 dX9_removeOn_33 ?_
  refine lv_lconst (v := 1) hx hb dX9_removeOn_34 (by decide) ?_
  refine lv_lsub hx hb dX9_removeOn_35 ?_
  obtain ⟨b5, hq⟩ := hq
  refine kr_last C0 hK hI hP hS ha.1 (ha.2 G) b5 dX9_removeOn_36 (fun H locs hP hS => ?_)
  obtain ⟨σ6, eσ6⟩ : ∃ z : ka_S, z = ka_wL σ3 a (0 : Int32).toNatClampNeg ((σ3.2 a (0 : Int32).toNatClampNeg) - (1 : Int64)) := ⟨_, rfl⟩
  rw [← eσ6] at hP
  have hq := hq σ6 eσ6
  exact kr_vret C0 hK hP hS hq dX9_removeOn_37
/-! GlossRowsModel.joinOn([JI)V -/
def rm_X9_joinOn : Room := { frames := 1, cells := 0, slots := 0, locals := 21 }
def kw_X9_joinOn_10 (a : ka_K) (Q : ka_S → Prop) : Nat → ka_S → Int32 → Int32 → Prop
  | 0, _, _, _ => False
  | n + 1, σ, v1, v2 => ((6 : Int32) ≤ v2 → Q σ) ∧
    (¬ (6 : Int32) ≤ v2 → kw_X9_cell σ v1 v2 (fun r7 σ6 => 
      vp_in r7 (ka_n a) ∧
      ∀ σ9 : ka_S, σ9 = ka_wL σ6 a r7.toNatClampNeg (0 : Int64) →
      ∀ x10 : Int32, x10 = v2 + (1 : Int32) →
      (kw_X9_joinOn_10 a Q n) σ9 v1 x10))
def kw_X9_joinOn (σ : ka_S) (a : ka_K) (v1 : Int32) (Q : ka_S → Prop) : Prop := kw_X9_cell σ v1 (1 : Int32) (fun r2 σ1 => 
  vp_in r2 (ka_n a) ∧
  ∀ σ4 : ka_S, σ4 = ka_wL σ1 a r2.toNatClampNeg (0 : Int64) →
  ∃ n5 : Nat, kw_X9_joinOn_10 a Q n5 σ4 v1 (2 : Int32))
set_option maxHeartbeats 4000000 in
set_option maxRecDepth 100000 in
theorem kb_X9_joinOn_10 {p : Program} {l : Launch} {e : Env} {s : State} {m : MethodId} {args : Array Value} {below : List Frame} {meth : Method} {c : Code} {G : ka_G} (hI : ka_I G) {a : ka_K} (ha : ka_L a) (C0 : ka_C p s m args meth c cX9_joinOn 3 "GlossRowsModel" none) (hK : ka_Kn G s) {Q : ka_S → Prop} : ∀ (n : Nat) (σ : ka_S) (v1 : Int32) (v2 : Int32), kw_X9_joinOn_10 a Q n σ v1 v2 → ∀ (H : Heap) (locs : List Loc), ka_P G σ H → va_S (ka_A G) s.heap H locs → ∀ ls : Array Slot, lv_has ls 3 [(0, .ref (ka_a G a)), (1, .int v1), (2, .int v2)] → W p l e rm_X9_joinOn s m args below meth c H locs 0 0 (MQ below (va_Qv Q (ka_B G) (ka_A G)) args s 0 0 (ka_A G)) (F0 m 10 ls []) := by
  obtain ⟨hx, hb, -, hml, hown, hts, -⟩ := id C0
  intro n
  induction n with
  | zero =>
    intro σ v1 v2 hq
    rw [kw_X9_joinOn_10] at hq
    exact hq.elim
  | succ n ih =>
    intro σ v1 v2 hq H locs hP hS ls hl
    rw [kw_X9_joinOn_10] at hq
    refine lv_iload_n hx hb dX9_joinOn_10 rfl (lv_at hl 2 rfl) ?_
    refine lv_bipush (v := 6) hx hb dX9_joinOn_11 (by decide) ?_
    refine lv_icmp_ge (tgt := 30) hx hb dX9_joinOn_13 (by decide) (fun hc => ?_) (fun hc => ?_)
    · have hq := hq.1 hc
      exact kr_vret C0 hK hP hS hq dX9_joinOn_30
    · have hq := hq.2 hc
      refine lv_aload_n hx hb dX9_joinOn_16 rfl (lv_at hl 0 rfl) ?_
      refine lv_iload_n hx hb dX9_joinOn_17 rfl (lv_at hl 1 rfl) ?_
      refine lv_iload_n hx hb dX9_joinOn_18 rfl (lv_at hl 2 rfl) ?_
      refine kr_Si (As := [.int v1, .int v2]) (rest := [.ref (ka_a G a)]) C0 hK hP hS hl (km_X9_cell l hI hq) kd_X9_cell kq_1102 ⟨rfl, rfl, Nat.le_of_ble_eq_true rfl, Nat.le_of_ble_eq_true rfl⟩ rfl (Nat.le_of_ble_eq_true rfl) dX9_joinOn_19 ⟨Nat.zero_le _, Nat.zero_le _⟩ (fun r7 σ6 H locs hq hP hS => ?_)
      refine lv_lconst (v := 0) hx hb dX9_joinOn_22 (by decide) ?_
      obtain ⟨b8, hq⟩ := hq
      refine kr_last C0 hK hI hP hS ha.1 (ha.2 G) b8 dX9_joinOn_23 (fun H locs hP hS => ?_)
      obtain ⟨σ9, eσ9⟩ : ∃ z : ka_S, z = ka_wL σ6 a r7.toNatClampNeg (0 : Int64) := ⟨_, rfl⟩
      rw [← eσ9] at hP
      have hq := hq σ9 eσ9
      obtain ⟨x10, ex10⟩ : ∃ y : Int32, y = v2 + (1 : Int32) := ⟨_, rfl⟩
      have hq := hq x10 ex10
      refine lv_iinc (v := x10) (lv' := [(2, .int x10), (0, .ref (ka_a G a)), (1, .int v1)]) hx hb dX9_joinOn_24 hl (k := 2) rfl (by rw [ex10]; rfl) (by decide) rfl (fun ls hl => ?_)
      refine lv_goto (tgt := 10) hx hb dX9_joinOn_27 (by decide) ?_
      exact ih σ9 v1 x10 hq H locs hP hS ls (lv_sub hl [1, 2, 0] rfl)
set_option maxHeartbeats 4000000 in
set_option maxRecDepth 100000 in
theorem km_X9_joinOn (l : Launch) {G : ka_G} (hI : ka_I G) {a : ka_K} (ha : ka_L a) {σ : ka_S} {v1 : Int32} {Q : ka_S → Prop} (hq : kw_X9_joinOn σ a v1 Q) : kc_v l yX9_joinOn (kw_ yX9_joinOn cX9_joinOn 3 none) rm_X9_joinOn G [.ref (ka_a G a), .int v1] σ Q := by
  refine ka_of "GlossRowsModel" rfl (by decide) (Nat.le_of_ble_eq_true rfl) ?_
  intro p e s m below meth c C0 hK H locs hP hS ls hl
  obtain ⟨hx, hb, -, hml, hown, hts, -⟩ := id C0
  have hl : lv_has ls 3 [(0, .ref (ka_a G a)), (1, .int v1)] := hl
  unfold kw_X9_joinOn at hq
  refine lv_aload_n hx hb dX9_joinOn_0 rfl (lv_at hl 0 rfl) ?_
  refine lv_iload_n hx hb dX9_joinOn_1 rfl (lv_at hl 1 rfl) ?_
  refine lv_iconst (v := 1) hx hb dX9_joinOn_2 (by decide) ?_
  refine kr_Si (As := [.int v1, .int (1 : Int32)]) (rest := [.ref (ka_a G a)]) C0 hK hP hS hl (km_X9_cell l hI hq) kd_X9_cell kq_1102 ⟨rfl, rfl, Nat.le_of_ble_eq_true rfl, Nat.le_of_ble_eq_true rfl⟩ rfl (Nat.le_of_ble_eq_true rfl) dX9_joinOn_3 ⟨Nat.zero_le _, Nat.zero_le _⟩ (fun r2 σ1 H locs hq hP hS => ?_)
  refine lv_lconst (v := 0) hx hb dX9_joinOn_6 (by decide) ?_
  obtain ⟨b3, hq⟩ := hq
  refine kr_last C0 hK hI hP hS ha.1 (ha.2 G) b3 dX9_joinOn_7 (fun H locs hP hS => ?_)
  obtain ⟨σ4, eσ4⟩ : ∃ z : ka_S, z = ka_wL σ1 a r2.toNatClampNeg (0 : Int64) := ⟨_, rfl⟩
  rw [← eσ4] at hP
  have hq := hq σ4 eσ4
  refine lv_iconst (v := 2) hx hb dX9_joinOn_8 (by decide) ?_
  refine lv_istore_n (lv' := [(2, .int (2 : Int32)), (0, .ref (ka_a G a)), (1, .int v1)]) hx hb dX9_joinOn_9 rfl hl (by decide) rfl (fun ls hl => ?_)
  obtain ⟨n5, hq⟩ := hq
  exact kb_X9_joinOn_10 hI ha C0 hK n5 σ4 v1 (2 : Int32) hq H locs hP hS ls (lv_sub hl [1, 2, 0] rfl)
/-! GlossRowsModel.insertOn([JI)V -/
def rm_X9_insertOn : Room := { frames := 1, cells := 0, slots := 0, locals := 25 }
def kw_X9_insertOn_7 (a : ka_K) (Q : ka_S → Prop) : Nat → ka_S → Int32 → Int32 → Prop
  | 0, _, _, _ => False
  | n + 1, σ, v2, v3 => (v3 < v2 → kw_X9_copy σ (36, 0, 0) a (0 : Int32) ((5 : Int32) + ((18 : Int32) * v2)) ((18 : Int32) * (σ.1 (25, 0, 0) 3)) (fun σ5 => 
      vp_in (0 : Int32) (ka_n a) ∧
      vp_in (0 : Int32) (ka_n a) ∧
      ∀ σ8 : ka_S, σ8 = ka_wL σ5 a (0 : Int32).toNatClampNeg ((σ5.2 a (0 : Int32).toNatClampNeg) + ((σ5.1 (25, 0, 0) 3).toInt64)) →
      Q σ8)) ∧
    (¬ v3 < v2 → kw_X9_copy σ a a ((5 : Int32) + ((18 : Int32) * v3)) ((5 : Int32) + ((18 : Int32) * (v3 + (σ.1 (25, 0, 0) 3)))) (18 : Int32) (fun σ9 => 
      ∀ x10 : Int32, x10 = v3 + (-1 : Int32) →
      (kw_X9_insertOn_7 a Q n) σ9 v2 x10))
def kw_X9_insertOn (σ : ka_S) (a : ka_K) (v2 : Int32) (Q : ka_S → Prop) : Prop := kw_X9_many σ a (fun r2 σ1 => 
  ∀ x3 : Int32, x3 = (r2 - (1 : Int32)) → 
  ∃ n4 : Nat, kw_X9_insertOn_7 a Q n4 σ1 v2 x3)
set_option maxHeartbeats 4000000 in
set_option maxRecDepth 100000 in
theorem kb_X9_insertOn_7 {p : Program} {l : Launch} {e : Env} {s : State} {m : MethodId} {args : Array Value} {below : List Frame} {meth : Method} {c : Code} {G : ka_G} (hI : ka_I G) {a : ka_K} (ha : ka_L a) (C0 : ka_C p s m args meth c cX9_insertOn 4 "GlossRowsModel" none) (hK : ka_Kn G s) {Q : ka_S → Prop} : ∀ (n : Nat) (σ : ka_S) (v2 : Int32) (v3 : Int32), kw_X9_insertOn_7 a Q n σ v2 v3 → ∀ (H : Heap) (locs : List Loc), ka_P G σ H → va_S (ka_A G) s.heap H locs → ∀ ls : Array Slot, lv_has ls 4 [(0, .ref (ka_a G (25, 0, 0))), (1, .ref (ka_a G a)), (2, .int v2), (3, .int v3)] → W p l e rm_X9_insertOn s m args below meth c H locs 0 0 (MQ below (va_Qv Q (ka_B G) (ka_A G)) args s 0 0 (ka_A G)) (F0 m 7 ls []) := by
  obtain ⟨hx, hb, -, hml, hown, hts, -⟩ := id C0
  intro n
  induction n with
  | zero =>
    intro σ v2 v3 hq
    rw [kw_X9_insertOn_7] at hq
    exact hq.elim
  | succ n ih =>
    intro σ v2 v3 hq H locs hP hS ls hl
    rw [kw_X9_insertOn_7] at hq
    refine lv_iload_n hx hb dX9_insertOn_7 rfl (lv_at hl 3 rfl) ?_
    refine lv_iload_n hx hb dX9_insertOn_8 rfl (lv_at hl 2 rfl) ?_
    refine lv_icmp_lt (tgt := 42) hx hb dX9_insertOn_9 (by decide) (fun hc => ?_) (fun hc => ?_)
    · have hq := hq.1 hc
      refine lv_aload_n hx hb dX9_insertOn_42 rfl (lv_at hl 0 rfl) ?_
      refine kg_X9_read C0 hK hP (kv_s (by decide) (by decide)) kq_959 dX9_insertOn_43 ?_
      refine lv_iconst (v := 0) hx hb dX9_insertOn_46 (by decide) ?_
      refine lv_aload_n hx hb dX9_insertOn_47 rfl (lv_at hl 1 rfl) ?_
      refine lv_iconst (v := 5) hx hb dX9_insertOn_48 (by decide) ?_
      refine lv_bipush (v := 18) hx hb dX9_insertOn_49 (by decide) ?_
      refine lv_iload_n hx hb dX9_insertOn_51 rfl (lv_at hl 2 rfl) ?_
      refine lv_imul hx hb dX9_insertOn_52 ?_
      refine lv_iadd hx hb dX9_insertOn_53 ?_
      refine lv_bipush (v := 18) hx hb dX9_insertOn_54 (by decide) ?_
      refine lv_aload_n hx hb dX9_insertOn_56 rfl (lv_at hl 0 rfl) ?_
      refine kg_X9_readMany C0 hK hP (kv_s (by decide) (by decide)) kq_958 dX9_insertOn_57 ?_
      refine lv_imul hx hb dX9_insertOn_60 ?_
      refine kr_Sv (As := [.ref (ka_a G (36, 0, 0)), .int (0 : Int32), .ref (ka_a G a), .int ((5 : Int32) + ((18 : Int32) * v2)), .int ((18 : Int32) * (σ.1 (25, 0, 0) 3))]) (rest := []) C0 hK hP hS hl (km_X9_copy l hI kl_36 ha hq) kd_X9_copy kq_1080 ⟨rfl, rfl, Nat.le_of_ble_eq_true rfl, Nat.le_of_ble_eq_true rfl⟩ rfl (Nat.le_of_ble_eq_true rfl) dX9_insertOn_61 ⟨Nat.zero_le _, Nat.zero_le _⟩ (fun σ5 H locs hq hP hS => ?_)
      refine lv_aload_n hx hb dX9_insertOn_64 rfl (lv_at hl 1 rfl) ?_
      refine lv_iconst (v := 0) hx hb dX9_insertOn_65 (by decide) ?_
      refine lv_dup2_11 hx hb dX9_insertOn_66 rfl rfl ?_
      obtain ⟨b6, hq⟩ := hq
      refine kr_lald C0 hK hP ha.1 (ha.2 G _) b6 dX9_insertOn_67 ?_
      refine lv_aload_n hx hb dX9_insertOn_68 rfl (lv_at hl 0 rfl) ?_
      refine kg_X9_readMany C0 hK hP (kv_s (by decide) (by decide)) kq_958 dX9_insertOn_69 ?_
      refine lv_i2l hx hb dX9_insertOn_72 rfl ?_
      refine lv_ladd hx hb dX9_insertOn_73 ?_
      obtain ⟨b7, hq⟩ := hq
      refine kr_last C0 hK hI hP hS ha.1 (ha.2 G) b7 dX9_insertOn_74 (fun H locs hP hS => ?_)
      obtain ⟨σ8, eσ8⟩ : ∃ z : ka_S, z = ka_wL σ5 a (0 : Int32).toNatClampNeg ((σ5.2 a (0 : Int32).toNatClampNeg) + ((σ5.1 (25, 0, 0) 3).toInt64)) := ⟨_, rfl⟩
      rw [← eσ8] at hP
      have hq := hq σ8 eσ8
      exact kr_vret C0 hK hP hS hq dX9_insertOn_75
    · have hq := hq.2 hc
      refine lv_aload_n hx hb dX9_insertOn_12 rfl (lv_at hl 1 rfl) ?_
      refine lv_iconst (v := 5) hx hb dX9_insertOn_13 (by decide) ?_
      refine lv_bipush (v := 18) hx hb dX9_insertOn_14 (by decide) ?_
      refine lv_iload_n hx hb dX9_insertOn_16 rfl (lv_at hl 3 rfl) ?_
      refine lv_imul hx hb dX9_insertOn_17 ?_
      refine lv_iadd hx hb dX9_insertOn_18 ?_
      refine lv_aload_n hx hb dX9_insertOn_19 rfl (lv_at hl 1 rfl) ?_
      refine lv_iconst (v := 5) hx hb dX9_insertOn_20 (by decide) ?_
      refine lv_bipush (v := 18) hx hb dX9_insertOn_21 (by decide) ?_
      refine lv_iload_n hx hb dX9_insertOn_23 rfl (lv_at hl 3 rfl) ?_
      refine lv_aload_n hx hb dX9_insertOn_24 rfl (lv_at hl 0 rfl) ?_
      refine kg_X9_readMany C0 hK hP (kv_s (by decide) (by decide)) kq_958 dX9_insertOn_25 ?_
      refine lv_iadd hx hb dX9_insertOn_28 ?_
      refine lv_imul hx hb dX9_insertOn_29 ?_
      refine lv_iadd hx hb dX9_insertOn_30 ?_
      refine lv_bipush (v := 18) hx hb dX9_insertOn_31 (by decide) ?_
      refine kr_Sv (As := [.ref (ka_a G a), .int ((5 : Int32) + ((18 : Int32) * v3)), .ref (ka_a G a), .int ((5 : Int32) + ((18 : Int32) * (v3 + (σ.1 (25, 0, 0) 3)))), .int (18 : Int32)]) (rest := []) C0 hK hP hS hl (km_X9_copy l hI ha ha hq) kd_X9_copy kq_1080 ⟨rfl, rfl, Nat.le_of_ble_eq_true rfl, Nat.le_of_ble_eq_true rfl⟩ rfl (Nat.le_of_ble_eq_true rfl) dX9_insertOn_33 ⟨Nat.zero_le _, Nat.zero_le _⟩ (fun σ9 H locs hq hP hS => ?_)
      obtain ⟨x10, ex10⟩ : ∃ y : Int32, y = v3 + (-1 : Int32) := ⟨_, rfl⟩
      have hq := hq x10 ex10
      refine lv_iinc (v := x10) (lv' := [(3, .int x10), (0, .ref (ka_a G (25, 0, 0))), (1, .ref (ka_a G a)), (2, .int v2)]) hx hb dX9_insertOn_36 hl (k := 3) rfl (by rw [ex10]; rfl) (by decide) rfl (fun ls hl => ?_)
      refine lv_goto (tgt := 7) hx hb dX9_insertOn_39 (by decide) ?_
      exact ih σ9 v2 x10 hq H locs hP hS ls (lv_sub hl [1, 2, 3, 0] rfl)
set_option maxHeartbeats 4000000 in
set_option maxRecDepth 100000 in
theorem km_X9_insertOn (l : Launch) {G : ka_G} (hI : ka_I G) {a : ka_K} (ha : ka_L a) {σ : ka_S} {v2 : Int32} {Q : ka_S → Prop} (hq : kw_X9_insertOn σ a v2 Q) : kc_v l yX9_insertOn (kw_ yX9_insertOn cX9_insertOn 4 none) rm_X9_insertOn G [.ref (ka_a G (25, 0, 0)), .ref (ka_a G a), .int v2] σ Q := by
  refine ka_of "GlossRowsModel" rfl (by decide) (Nat.le_of_ble_eq_true rfl) ?_
  intro p e s m below meth c C0 hK H locs hP hS ls hl
  obtain ⟨hx, hb, -, hml, hown, hts, -⟩ := id C0
  have hl : lv_has ls 4 [(0, .ref (ka_a G (25, 0, 0))), (1, .ref (ka_a G a)), (2, .int v2)] := hl
  unfold kw_X9_insertOn at hq
  refine lv_aload_n hx hb dX9_insertOn_0 rfl (lv_at hl 1 rfl) ?_
  refine kr_Si (As := [.ref (ka_a G a)]) (rest := []) C0 hK hP hS hl (km_X9_many l hI ha hq) kd_X9_many kq_1077 ⟨rfl, rfl, Nat.le_of_ble_eq_true rfl, Nat.le_of_ble_eq_true rfl⟩ rfl (Nat.le_of_ble_eq_true rfl) dX9_insertOn_1 ⟨Nat.zero_le _, Nat.zero_le _⟩ (fun r2 σ1 H locs hq hP hS => ?_)
  refine lv_iconst (v := 1) hx hb dX9_insertOn_4 (by decide) ?_
  refine lv_isub hx hb dX9_insertOn_5 ?_
  refine lv_topi (fun x3 ex3 => ?_)
  have hq := hq x3 ex3
  refine lv_istore_n (lv' := [(3, .int x3), (0, .ref (ka_a G (25, 0, 0))), (1, .ref (ka_a G a)), (2, .int v2)]) hx hb dX9_insertOn_6 rfl hl (by decide) rfl (fun ls hl => ?_)
  obtain ⟨n4, hq⟩ := hq
  exact kb_X9_insertOn_7 hI ha C0 hK n4 σ1 v2 x3 hq H locs hP hS ls (lv_sub hl [1, 2, 3, 0] rfl)
/-! GlossRowsModel.append(I)I -/
def rm_X9_append : Room := { frames := 1, cells := 0, slots := 0, locals := 25 }
def kw_X9_append_31 (Q : Int32 → ka_S → Prop) (σ : ka_S) (v1 : Int32) (t1 : Int32) : Prop := kw_X9_refused σ t1 (fun r4 σ3 => 
  (r4 = (0 : Int32) → vp_in (σ3.1 (25, 0, 0) 2) 60 ∧
    ∀ σ6 : ka_S, σ6 = ka_wI σ3 (26, 0, 0) (σ3.1 (25, 0, 0) 2).toNatClampNeg v1 →
    ∀ σ7 : ka_S, σ7 = ka_wI σ6 (25, 0, 0) 2 ((σ6.1 (25, 0, 0) 2) + (1 : Int32)) →
    Q (σ7.1 (25, 0, 0) 2) σ7) ∧
  (¬ r4 = (0 : Int32) → Q (0 : Int32) σ3))
def kw_X9_append (σ : ka_S) (v1 : Int32) (Q : Int32 → ka_S → Prop) : Prop := kw_X9_in σ v1.toInt64 (0 : Int64) (255 : Int64) (fun r2 σ1 => 
  (r2 = (0 : Int32) → kw_X9_append_31 Q σ1 v1 (1 : Int32)) ∧
  (¬ r2 = (0 : Int32) → ((σ1.1 (25, 0, 0) 2) = (60 : Int32) → kw_X9_append_31 Q σ1 v1 (2 : Int32)) ∧
    (¬ (σ1.1 (25, 0, 0) 2) = (60 : Int32) → kw_X9_append_31 Q σ1 v1 (0 : Int32))))
set_option maxHeartbeats 4000000 in
set_option maxRecDepth 100000 in
theorem kb_X9_append_31 {p : Program} {l : Launch} {e : Env} {s : State} {m : MethodId} {args : Array Value} {below : List Frame} {meth : Method} {c : Code} {G : ka_G} (hI : ka_I G) (C0 : ka_C p s m args meth c cX9_append 2 "GlossRowsModel" (some .int)) (hK : ka_Kn G s) {Q : Int32 → ka_S → Prop} : ∀ (σ : ka_S) (v1 : Int32) (t1 : Int32), kw_X9_append_31 Q σ v1 t1 → ∀ (H : Heap) (locs : List Loc), ka_P G σ H → va_S (ka_A G) s.heap H locs → ∀ ls : Array Slot, lv_has ls 2 [(0, .ref (ka_a G (25, 0, 0))), (1, .int v1)] → W p l e rm_X9_append s m args below meth c H locs 0 0 (MQ below (va_Qi Q (ka_B G) (ka_A G)) args s 0 0 (ka_A G)) (F0 m 31 ls [.int t1, .ref (ka_a G (25, 0, 0))]) := by
  obtain ⟨hx, hb, -, hml, hown, hts, -⟩ := id C0
  intro σ v1 t1 hq H locs hP hS ls hl
  unfold kw_X9_append_31 at hq
  refine kr_Vi (k := (25, 0, 0)) (As := [.int t1]) (rest := []) C0 hK hP hS hl (km_X9_refused l hI hq) kd_X9_refused kq_1034 (kv_s (by decide) (by decide)) rfl rfl rfl ⟨rfl, rfl, Nat.le_of_ble_eq_true rfl, Nat.le_of_ble_eq_true rfl⟩ rfl (Nat.le_of_ble_eq_true rfl) dX9_append_31 ⟨Nat.zero_le _, Nat.zero_le _⟩ (fun r4 σ3 H locs hq hP hS => ?_)
  refine lv_if_eq (tgt := 39) hx hb dX9_append_34 (by decide) (fun hc => ?_) (fun hc => ?_)
  · have hq := hq.1 hc
    refine lv_aload_n hx hb dX9_append_39 rfl (lv_at hl 0 rfl) ?_
    refine kg_X9_script C0 hK hP (kv_s (by decide) (by decide)) kq_956 dX9_append_40 ?_
    refine lv_aload_n hx hb dX9_append_43 rfl (lv_at hl 0 rfl) ?_
    refine kg_X9_scriptSize C0 hK hP (kv_s (by decide) (by decide)) kq_957 dX9_append_44 ?_
    refine lv_iload_n hx hb dX9_append_47 rfl (lv_at hl 1 rfl) ?_
    obtain ⟨b5, hq⟩ := hq
    refine kr_iast C0 hK hI hP hS (kv_s (by decide) (by decide)) (fun _ => rfl) b5 dX9_append_48 (fun H locs hP hS => ?_)
    obtain ⟨σ6, eσ6⟩ : ∃ z : ka_S, z = ka_wI σ3 (26, 0, 0) (σ3.1 (25, 0, 0) 2).toNatClampNeg v1 := ⟨_, rfl⟩
    rw [← eσ6] at hP
    have hq := hq σ6 eσ6
    refine lv_aload_n hx hb dX9_append_49 rfl (lv_at hl 0 rfl) ?_
    refine lv_dup hx hb dX9_append_50 rfl ?_
    refine kg_X9_scriptSize C0 hK hP (kv_s (by decide) (by decide)) kq_957 dX9_append_51 ?_
    refine lv_iconst (v := 1) hx hb dX9_append_54 (by decide) ?_
    refine lv_iadd hx hb dX9_append_55 ?_
    refine kp_X9_scriptSize C0 hK hI hP hS (kv_s (by decide) (by decide)) kq_957 dX9_append_56 (fun H locs hP hS => ?_)
    obtain ⟨σ7, eσ7⟩ : ∃ z : ka_S, z = ka_wI σ6 (25, 0, 0) 2 ((σ6.1 (25, 0, 0) 2) + (1 : Int32)) := ⟨_, rfl⟩
    rw [← eσ7] at hP
    have hq := hq σ7 eσ7
    refine lv_aload_n hx hb dX9_append_59 rfl (lv_at hl 0 rfl) ?_
    refine kg_X9_scriptSize C0 hK hP (kv_s (by decide) (by decide)) kq_957 dX9_append_60 ?_
    exact kr_iret C0 hK hP hS hq dX9_append_63
  · have hq := hq.2 hc
    refine lv_iconst (v := 0) hx hb dX9_append_37 (by decide) ?_
    exact kr_iret C0 hK hP hS hq dX9_append_38
set_option maxHeartbeats 4000000 in
set_option maxRecDepth 100000 in
theorem km_X9_append (l : Launch) {G : ka_G} (hI : ka_I G) {σ : ka_S} {v1 : Int32} {Q : Int32 → ka_S → Prop} (hq : kw_X9_append σ v1 Q) : kc_i l yX9_append (kw_ yX9_append cX9_append 2 (some .int)) rm_X9_append G [.ref (ka_a G (25, 0, 0)), .int v1] σ Q := by
  refine ka_of "GlossRowsModel" rfl (by decide) (Nat.le_of_ble_eq_true rfl) ?_
  intro p e s m below meth c C0 hK H locs hP hS ls hl
  obtain ⟨hx, hb, -, hml, hown, hts, -⟩ := id C0
  have hl : lv_has ls 2 [(0, .ref (ka_a G (25, 0, 0))), (1, .int v1)] := hl
  unfold kw_X9_append at hq
  refine lv_aload_n hx hb dX9_append_0 rfl (lv_at hl 0 rfl) ?_
  refine lv_iload_n hx hb dX9_append_1 rfl (lv_at hl 1 rfl) ?_
  refine lv_i2l hx hb dX9_append_2 rfl ?_
  refine lv_lconst (v := 0) hx hb dX9_append_3 (by decide) ?_
  refine lv_ldc2 hx hb hown (hts _ kq_1030) dX9_append_4 ?_
  refine kr_Si (As := [.long v1.toInt64, .long (0 : Int64), .long (255 : Int64)]) (rest := [.ref (ka_a G (25, 0, 0))]) C0 hK hP hS hl (km_X9_in l hI hq) kd_X9_in kq_1031 ⟨rfl, rfl, Nat.le_of_ble_eq_true rfl, Nat.le_of_ble_eq_true rfl⟩ rfl (Nat.le_of_ble_eq_true rfl) dX9_append_7 ⟨Nat.zero_le _, Nat.zero_le _⟩ (fun r2 σ1 H locs hq hP hS => ?_)
  refine lv_if_ne (tgt := 17) hx hb dX9_append_10 (by decide) (fun hc => ?_) (fun hc => ?_)
  · have hq := hq.2 hc
    refine lv_aload_n hx hb dX9_append_17 rfl (lv_at hl 0 rfl) ?_
    refine kg_X9_scriptSize C0 hK hP (kv_s (by decide) (by decide)) kq_957 dX9_append_18 ?_
    refine lv_bipush (v := 60) hx hb dX9_append_21 (by decide) ?_
    refine lv_icmp_ne (tgt := 30) hx hb dX9_append_23 (by decide) (fun hc => ?_) (fun hc => ?_)
    · have hq := hq.2 hc
      refine lv_iconst (v := 0) hx hb dX9_append_30 (by decide) ?_
      exact kb_X9_append_31 hI C0 hK σ1 v1 (0 : Int32) hq H locs hP hS ls (lv_sub hl [0, 1] rfl)
    · have hq := hq.1 hc
      refine lv_iconst (v := 2) hx hb dX9_append_26 (by decide) ?_
      refine lv_goto (tgt := 31) hx hb dX9_append_27 (by decide) ?_
      exact kb_X9_append_31 hI C0 hK σ1 v1 (2 : Int32) hq H locs hP hS ls (lv_sub hl [0, 1] rfl)
  · have hq := hq.1 hc
    refine lv_iconst (v := 1) hx hb dX9_append_13 (by decide) ?_
    refine lv_goto (tgt := 31) hx hb dX9_append_14 (by decide) ?_
    exact kb_X9_append_31 hI C0 hK σ1 v1 (1 : Int32) hq H locs hP hS ls (lv_sub hl [0, 1] rfl)
/-! GlossRowsModel.clearText()I -/
def rm_X9_clearText : Room := { frames := 0, cells := 0, slots := 0, locals := 0 }
def kw_X9_clearText (σ : ka_S) (Q : Int32 → ka_S → Prop) : Prop := ∀ σ1 : ka_S, σ1 = ka_wI σ (25, 0, 0) 0 (0 : Int32) →
  ∀ x2 : Int32, x2 = (σ1.1 (25, 0, 0) 2) → 
  ∀ σ3 : ka_S, σ3 = ka_wI σ1 (25, 0, 0) 2 (0 : Int32) →
  Q x2 σ3
set_option maxHeartbeats 4000000 in
set_option maxRecDepth 100000 in
theorem km_X9_clearText (l : Launch) {G : ka_G} (hI : ka_I G) {σ : ka_S} {Q : Int32 → ka_S → Prop} (hq : kw_X9_clearText σ Q) : kc_i l yX9_clearText (kw_ yX9_clearText cX9_clearText 2 (some .int)) rm_X9_clearText G [.ref (ka_a G (25, 0, 0))] σ Q := by
  refine ka_of "GlossRowsModel" rfl (by decide) (Nat.le_of_ble_eq_true rfl) ?_
  intro p e s m below meth c C0 hK H locs hP hS ls hl
  obtain ⟨hx, hb, -, hml, hown, hts, -⟩ := id C0
  have hl : lv_has ls 2 [(0, .ref (ka_a G (25, 0, 0)))] := hl
  unfold kw_X9_clearText at hq
  refine lv_aload_n hx hb dX9_clearText_0 rfl (lv_at hl 0 rfl) ?_
  refine lv_iconst (v := 0) hx hb dX9_clearText_1 (by decide) ?_
  refine kp_X9_refusal C0 hK hI hP hS (kv_s (by decide) (by decide)) kq_955 dX9_clearText_2 (fun H locs hP hS => ?_)
  obtain ⟨σ1, eσ1⟩ : ∃ z : ka_S, z = ka_wI σ (25, 0, 0) 0 (0 : Int32) := ⟨_, rfl⟩
  rw [← eσ1] at hP
  have hq := hq σ1 eσ1
  refine lv_aload_n hx hb dX9_clearText_5 rfl (lv_at hl 0 rfl) ?_
  refine kg_X9_scriptSize C0 hK hP (kv_s (by decide) (by decide)) kq_957 dX9_clearText_6 ?_
  refine lv_topi (fun x2 ex2 => ?_)
  have hq := hq x2 ex2
  refine lv_istore_n (lv' := [(1, .int x2), (0, .ref (ka_a G (25, 0, 0)))]) hx hb dX9_clearText_9 rfl hl (by decide) rfl (fun ls hl => ?_)
  refine lv_aload_n hx hb dX9_clearText_10 rfl (lv_at hl 1 rfl) ?_
  refine lv_iconst (v := 0) hx hb dX9_clearText_11 (by decide) ?_
  refine kp_X9_scriptSize C0 hK hI hP hS (kv_s (by decide) (by decide)) kq_957 dX9_clearText_12 (fun H locs hP hS => ?_)
  obtain ⟨σ3, eσ3⟩ : ∃ z : ka_S, z = ka_wI σ1 (25, 0, 0) 2 (0 : Int32) := ⟨_, rfl⟩
  rw [← eσ3] at hP
  have hq := hq σ3 eσ3
  refine lv_iload_n hx hb dX9_clearText_15 rfl (lv_at hl 0 rfl) ?_
  exact kr_iret C0 hK hP hS hq dX9_clearText_16
/-! GlossRowsModel.isLetter(I)Z -/
def rm_X9_isLetter : Room := { frames := 1, cells := 0, slots := 0, locals := 25 }
def kw_X9_isLetter (σ : ka_S) (v0 : Int32) (Q : Int32 → ka_S → Prop) : Prop := kw_X9_in σ v0.toInt64 (97 : Int64) (122 : Int64) (fun r2 σ1 => 
  (r2 = 0 ∨ r2 = 1) ∧
  Q r2 σ1)
set_option maxHeartbeats 4000000 in
set_option maxRecDepth 100000 in
theorem km_X9_isLetter (l : Launch) {G : ka_G} (hI : ka_I G) {σ : ka_S} {v0 : Int32} {Q : Int32 → ka_S → Prop} (hq : kw_X9_isLetter σ v0 Q) : kc_i l yX9_isLetter (kw_ yX9_isLetter cX9_isLetter 1 (some .boolean)) rm_X9_isLetter G [.int v0] σ Q := by
  refine ka_of "GlossRowsModel" rfl (by decide) (Nat.le_of_ble_eq_true rfl) ?_
  intro p e s m below meth c C0 hK H locs hP hS ls hl
  obtain ⟨hx, hb, -, hml, hown, hts, -⟩ := id C0
  have hl : lv_has ls 1 [(0, .int v0)] := hl
  unfold kw_X9_isLetter at hq
  refine lv_iload_n hx hb dX9_isLetter_0 rfl (lv_at hl 0 rfl) ?_
  refine lv_i2l hx hb dX9_isLetter_1 rfl ?_
  refine lv_ldc2 hx hb hown (hts _ kq_1060) dX9_isLetter_2 ?_
  refine lv_ldc2 hx hb hown (hts _ kq_1061) dX9_isLetter_5 ?_
  refine kr_Si (As := [.long v0.toInt64, .long (97 : Int64), .long (122 : Int64)]) (rest := []) C0 hK hP hS hl (km_X9_in l hI hq) kd_X9_in kq_1031 ⟨rfl, rfl, Nat.le_of_ble_eq_true rfl, Nat.le_of_ble_eq_true rfl⟩ rfl (Nat.le_of_ble_eq_true rfl) dX9_isLetter_8 ⟨Nat.zero_le _, Nat.zero_le _⟩ (fun r2 σ1 H locs hq hP hS => ?_)
  obtain ⟨hz, hq⟩ := hq
  exact kr_zret C0 hK hP hS (kz_n hz) hq dX9_isLetter_11
/-! GlossRowsModel.isGlossLetter(I)Z -/
def rm_X9_isGlossLetter : Room := { frames := 2, cells := 0, slots := 0, locals := 45 }
def kw_X9_isGlossLetter (σ : ka_S) (v0 : Int32) (Q : Int32 → ka_S → Prop) : Prop := kw_X9_isLetter σ v0 (fun r2 σ1 => 
  (r2 = (0 : Int32) → (v0 = (46 : Int32) → Q (1 : Int32) σ1) ∧
    (¬ v0 = (46 : Int32) → Q (0 : Int32) σ1)) ∧
  (¬ r2 = (0 : Int32) → Q (1 : Int32) σ1))
set_option maxHeartbeats 4000000 in
set_option maxRecDepth 100000 in
theorem km_X9_isGlossLetter (l : Launch) {G : ka_G} (hI : ka_I G) {σ : ka_S} {v0 : Int32} {Q : Int32 → ka_S → Prop} (hq : kw_X9_isGlossLetter σ v0 Q) : kc_i l yX9_isGlossLetter (kw_ yX9_isGlossLetter cX9_isGlossLetter 1 (some .boolean)) rm_X9_isGlossLetter G [.int v0] σ Q := by
  refine ka_of "GlossRowsModel" rfl (by decide) (Nat.le_of_ble_eq_true rfl) ?_
  intro p e s m below meth c C0 hK H locs hP hS ls hl
  obtain ⟨hx, hb, -, hml, hown, hts, -⟩ := id C0
  have hl : lv_has ls 1 [(0, .int v0)] := hl
  unfold kw_X9_isGlossLetter at hq
  refine lv_iload_n hx hb dX9_isGlossLetter_0 rfl (lv_at hl 0 rfl) ?_
  refine kr_Si (As := [.int v0]) (rest := []) C0 hK hP hS hl (km_X9_isLetter l hI hq) kd_X9_isLetter kq_1057 ⟨rfl, rfl, Nat.le_of_ble_eq_true rfl, Nat.le_of_ble_eq_true rfl⟩ rfl (Nat.le_of_ble_eq_true rfl) dX9_isGlossLetter_1 ⟨Nat.zero_le _, Nat.zero_le _⟩ (fun r2 σ1 H locs hq hP hS => ?_)
  refine lv_if_ne (tgt := 13) hx hb dX9_isGlossLetter_4 (by decide) (fun hc => ?_) (fun hc => ?_)
  · have hq := hq.2 hc
    refine lv_iconst (v := 1) hx hb dX9_isGlossLetter_13 (by decide) ?_
    refine lv_goto (tgt := 18) hx hb dX9_isGlossLetter_14 (by decide) ?_
    exact kr_zret C0 hK hP hS rfl hq dX9_isGlossLetter_18
  · have hq := hq.1 hc
    refine lv_iload_n hx hb dX9_isGlossLetter_7 rfl (lv_at hl 0 rfl) ?_
    refine lv_bipush (v := 46) hx hb dX9_isGlossLetter_8 (by decide) ?_
    refine lv_icmp_ne (tgt := 17) hx hb dX9_isGlossLetter_10 (by decide) (fun hc => ?_) (fun hc => ?_)
    · have hq := hq.2 hc
      refine lv_iconst (v := 0) hx hb dX9_isGlossLetter_17 (by decide) ?_
      exact kr_zret C0 hK hP hS rfl hq dX9_isGlossLetter_18
    · have hq := hq.1 hc
      refine lv_iconst (v := 1) hx hb dX9_isGlossLetter_13 (by decide) ?_
      refine lv_goto (tgt := 18) hx hb dX9_isGlossLetter_14 (by decide) ?_
      exact kr_zret C0 hK hP hS rfl hq dX9_isGlossLetter_18
/-! GlossRowsModel.isMark(I)Z -/
def rm_X9_isMark : Room := { frames := 0, cells := 0, slots := 0, locals := 0 }
def kw_X9_isMark (σ : ka_S) (v0 : Int32) (Q : Int32 → ka_S → Prop) : Prop := (v0 = (45 : Int32) → Q (1 : Int32) σ) ∧
  (¬ v0 = (45 : Int32) → (v0 = (61 : Int32) → Q (1 : Int32) σ) ∧
    (¬ v0 = (61 : Int32) → Q (0 : Int32) σ))
set_option maxHeartbeats 4000000 in
set_option maxRecDepth 100000 in
theorem km_X9_isMark (l : Launch) {G : ka_G} (hI : ka_I G) {σ : ka_S} {v0 : Int32} {Q : Int32 → ka_S → Prop} (hq : kw_X9_isMark σ v0 Q) : kc_i l yX9_isMark (kw_ yX9_isMark cX9_isMark 1 (some .boolean)) rm_X9_isMark G [.int v0] σ Q := by
  refine ka_of "GlossRowsModel" rfl (by decide) (Nat.le_of_ble_eq_true rfl) ?_
  intro p e s m below meth c C0 hK H locs hP hS ls hl
  obtain ⟨hx, hb, -, hml, hown, hts, -⟩ := id C0
  have hl : lv_has ls 1 [(0, .int v0)] := hl
  unfold kw_X9_isMark at hq
  refine lv_iload_n hx hb dX9_isMark_0 rfl (lv_at hl 0 rfl) ?_
  refine lv_bipush (v := 45) hx hb dX9_isMark_1 (by decide) ?_
  refine lv_icmp_eq (tgt := 12) hx hb dX9_isMark_3 (by decide) (fun hc => ?_) (fun hc => ?_)
  · have hq := hq.1 hc
    refine lv_iconst (v := 1) hx hb dX9_isMark_12 (by decide) ?_
    refine lv_goto (tgt := 17) hx hb dX9_isMark_13 (by decide) ?_
    exact kr_zret C0 hK hP hS rfl hq dX9_isMark_17
  · have hq := hq.2 hc
    refine lv_iload_n hx hb dX9_isMark_6 rfl (lv_at hl 0 rfl) ?_
    refine lv_bipush (v := 61) hx hb dX9_isMark_7 (by decide) ?_
    refine lv_icmp_ne (tgt := 16) hx hb dX9_isMark_9 (by decide) (fun hc => ?_) (fun hc => ?_)
    · have hq := hq.2 hc
      refine lv_iconst (v := 0) hx hb dX9_isMark_16 (by decide) ?_
      exact kr_zret C0 hK hP hS rfl hq dX9_isMark_17
    · have hq := hq.1 hc
      refine lv_iconst (v := 1) hx hb dX9_isMark_12 (by decide) ?_
      refine lv_goto (tgt := 17) hx hb dX9_isMark_13 (by decide) ?_
      exact kr_zret C0 hK hP hS rfl hq dX9_isMark_17
/-! GlossRowsModel.begin()V -/
def rm_X9_begin : Room := { frames := 0, cells := 0, slots := 0, locals := 0 }
def kw_X9_begin_2 (Q : ka_S → Prop) : Nat → ka_S → Int32 → Prop
  | 0, _, _ => False
  | n + 1, σ, v1 => ((18 : Int32) ≤ v1 → vp_in ((18 : Int32) * (σ.1 (25, 0, 0) 3)) 216 ∧
      ∀ σ3 : ka_S, σ3 = ka_wL σ (36, 0, 0) ((18 : Int32) * (σ.1 (25, 0, 0) 3)).toNatClampNeg (1 : Int64) →
      ∀ σ4 : ka_S, σ4 = ka_wI σ3 (25, 0, 0) 3 ((σ3.1 (25, 0, 0) 3) + (1 : Int32)) →
      Q σ4) ∧
    (¬ (18 : Int32) ≤ v1 → vp_in (((18 : Int32) * (σ.1 (25, 0, 0) 3)) + v1) 216 ∧
      ∀ σ6 : ka_S, σ6 = ka_wL σ (36, 0, 0) (((18 : Int32) * (σ.1 (25, 0, 0) 3)) + v1).toNatClampNeg (0 : Int64) →
      ∀ x7 : Int32, x7 = v1 + (1 : Int32) →
      (kw_X9_begin_2 Q n) σ6 x7)
def kw_X9_begin (σ : ka_S) (Q : ka_S → Prop) : Prop := ∃ n1 : Nat, kw_X9_begin_2 Q n1 σ (0 : Int32)
set_option maxHeartbeats 4000000 in
set_option maxRecDepth 100000 in
theorem kb_X9_begin_2 {p : Program} {l : Launch} {e : Env} {s : State} {m : MethodId} {args : Array Value} {below : List Frame} {meth : Method} {c : Code} {G : ka_G} (hI : ka_I G) (C0 : ka_C p s m args meth c cX9_begin 2 "GlossRowsModel" none) (hK : ka_Kn G s) {Q : ka_S → Prop} : ∀ (n : Nat) (σ : ka_S) (v1 : Int32), kw_X9_begin_2 Q n σ v1 → ∀ (H : Heap) (locs : List Loc), ka_P G σ H → va_S (ka_A G) s.heap H locs → ∀ ls : Array Slot, lv_has ls 2 [(0, .ref (ka_a G (25, 0, 0))), (1, .int v1)] → W p l e rm_X9_begin s m args below meth c H locs 0 0 (MQ below (va_Qv Q (ka_B G) (ka_A G)) args s 0 0 (ka_A G)) (F0 m 2 ls []) := by
  obtain ⟨hx, hb, -, hml, hown, hts, -⟩ := id C0
  intro n
  induction n with
  | zero =>
    intro σ v1 hq
    rw [kw_X9_begin_2] at hq
    exact hq.elim
  | succ n ih =>
    intro σ v1 hq H locs hP hS ls hl
    rw [kw_X9_begin_2] at hq
    refine lv_iload_n hx hb dX9_begin_2 rfl (lv_at hl 1 rfl) ?_
    refine lv_bipush (v := 18) hx hb dX9_begin_3 (by decide) ?_
    refine lv_icmp_ge (tgt := 29) hx hb dX9_begin_5 (by decide) (fun hc => ?_) (fun hc => ?_)
    · have hq := hq.1 hc
      refine lv_aload_n hx hb dX9_begin_29 rfl (lv_at hl 0 rfl) ?_
      refine kg_X9_read C0 hK hP (kv_s (by decide) (by decide)) kq_959 dX9_begin_30 ?_
      refine lv_bipush (v := 18) hx hb dX9_begin_33 (by decide) ?_
      refine lv_aload_n hx hb dX9_begin_35 rfl (lv_at hl 0 rfl) ?_
      refine kg_X9_readMany C0 hK hP (kv_s (by decide) (by decide)) kq_958 dX9_begin_36 ?_
      refine lv_imul hx hb dX9_begin_39 ?_
      refine lv_lconst (v := 1) hx hb dX9_begin_40 (by decide) ?_
      obtain ⟨b2, hq⟩ := hq
      refine kr_last C0 hK hI hP hS (kv_s (by decide) (by decide)) (fun _ => rfl) b2 dX9_begin_41 (fun H locs hP hS => ?_)
      obtain ⟨σ3, eσ3⟩ : ∃ z : ka_S, z = ka_wL σ (36, 0, 0) ((18 : Int32) * (σ.1 (25, 0, 0) 3)).toNatClampNeg (1 : Int64) := ⟨_, rfl⟩
      rw [← eσ3] at hP
      have hq := hq σ3 eσ3
      refine lv_aload_n hx hb dX9_begin_42 rfl (lv_at hl 0 rfl) ?_
      refine lv_dup hx hb dX9_begin_43 rfl ?_
      refine kg_X9_readMany C0 hK hP (kv_s (by decide) (by decide)) kq_958 dX9_begin_44 ?_
      refine lv_iconst (v := 1) hx hb dX9_begin_47 (by decide) ?_
      refine lv_iadd hx hb dX9_begin_48 ?_
      refine kp_X9_readMany C0 hK hI hP hS (kv_s (by decide) (by decide)) kq_958 dX9_begin_49 (fun H locs hP hS => ?_)
      obtain ⟨σ4, eσ4⟩ : ∃ z : ka_S, z = ka_wI σ3 (25, 0, 0) 3 ((σ3.1 (25, 0, 0) 3) + (1 : Int32)) := ⟨_, rfl⟩
      rw [← eσ4] at hP
      have hq := hq σ4 eσ4
      exact kr_vret C0 hK hP hS hq dX9_begin_52
    · have hq := hq.2 hc
      refine lv_aload_n hx hb dX9_begin_8 rfl (lv_at hl 0 rfl) ?_
      refine kg_X9_read C0 hK hP (kv_s (by decide) (by decide)) kq_959 dX9_begin_9 ?_
      refine lv_bipush (v := 18) hx hb dX9_begin_12 (by decide) ?_
      refine lv_aload_n hx hb dX9_begin_14 rfl (lv_at hl 0 rfl) ?_
      refine kg_X9_readMany C0 hK hP (kv_s (by decide) (by decide)) kq_958 dX9_begin_15 ?_
      refine lv_imul hx hb dX9_begin_18 ?_
      refine lv_iload_n hx hb dX9_begin_19 rfl (lv_at hl 1 rfl) ?_
      refine lv_iadd hx hb dX9_begin_20 ?_
      refine lv_lconst (v := 0) hx hb dX9_begin_21 (by decide) ?_
      obtain ⟨b5, hq⟩ := hq
      refine kr_last C0 hK hI hP hS (kv_s (by decide) (by decide)) (fun _ => rfl) b5 dX9_begin_22 (fun H locs hP hS => ?_)
      obtain ⟨σ6, eσ6⟩ : ∃ z : ka_S, z = ka_wL σ (36, 0, 0) (((18 : Int32) * (σ.1 (25, 0, 0) 3)) + v1).toNatClampNeg (0 : Int64) := ⟨_, rfl⟩
      rw [← eσ6] at hP
      have hq := hq σ6 eσ6
      obtain ⟨x7, ex7⟩ : ∃ y : Int32, y = v1 + (1 : Int32) := ⟨_, rfl⟩
      have hq := hq x7 ex7
      refine lv_iinc (v := x7) (lv' := [(1, .int x7), (0, .ref (ka_a G (25, 0, 0)))]) hx hb dX9_begin_23 hl (k := 1) rfl (by rw [ex7]; rfl) (by decide) rfl (fun ls hl => ?_)
      refine lv_goto (tgt := 2) hx hb dX9_begin_26 (by decide) ?_
      exact ih σ6 x7 hq H locs hP hS ls (lv_sub hl [1, 0] rfl)
set_option maxHeartbeats 4000000 in
set_option maxRecDepth 100000 in
theorem km_X9_begin (l : Launch) {G : ka_G} (hI : ka_I G) {σ : ka_S} {Q : ka_S → Prop} (hq : kw_X9_begin σ Q) : kc_v l yX9_begin (kw_ yX9_begin cX9_begin 2 none) rm_X9_begin G [.ref (ka_a G (25, 0, 0))] σ Q := by
  refine ka_of "GlossRowsModel" rfl (by decide) (Nat.le_of_ble_eq_true rfl) ?_
  intro p e s m below meth c C0 hK H locs hP hS ls hl
  obtain ⟨hx, hb, -, hml, hown, hts, -⟩ := id C0
  have hl : lv_has ls 2 [(0, .ref (ka_a G (25, 0, 0)))] := hl
  unfold kw_X9_begin at hq
  refine lv_iconst (v := 0) hx hb dX9_begin_0 (by decide) ?_
  refine lv_istore_n (lv' := [(1, .int (0 : Int32)), (0, .ref (ka_a G (25, 0, 0)))]) hx hb dX9_begin_1 rfl hl (by decide) rfl (fun ls hl => ?_)
  obtain ⟨n1, hq⟩ := hq
  exact kb_X9_begin_2 hI C0 hK n1 σ (0 : Int32) hq H locs hP hS ls (lv_sub hl [1, 0] rfl)
/-! GlossRowsModel.readText()I -/
def rm_X9_readText : Room := { frames := 3, cells := 0, slots := 0, locals := 65 }
def kw_X9_readText_135 (K18 : ka_S → Int32 → Int32 → Int32 → Int32 → Prop) (Q : Int32 → ka_S → Prop) (σ : ka_S) (v1 : Int32) (v2 : Int32) (v3 : Int32) (v4 : Int32) (v5 : Int32) (t0 : Int32) (t1 : Int32) : Prop := ∀ x24 : Int32, x24 = (t0 + t1) → 
  vp_in x24 216 ∧
  kw_X9_withLetter σ (σ.2 (36, 0, 0) x24.toNatClampNeg) v3 v5 (fun r27 σ26 => 
  vp_in x24 216 ∧
  ∀ σ29 : ka_S, σ29 = ka_wL σ26 (36, 0, 0) x24.toNatClampNeg r27 →
  ∀ x30 : Int32, x30 = v3 + (1 : Int32) →
  ∀ x31 : Int32, x31 = v4 + (1 : Int32) →
  K18 σ29 v1 v2 x30 x31)
def kw_X9_readText_117 (K18 : ka_S → Int32 → Int32 → Int32 → Int32 → Prop) (Q : Int32 → ka_S → Prop) (σ : ka_S) (v1 : Int32) (v2 : Int32) (v3 : Int32) (v4 : Int32) (v5 : Int32) (v6 : Int32) : Prop := (v1 = (0 : Int32) → kw_X9_readText_135 K18 Q σ v1 v2 v3 v4 v5 ((v6 + (6 : Int32)) + ((3 : Int32) * v2)) (1 : Int32)) ∧
  (¬ v1 = (0 : Int32) → kw_X9_readText_135 K18 Q σ v1 v2 v3 v4 v5 ((v6 + (6 : Int32)) + ((3 : Int32) * v2)) (2 : Int32))
def kw_X9_readText_287 (K18 : ka_S → Int32 → Int32 → Int32 → Int32 → Prop) (Q : Int32 → ka_S → Prop) (σ : ka_S) (v4 : Int32) (v5 : Int32) (v8 : Int32) : Prop := (v8 = (0 : Int32) → Q v4 σ) ∧
  (¬ v8 = (0 : Int32) → (v5 = (32 : Int32) → ((12 : Int32) ≤ (σ.1 (25, 0, 0) 3) → Q v4 σ) ∧
      (¬ (12 : Int32) ≤ (σ.1 (25, 0, 0) 3) → kw_X9_begin σ (fun σ35 => 
        ∀ x36 : Int32, x36 = v4 + (1 : Int32) →
        K18 σ35 (0 : Int32) (0 : Int32) (0 : Int32) x36))) ∧
    (¬ v5 = (32 : Int32) → Q v4 σ))
def kw_X9_readText_247 (K18 : ka_S → Int32 → Int32 → Int32 → Int32 → Prop) (Q : Int32 → ka_S → Prop) (σ : ka_S) (v1 : Int32) (v2 : Int32) (v4 : Int32) (v5 : Int32) (v6 : Int32) (v8 : Int32) : Prop := (v1 = (0 : Int32) → kw_X9_readText_287 K18 Q σ v4 v5 v8) ∧
  (¬ v1 = (0 : Int32) → (v8 = (0 : Int32) → vp_in ((v6 + (6 : Int32)) + ((3 : Int32) * (v2 + (1 : Int32)))) 216 ∧
      (v5.toInt64 = (σ.2 (36, 0, 0) ((v6 + (6 : Int32)) + ((3 : Int32) * (v2 + (1 : Int32)))).toNatClampNeg) → ∀ x33 : Int32, x33 = v2 + (1 : Int32) →
        ∀ x34 : Int32, x34 = v4 + (1 : Int32) →
        K18 σ v1 x33 (0 : Int32) x34) ∧
      (¬ v5.toInt64 = (σ.2 (36, 0, 0) ((v6 + (6 : Int32)) + ((3 : Int32) * (v2 + (1 : Int32)))).toNatClampNeg) → kw_X9_readText_287 K18 Q σ v4 v5 v8)) ∧
    (¬ v8 = (0 : Int32) → kw_X9_readText_287 K18 Q σ v4 v5 v8))
def kw_X9_readText_222 (K18 : ka_S → Int32 → Int32 → Int32 → Int32 → Prop) (Q : Int32 → ka_S → Prop) (σ : ka_S) (v1 : Int32) (v2 : Int32) (v4 : Int32) (v5 : Int32) (v6 : Int32) (v8 : Int32) : Prop := (v1 = (0 : Int32) → (v8 = (0 : Int32) → kw_X9_readText_247 K18 Q σ v1 v2 v4 v5 v6 v8) ∧
    (¬ v8 = (0 : Int32) → (v5 = (58 : Int32) → ∀ x23 : Int32, x23 = v4 + (1 : Int32) →
        K18 σ (1 : Int32) (0 : Int32) (0 : Int32) x23) ∧
      (¬ v5 = (58 : Int32) → kw_X9_readText_247 K18 Q σ v1 v2 v4 v5 v6 v8))) ∧
  (¬ v1 = (0 : Int32) → kw_X9_readText_247 K18 Q σ v1 v2 v4 v5 v6 v8)
def kw_X9_readText_164 (K18 : ka_S → Int32 → Int32 → Int32 → Int32 → Prop) (Q : Int32 → ka_S → Prop) (σ : ka_S) (v1 : Int32) (v2 : Int32) (v4 : Int32) (v5 : Int32) (v6 : Int32) (v8 : Int32) : Prop := (v1 = (0 : Int32) → (v8 = (0 : Int32) → kw_X9_readText_222 K18 Q σ v1 v2 v4 v5 v6 v8) ∧
    (¬ v8 = (0 : Int32) → kw_X9_isMark σ v5 (fun r15 σ14 => 
      (r15 = (0 : Int32) → kw_X9_readText_222 K18 Q σ14 v1 v2 v4 v5 v6 v8) ∧
      (¬ r15 = (0 : Int32) → ((3 : Int32) ≤ v2 → kw_X9_readText_222 K18 Q σ14 v1 v2 v4 v5 v6 v8) ∧
        (¬ (3 : Int32) ≤ v2 → ∀ x16 : Int32, x16 = v2 + (1 : Int32) →
          vp_in v6 216 ∧
          vp_in v6 216 ∧
          ∀ σ19 : ka_S, σ19 = ka_wL σ14 (36, 0, 0) v6.toNatClampNeg ((σ14.2 (36, 0, 0) v6.toNatClampNeg) + (1 : Int64)) →
          vp_in ((v6 + (6 : Int32)) + ((3 : Int32) * x16)) 216 ∧
          ∀ σ21 : ka_S, σ21 = ka_wL σ19 (36, 0, 0) ((v6 + (6 : Int32)) + ((3 : Int32) * x16)).toNatClampNeg v5.toInt64 →
          ∀ x22 : Int32, x22 = v4 + (1 : Int32) →
          K18 σ21 v1 x16 (0 : Int32) x22))))) ∧
  (¬ v1 = (0 : Int32) → kw_X9_readText_222 K18 Q σ v1 v2 v4 v5 v6 v8)
def kw_X9_readText_86 (K18 : ka_S → Int32 → Int32 → Int32 → Int32 → Prop) (Q : Int32 → ka_S → Prop) (σ : ka_S) (v1 : Int32) (v2 : Int32) (v3 : Int32) (v4 : Int32) (v5 : Int32) (v6 : Int32) (t0 : Int32) : Prop := ((8 : Int32) ≤ v3 → kw_X9_readText_164 K18 Q σ v1 v2 v4 v5 v6 t0) ∧
  (¬ (8 : Int32) ≤ v3 → (v1 = (0 : Int32) → kw_X9_isLetter σ v5 (fun r11 σ10 => 
      (r11 = (0 : Int32) → kw_X9_readText_164 K18 Q σ10 v1 v2 v4 v5 v6 t0) ∧
      (¬ r11 = (0 : Int32) → kw_X9_readText_117 K18 Q σ10 v1 v2 v3 v4 v5 v6))) ∧
    (¬ v1 = (0 : Int32) → kw_X9_isGlossLetter σ v5 (fun r13 σ12 => 
      (r13 = (0 : Int32) → kw_X9_readText_164 K18 Q σ12 v1 v2 v4 v5 v6 t0) ∧
      (¬ r13 = (0 : Int32) → kw_X9_readText_117 K18 Q σ12 v1 v2 v3 v4 v5 v6))))
def kw_X9_readText_373 (Q : Int32 → ka_S → Prop) (σ : ka_S) (t0 : Int32) : Prop := (t0 = (0 : Int32) → Q (σ.1 (25, 0, 0) 2) σ) ∧
  (¬ t0 = (0 : Int32) → Q (-9 : Int32) σ)
def kw_X9_readText_18 (Q : Int32 → ka_S → Prop) : Nat → ka_S → Int32 → Int32 → Int32 → Int32 → Prop
  | 0, _, _, _, _, _ => False
  | n + 1, σ, v1, v2, v3, v4 => ((σ.1 (25, 0, 0) 2) ≤ v4 → (v1 = (0 : Int32) → (v3 ≤ (0 : Int32) → kw_X9_readText_373 Q σ (0 : Int32)) ∧
        (¬ v3 ≤ (0 : Int32) → kw_X9_readText_373 Q σ (1 : Int32))) ∧
      (¬ v1 = (0 : Int32) → vp_in ((18 : Int32) * ((σ.1 (25, 0, 0) 3) - (1 : Int32))) 216 ∧
        (v2.toInt64 = ((σ.2 (36, 0, 0) ((18 : Int32) * ((σ.1 (25, 0, 0) 3) - (1 : Int32))).toNatClampNeg) - (1 : Int64)) → kw_X9_readText_373 Q σ (1 : Int32)) ∧
        (¬ v2.toInt64 = ((σ.2 (36, 0, 0) ((18 : Int32) * ((σ.1 (25, 0, 0) 3) - (1 : Int32))).toNatClampNeg) - (1 : Int64)) → kw_X9_readText_373 Q σ (0 : Int32)))) ∧
    (¬ (σ.1 (25, 0, 0) 2) ≤ v4 → vp_in v4 60 ∧
      ∀ x6 : Int32, x6 = (σ.1 (26, 0, 0) v4.toNatClampNeg) → 
      ∀ x7 : Int32, x7 = ((18 : Int32) * ((σ.1 (25, 0, 0) 3) - (1 : Int32))) → 
      vp_in x7 216 ∧
      ∀ x9 : Int32, x9 = ((σ.2 (36, 0, 0) x7.toNatClampNeg).toInt32) → 
      (v1 = (0 : Int32) → (v3 ≤ (0 : Int32) → kw_X9_readText_86 (kw_X9_readText_18 Q n) Q σ v1 v2 v3 v4 x6 x7 (0 : Int32)) ∧
        (¬ v3 ≤ (0 : Int32) → kw_X9_readText_86 (kw_X9_readText_18 Q n) Q σ v1 v2 v3 v4 x6 x7 (1 : Int32))) ∧
      (¬ v1 = (0 : Int32) → (v2 = (x9 - (1 : Int32)) → kw_X9_readText_86 (kw_X9_readText_18 Q n) Q σ v1 v2 v3 v4 x6 x7 (1 : Int32)) ∧
        (¬ v2 = (x9 - (1 : Int32)) → kw_X9_readText_86 (kw_X9_readText_18 Q n) Q σ v1 v2 v3 v4 x6 x7 (0 : Int32))))
def kw_X9_readText (σ : ka_S) (Q : Int32 → ka_S → Prop) : Prop := ∀ σ1 : ka_S, σ1 = ka_wI σ (25, 0, 0) 3 (0 : Int32) →
  kw_X9_begin σ1 (fun σ2 => 
  ∃ n3 : Nat, kw_X9_readText_18 Q n3 σ2 (0 : Int32) (0 : Int32) (0 : Int32) (0 : Int32))
set_option maxHeartbeats 4000000 in
set_option maxRecDepth 100000 in
theorem kb_X9_readText_135 {p : Program} {l : Launch} {e : Env} {s : State} {m : MethodId} {args : Array Value} {below : List Frame} {meth : Method} {c : Code} {G : ka_G} (hI : ka_I G) (C0 : ka_C p s m args meth c cX9_readText 10 "GlossRowsModel" (some .int)) (hK : ka_Kn G s) {Q : Int32 → ka_S → Prop} {K18 : ka_S → Int32 → Int32 → Int32 → Int32 → Prop} (hk18 : ∀ (σ : ka_S) (v1 : Int32) (v2 : Int32) (v3 : Int32) (v4 : Int32), K18 σ v1 v2 v3 v4 → ∀ (H : Heap) (locs : List Loc), ka_P G σ H → va_S (ka_A G) s.heap H locs → ∀ ls : Array Slot, lv_has ls 10 [(0, .ref (ka_a G (25, 0, 0))), (1, .int v1), (2, .int v2), (3, .int v3), (4, .int v4)] → W p l e rm_X9_readText s m args below meth c H locs 0 0 (MQ below (va_Qi Q (ka_B G) (ka_A G)) args s 0 0 (ka_A G)) (F0 m 18 ls [])) : ∀ (σ : ka_S) (v1 : Int32) (v2 : Int32) (v3 : Int32) (v4 : Int32) (v5 : Int32) (t0 : Int32) (t1 : Int32), kw_X9_readText_135 K18 Q σ v1 v2 v3 v4 v5 t0 t1 → ∀ (H : Heap) (locs : List Loc), ka_P G σ H → va_S (ka_A G) s.heap H locs → ∀ ls : Array Slot, lv_has ls 10 [(0, .ref (ka_a G (25, 0, 0))), (1, .int v1), (2, .int v2), (3, .int v3), (4, .int v4), (5, .int v5)] → W p l e rm_X9_readText s m args below meth c H locs 0 0 (MQ below (va_Qi Q (ka_B G) (ka_A G)) args s 0 0 (ka_A G)) (F0 m 135 ls [.int t1, .int t0]) := by
  obtain ⟨hx, hb, -, hml, hown, hts, -⟩ := id C0
  intro σ v1 v2 v3 v4 v5 t0 t1 hq H locs hP hS ls hl
  unfold kw_X9_readText_135 at hq
  refine lv_iadd hx hb dX9_readText_135 ?_
  refine lv_topi (fun x24 ex24 => ?_)
  have hq := hq x24 ex24
  refine lv_istore (lv' := [(9, .int x24), (0, .ref (ka_a G (25, 0, 0))), (1, .int v1), (2, .int v2), (3, .int v3), (4, .int v4), (5, .int v5)]) hx hb dX9_readText_136 hl (by decide) rfl (fun ls hl => ?_)
  refine lv_aload_n hx hb dX9_readText_138 rfl (lv_at hl 1 rfl) ?_
  refine kg_X9_read C0 hK hP (kv_s (by decide) (by decide)) kq_959 dX9_readText_139 ?_
  refine lv_iload hx hb dX9_readText_142 (lv_at hl 0 rfl) ?_
  refine lv_aload_n hx hb dX9_readText_144 rfl (lv_at hl 1 rfl) ?_
  refine kg_X9_read C0 hK hP (kv_s (by decide) (by decide)) kq_959 dX9_readText_145 ?_
  refine lv_iload hx hb dX9_readText_148 (lv_at hl 0 rfl) ?_
  obtain ⟨b25, hq⟩ := hq
  refine kr_lald C0 hK hP (kv_s (by decide) (by decide)) rfl b25 dX9_readText_150 ?_
  refine lv_iload_n hx hb dX9_readText_151 rfl (lv_at hl 4 rfl) ?_
  refine lv_iload hx hb dX9_readText_152 (lv_at hl 6 rfl) ?_
  refine kr_Sl (As := [.long (σ.2 (36, 0, 0) x24.toNatClampNeg), .int v3, .int v5]) (rest := [.int x24, .ref (ka_a G (36, 0, 0))]) C0 hK hP hS hl (km_X9_withLetter l hI hq) kd_X9_withLetter kq_1062 ⟨rfl, rfl, Nat.le_of_ble_eq_true rfl, Nat.le_of_ble_eq_true rfl⟩ rfl (Nat.le_of_ble_eq_true rfl) dX9_readText_154 ⟨Nat.zero_le _, Nat.zero_le _⟩ (fun r27 σ26 H locs hq hP hS => ?_)
  obtain ⟨b28, hq⟩ := hq
  refine kr_last C0 hK hI hP hS (kv_s (by decide) (by decide)) (fun _ => rfl) b28 dX9_readText_157 (fun H locs hP hS => ?_)
  obtain ⟨σ29, eσ29⟩ : ∃ z : ka_S, z = ka_wL σ26 (36, 0, 0) x24.toNatClampNeg r27 := ⟨_, rfl⟩
  rw [← eσ29] at hP
  have hq := hq σ29 eσ29
  obtain ⟨x30, ex30⟩ : ∃ y : Int32, y = v3 + (1 : Int32) := ⟨_, rfl⟩
  have hq := hq x30 ex30
  refine lv_iinc (v := x30) (lv' := [(3, .int x30), (9, .int x24), (0, .ref (ka_a G (25, 0, 0))), (1, .int v1), (2, .int v2), (4, .int v4), (5, .int v5)]) hx hb dX9_readText_158 hl (k := 4) rfl (by rw [ex30]; rfl) (by decide) rfl (fun ls hl => ?_)
  refine lv_goto (tgt := 324) hx hb dX9_readText_161 (by decide) ?_
  obtain ⟨x31, ex31⟩ : ∃ y : Int32, y = v4 + (1 : Int32) := ⟨_, rfl⟩
  have hq := hq x31 ex31
  refine lv_iinc (v := x31) (lv' := [(4, .int x31), (3, .int x30), (9, .int x24), (0, .ref (ka_a G (25, 0, 0))), (1, .int v1), (2, .int v2), (5, .int v5)]) hx hb dX9_readText_324 hl (k := 5) rfl (by rw [ex31]; rfl) (by decide) rfl (fun ls hl => ?_)
  refine lv_goto (tgt := 18) hx hb dX9_readText_327 (by decide) ?_
  exact hk18 σ29 v1 v2 x30 x31 hq H locs hP hS ls (lv_sub hl [3, 4, 5, 1, 0] rfl)
set_option maxHeartbeats 4000000 in
set_option maxRecDepth 100000 in
theorem kb_X9_readText_117 {p : Program} {l : Launch} {e : Env} {s : State} {m : MethodId} {args : Array Value} {below : List Frame} {meth : Method} {c : Code} {G : ka_G} (hI : ka_I G) (C0 : ka_C p s m args meth c cX9_readText 10 "GlossRowsModel" (some .int)) (hK : ka_Kn G s) {Q : Int32 → ka_S → Prop} {K18 : ka_S → Int32 → Int32 → Int32 → Int32 → Prop} (hk18 : ∀ (σ : ka_S) (v1 : Int32) (v2 : Int32) (v3 : Int32) (v4 : Int32), K18 σ v1 v2 v3 v4 → ∀ (H : Heap) (locs : List Loc), ka_P G σ H → va_S (ka_A G) s.heap H locs → ∀ ls : Array Slot, lv_has ls 10 [(0, .ref (ka_a G (25, 0, 0))), (1, .int v1), (2, .int v2), (3, .int v3), (4, .int v4)] → W p l e rm_X9_readText s m args below meth c H locs 0 0 (MQ below (va_Qi Q (ka_B G) (ka_A G)) args s 0 0 (ka_A G)) (F0 m 18 ls [])) : ∀ (σ : ka_S) (v1 : Int32) (v2 : Int32) (v3 : Int32) (v4 : Int32) (v5 : Int32) (v6 : Int32), kw_X9_readText_117 K18 Q σ v1 v2 v3 v4 v5 v6 → ∀ (H : Heap) (locs : List Loc), ka_P G σ H → va_S (ka_A G) s.heap H locs → ∀ ls : Array Slot, lv_has ls 10 [(0, .ref (ka_a G (25, 0, 0))), (1, .int v1), (2, .int v2), (3, .int v3), (4, .int v4), (5, .int v5), (6, .int v6)] → W p l e rm_X9_readText s m args below meth c H locs 0 0 (MQ below (va_Qi Q (ka_B G) (ka_A G)) args s 0 0 (ka_A G)) (F0 m 117 ls []) := by
  obtain ⟨hx, hb, -, hml, hown, hts, -⟩ := id C0
  intro σ v1 v2 v3 v4 v5 v6 hq H locs hP hS ls hl
  unfold kw_X9_readText_117 at hq
  refine lv_iload hx hb dX9_readText_117 (lv_at hl 6 rfl) ?_
  refine lv_bipush (v := 6) hx hb dX9_readText_119 (by decide) ?_
  refine lv_iadd hx hb dX9_readText_121 ?_
  refine lv_iconst (v := 3) hx hb dX9_readText_122 (by decide) ?_
  refine lv_iload_n hx hb dX9_readText_123 rfl (lv_at hl 2 rfl) ?_
  refine lv_imul hx hb dX9_readText_124 ?_
  refine lv_iadd hx hb dX9_readText_125 ?_
  refine lv_iload_n hx hb dX9_readText_126 rfl (lv_at hl 1 rfl) ?_
  refine lv_if_eq (tgt := 134) hx hb dX9_readText_127 (by decide) (fun hc => ?_) (fun hc => ?_)
  · have hq := hq.1 hc
    refine lv_iconst (v := 1) hx hb dX9_readText_134 (by decide) ?_
    exact kb_X9_readText_135 hI C0 hK hk18 σ v1 v2 v3 v4 v5 ((v6 + (6 : Int32)) + ((3 : Int32) * v2)) (1 : Int32) hq H locs hP hS ls (lv_sub hl [0, 1, 2, 3, 4, 5] rfl)
  · have hq := hq.2 hc
    refine lv_iconst (v := 2) hx hb dX9_readText_130 (by decide) ?_
    refine lv_goto (tgt := 135) hx hb dX9_readText_131 (by decide) ?_
    exact kb_X9_readText_135 hI C0 hK hk18 σ v1 v2 v3 v4 v5 ((v6 + (6 : Int32)) + ((3 : Int32) * v2)) (2 : Int32) hq H locs hP hS ls (lv_sub hl [0, 1, 2, 3, 4, 5] rfl)
set_option maxHeartbeats 4000000 in
set_option maxRecDepth 100000 in
theorem kb_X9_readText_287 {p : Program} {l : Launch} {e : Env} {s : State} {m : MethodId} {args : Array Value} {below : List Frame} {meth : Method} {c : Code} {G : ka_G} (hI : ka_I G) (C0 : ka_C p s m args meth c cX9_readText 10 "GlossRowsModel" (some .int)) (hK : ka_Kn G s) {Q : Int32 → ka_S → Prop} {K18 : ka_S → Int32 → Int32 → Int32 → Int32 → Prop} (hk18 : ∀ (σ : ka_S) (v1 : Int32) (v2 : Int32) (v3 : Int32) (v4 : Int32), K18 σ v1 v2 v3 v4 → ∀ (H : Heap) (locs : List Loc), ka_P G σ H → va_S (ka_A G) s.heap H locs → ∀ ls : Array Slot, lv_has ls 10 [(0, .ref (ka_a G (25, 0, 0))), (1, .int v1), (2, .int v2), (3, .int v3), (4, .int v4)] → W p l e rm_X9_readText s m args below meth c H locs 0 0 (MQ below (va_Qi Q (ka_B G) (ka_A G)) args s 0 0 (ka_A G)) (F0 m 18 ls [])) : ∀ (σ : ka_S) (v4 : Int32) (v5 : Int32) (v8 : Int32), kw_X9_readText_287 K18 Q σ v4 v5 v8 → ∀ (H : Heap) (locs : List Loc), ka_P G σ H → va_S (ka_A G) s.heap H locs → ∀ ls : Array Slot, lv_has ls 10 [(0, .ref (ka_a G (25, 0, 0))), (4, .int v4), (5, .int v5), (8, .int v8)] → W p l e rm_X9_readText s m args below meth c H locs 0 0 (MQ below (va_Qi Q (ka_B G) (ka_A G)) args s 0 0 (ka_A G)) (F0 m 287 ls []) := by
  obtain ⟨hx, hb, -, hml, hown, hts, -⟩ := id C0
  intro σ v4 v5 v8 hq H locs hP hS ls hl
  unfold kw_X9_readText_287 at hq
  refine lv_iload hx hb dX9_readText_287 (lv_at hl 3 rfl) ?_
  refine lv_if_eq (tgt := 321) hx hb dX9_readText_289 (by decide) (fun hc => ?_) (fun hc => ?_)
  · have hq := hq.1 hc
    refine lv_iload hx hb dX9_readText_321 (lv_at hl 1 rfl) ?_
    exact kr_iret C0 hK hP hS hq dX9_readText_323
  · have hq := hq.2 hc
    refine lv_iload hx hb dX9_readText_292 (lv_at hl 2 rfl) ?_
    refine lv_bipush (v := 32) hx hb dX9_readText_294 (by decide) ?_
    refine lv_icmp_ne (tgt := 321) hx hb dX9_readText_296 (by decide) (fun hc => ?_) (fun hc => ?_)
    · have hq := hq.2 hc
      refine lv_iload hx hb dX9_readText_321 (lv_at hl 1 rfl) ?_
      exact kr_iret C0 hK hP hS hq dX9_readText_323
    · have hq := hq.1 hc
      refine lv_aload_n hx hb dX9_readText_299 rfl (lv_at hl 0 rfl) ?_
      refine kg_X9_readMany C0 hK hP (kv_s (by decide) (by decide)) kq_958 dX9_readText_300 ?_
      refine lv_bipush (v := 12) hx hb dX9_readText_303 (by decide) ?_
      refine lv_icmp_ge (tgt := 321) hx hb dX9_readText_305 (by decide) (fun hc => ?_) (fun hc => ?_)
      · have hq := hq.1 hc
        refine lv_iload hx hb dX9_readText_321 (lv_at hl 1 rfl) ?_
        exact kr_iret C0 hK hP hS hq dX9_readText_323
      · have hq := hq.2 hc
        refine lv_aload_n hx hb dX9_readText_308 rfl (lv_at hl 0 rfl) ?_
        refine kr_Vv (k := (25, 0, 0)) (As := []) (rest := []) C0 hK hP hS hl (km_X9_begin l hI hq) kd_X9_begin kq_1050 (kv_s (by decide) (by decide)) rfl rfl rfl ⟨rfl, rfl, Nat.le_of_ble_eq_true rfl, Nat.le_of_ble_eq_true rfl⟩ rfl (Nat.le_of_ble_eq_true rfl) dX9_readText_309 ⟨Nat.zero_le _, Nat.zero_le _⟩ (fun σ35 H locs hq hP hS => ?_)
        refine lv_iconst (v := 0) hx hb dX9_readText_312 (by decide) ?_
        refine lv_istore_n (lv' := [(1, .int (0 : Int32)), (0, .ref (ka_a G (25, 0, 0))), (4, .int v4), (5, .int v5), (8, .int v8)]) hx hb dX9_readText_313 rfl hl (by decide) rfl (fun ls hl => ?_)
        refine lv_iconst (v := 0) hx hb dX9_readText_314 (by decide) ?_
        refine lv_istore_n (lv' := [(2, .int (0 : Int32)), (1, .int (0 : Int32)), (0, .ref (ka_a G (25, 0, 0))), (4, .int v4), (5, .int v5), (8, .int v8)]) hx hb dX9_readText_315 rfl hl (by decide) rfl (fun ls hl => ?_)
        refine lv_iconst (v := 0) hx hb dX9_readText_316 (by decide) ?_
        refine lv_istore_n (lv' := [(3, .int (0 : Int32)), (2, .int (0 : Int32)), (1, .int (0 : Int32)), (0, .ref (ka_a G (25, 0, 0))), (4, .int v4), (5, .int v5), (8, .int v8)]) hx hb dX9_readText_317 rfl hl (by decide) rfl (fun ls hl => ?_)
        refine lv_goto (tgt := 324) hx hb dX9_readText_318 (by decide) ?_
        obtain ⟨x36, ex36⟩ : ∃ y : Int32, y = v4 + (1 : Int32) := ⟨_, rfl⟩
        have hq := hq x36 ex36
        refine lv_iinc (v := x36) (lv' := [(4, .int x36), (3, .int (0 : Int32)), (2, .int (0 : Int32)), (1, .int (0 : Int32)), (0, .ref (ka_a G (25, 0, 0))), (5, .int v5), (8, .int v8)]) hx hb dX9_readText_324 hl (k := 4) rfl (by rw [ex36]; rfl) (by decide) rfl (fun ls hl => ?_)
        refine lv_goto (tgt := 18) hx hb dX9_readText_327 (by decide) ?_
        exact hk18 σ35 (0 : Int32) (0 : Int32) (0 : Int32) x36 hq H locs hP hS ls (lv_sub hl [4, 3, 2, 1, 0] rfl)
set_option maxHeartbeats 4000000 in
set_option maxRecDepth 100000 in
theorem kb_X9_readText_247 {p : Program} {l : Launch} {e : Env} {s : State} {m : MethodId} {args : Array Value} {below : List Frame} {meth : Method} {c : Code} {G : ka_G} (hI : ka_I G) (C0 : ka_C p s m args meth c cX9_readText 10 "GlossRowsModel" (some .int)) (hK : ka_Kn G s) {Q : Int32 → ka_S → Prop} {K18 : ka_S → Int32 → Int32 → Int32 → Int32 → Prop} (hk18 : ∀ (σ : ka_S) (v1 : Int32) (v2 : Int32) (v3 : Int32) (v4 : Int32), K18 σ v1 v2 v3 v4 → ∀ (H : Heap) (locs : List Loc), ka_P G σ H → va_S (ka_A G) s.heap H locs → ∀ ls : Array Slot, lv_has ls 10 [(0, .ref (ka_a G (25, 0, 0))), (1, .int v1), (2, .int v2), (3, .int v3), (4, .int v4)] → W p l e rm_X9_readText s m args below meth c H locs 0 0 (MQ below (va_Qi Q (ka_B G) (ka_A G)) args s 0 0 (ka_A G)) (F0 m 18 ls [])) : ∀ (σ : ka_S) (v1 : Int32) (v2 : Int32) (v4 : Int32) (v5 : Int32) (v6 : Int32) (v8 : Int32), kw_X9_readText_247 K18 Q σ v1 v2 v4 v5 v6 v8 → ∀ (H : Heap) (locs : List Loc), ka_P G σ H → va_S (ka_A G) s.heap H locs → ∀ ls : Array Slot, lv_has ls 10 [(0, .ref (ka_a G (25, 0, 0))), (1, .int v1), (2, .int v2), (4, .int v4), (5, .int v5), (6, .int v6), (8, .int v8)] → W p l e rm_X9_readText s m args below meth c H locs 0 0 (MQ below (va_Qi Q (ka_B G) (ka_A G)) args s 0 0 (ka_A G)) (F0 m 247 ls []) := by
  obtain ⟨hx, hb, -, hml, hown, hts, -⟩ := id C0
  intro σ v1 v2 v4 v5 v6 v8 hq H locs hP hS ls hl
  unfold kw_X9_readText_247 at hq
  refine lv_iload_n hx hb dX9_readText_247 rfl (lv_at hl 1 rfl) ?_
  refine lv_if_eq (tgt := 287) hx hb dX9_readText_248 (by decide) (fun hc => ?_) (fun hc => ?_)
  · have hq := hq.1 hc
    exact kb_X9_readText_287 hI C0 hK hk18 σ v4 v5 v8 hq H locs hP hS ls (lv_sub hl [0, 3, 4, 6] rfl)
  · have hq := hq.2 hc
    refine lv_iload hx hb dX9_readText_251 (lv_at hl 6 rfl) ?_
    refine lv_if_ne (tgt := 287) hx hb dX9_readText_253 (by decide) (fun hc => ?_) (fun hc => ?_)
    · have hq := hq.2 hc
      exact kb_X9_readText_287 hI C0 hK hk18 σ v4 v5 v8 hq H locs hP hS ls (lv_sub hl [0, 3, 4, 6] rfl)
    · have hq := hq.1 hc
      refine lv_iload hx hb dX9_readText_256 (lv_at hl 4 rfl) ?_
      refine lv_i2l hx hb dX9_readText_258 rfl ?_
      refine lv_aload_n hx hb dX9_readText_259 rfl (lv_at hl 0 rfl) ?_
      refine kg_X9_read C0 hK hP (kv_s (by decide) (by decide)) kq_959 dX9_readText_260 ?_
      refine lv_iload hx hb dX9_readText_263 (lv_at hl 5 rfl) ?_
      refine lv_bipush (v := 6) hx hb dX9_readText_265 (by decide) ?_
      refine lv_iadd hx hb dX9_readText_267 ?_
      refine lv_iconst (v := 3) hx hb dX9_readText_268 (by decide) ?_
      refine lv_iload_n hx hb dX9_readText_269 rfl (lv_at hl 2 rfl) ?_
      refine lv_iconst (v := 1) hx hb dX9_readText_270 (by decide) ?_
      refine lv_iadd hx hb dX9_readText_271 ?_
      refine lv_imul hx hb dX9_readText_272 ?_
      refine lv_iadd hx hb dX9_readText_273 ?_
      obtain ⟨b32, hq⟩ := hq
      refine kr_lald C0 hK hP (kv_s (by decide) (by decide)) rfl b32 dX9_readText_274 ?_
      refine kr_cne (tgt := 287) C0 dX9_readText_275 dX9_readText_276 (by decide) (fun hc => ?_) (fun hc => ?_)
      · have hq := hq.2 hc
        exact kb_X9_readText_287 hI C0 hK hk18 σ v4 v5 v8 hq H locs hP hS ls (lv_sub hl [0, 3, 4, 6] rfl)
      · have hq := hq.1 hc
        obtain ⟨x33, ex33⟩ : ∃ y : Int32, y = v2 + (1 : Int32) := ⟨_, rfl⟩
        have hq := hq x33 ex33
        refine lv_iinc (v := x33) (lv' := [(2, .int x33), (0, .ref (ka_a G (25, 0, 0))), (1, .int v1), (4, .int v4), (5, .int v5), (6, .int v6), (8, .int v8)]) hx hb dX9_readText_279 hl (k := 2) rfl (by rw [ex33]; rfl) (by decide) rfl (fun ls hl => ?_)
        refine lv_iconst (v := 0) hx hb dX9_readText_282 (by decide) ?_
        refine lv_istore_n (lv' := [(3, .int (0 : Int32)), (2, .int x33), (0, .ref (ka_a G (25, 0, 0))), (1, .int v1), (4, .int v4), (5, .int v5), (6, .int v6), (8, .int v8)]) hx hb dX9_readText_283 rfl hl (by decide) rfl (fun ls hl => ?_)
        refine lv_goto (tgt := 324) hx hb dX9_readText_284 (by decide) ?_
        obtain ⟨x34, ex34⟩ : ∃ y : Int32, y = v4 + (1 : Int32) := ⟨_, rfl⟩
        have hq := hq x34 ex34
        refine lv_iinc (v := x34) (lv' := [(4, .int x34), (3, .int (0 : Int32)), (2, .int x33), (0, .ref (ka_a G (25, 0, 0))), (1, .int v1), (5, .int v5), (6, .int v6), (8, .int v8)]) hx hb dX9_readText_324 hl (k := 4) rfl (by rw [ex34]; rfl) (by decide) rfl (fun ls hl => ?_)
        refine lv_goto (tgt := 18) hx hb dX9_readText_327 (by decide) ?_
        exact hk18 σ v1 x33 (0 : Int32) x34 hq H locs hP hS ls (lv_sub hl [3, 4, 2, 1, 0] rfl)
set_option maxHeartbeats 4000000 in
set_option maxRecDepth 100000 in
theorem kb_X9_readText_222 {p : Program} {l : Launch} {e : Env} {s : State} {m : MethodId} {args : Array Value} {below : List Frame} {meth : Method} {c : Code} {G : ka_G} (hI : ka_I G) (C0 : ka_C p s m args meth c cX9_readText 10 "GlossRowsModel" (some .int)) (hK : ka_Kn G s) {Q : Int32 → ka_S → Prop} {K18 : ka_S → Int32 → Int32 → Int32 → Int32 → Prop} (hk18 : ∀ (σ : ka_S) (v1 : Int32) (v2 : Int32) (v3 : Int32) (v4 : Int32), K18 σ v1 v2 v3 v4 → ∀ (H : Heap) (locs : List Loc), ka_P G σ H → va_S (ka_A G) s.heap H locs → ∀ ls : Array Slot, lv_has ls 10 [(0, .ref (ka_a G (25, 0, 0))), (1, .int v1), (2, .int v2), (3, .int v3), (4, .int v4)] → W p l e rm_X9_readText s m args below meth c H locs 0 0 (MQ below (va_Qi Q (ka_B G) (ka_A G)) args s 0 0 (ka_A G)) (F0 m 18 ls [])) : ∀ (σ : ka_S) (v1 : Int32) (v2 : Int32) (v4 : Int32) (v5 : Int32) (v6 : Int32) (v8 : Int32), kw_X9_readText_222 K18 Q σ v1 v2 v4 v5 v6 v8 → ∀ (H : Heap) (locs : List Loc), ka_P G σ H → va_S (ka_A G) s.heap H locs → ∀ ls : Array Slot, lv_has ls 10 [(0, .ref (ka_a G (25, 0, 0))), (1, .int v1), (2, .int v2), (4, .int v4), (5, .int v5), (6, .int v6), (8, .int v8)] → W p l e rm_X9_readText s m args below meth c H locs 0 0 (MQ below (va_Qi Q (ka_B G) (ka_A G)) args s 0 0 (ka_A G)) (F0 m 222 ls []) := by
  obtain ⟨hx, hb, -, hml, hown, hts, -⟩ := id C0
  intro σ v1 v2 v4 v5 v6 v8 hq H locs hP hS ls hl
  unfold kw_X9_readText_222 at hq
  refine lv_iload_n hx hb dX9_readText_222 rfl (lv_at hl 1 rfl) ?_
  refine lv_if_ne (tgt := 247) hx hb dX9_readText_223 (by decide) (fun hc => ?_) (fun hc => ?_)
  · have hq := hq.2 hc
    exact kb_X9_readText_247 hI C0 hK hk18 σ v1 v2 v4 v5 v6 v8 hq H locs hP hS ls (lv_sub hl [0, 1, 2, 3, 4, 5, 6] rfl)
  · have hq := hq.1 hc
    refine lv_iload hx hb dX9_readText_226 (lv_at hl 6 rfl) ?_
    refine lv_if_eq (tgt := 247) hx hb dX9_readText_228 (by decide) (fun hc => ?_) (fun hc => ?_)
    · have hq := hq.1 hc
      exact kb_X9_readText_247 hI C0 hK hk18 σ v1 v2 v4 v5 v6 v8 hq H locs hP hS ls (lv_sub hl [0, 1, 2, 3, 4, 5, 6] rfl)
    · have hq := hq.2 hc
      refine lv_iload hx hb dX9_readText_231 (lv_at hl 4 rfl) ?_
      refine lv_bipush (v := 58) hx hb dX9_readText_233 (by decide) ?_
      refine lv_icmp_ne (tgt := 247) hx hb dX9_readText_235 (by decide) (fun hc => ?_) (fun hc => ?_)
      · have hq := hq.2 hc
        exact kb_X9_readText_247 hI C0 hK hk18 σ v1 v2 v4 v5 v6 v8 hq H locs hP hS ls (lv_sub hl [0, 1, 2, 3, 4, 5, 6] rfl)
      · have hq := hq.1 hc
        refine lv_iconst (v := 1) hx hb dX9_readText_238 (by decide) ?_
        refine lv_istore_n (lv' := [(1, .int (1 : Int32)), (0, .ref (ka_a G (25, 0, 0))), (2, .int v2), (4, .int v4), (5, .int v5), (6, .int v6), (8, .int v8)]) hx hb dX9_readText_239 rfl hl (by decide) rfl (fun ls hl => ?_)
        refine lv_iconst (v := 0) hx hb dX9_readText_240 (by decide) ?_
        refine lv_istore_n (lv' := [(2, .int (0 : Int32)), (1, .int (1 : Int32)), (0, .ref (ka_a G (25, 0, 0))), (4, .int v4), (5, .int v5), (6, .int v6), (8, .int v8)]) hx hb dX9_readText_241 rfl hl (by decide) rfl (fun ls hl => ?_)
        refine lv_iconst (v := 0) hx hb dX9_readText_242 (by decide) ?_
        refine lv_istore_n (lv' := [(3, .int (0 : Int32)), (2, .int (0 : Int32)), (1, .int (1 : Int32)), (0, .ref (ka_a G (25, 0, 0))), (4, .int v4), (5, .int v5), (6, .int v6), (8, .int v8)]) hx hb dX9_readText_243 rfl hl (by decide) rfl (fun ls hl => ?_)
        refine lv_goto (tgt := 324) hx hb dX9_readText_244 (by decide) ?_
        obtain ⟨x23, ex23⟩ : ∃ y : Int32, y = v4 + (1 : Int32) := ⟨_, rfl⟩
        have hq := hq x23 ex23
        refine lv_iinc (v := x23) (lv' := [(4, .int x23), (3, .int (0 : Int32)), (2, .int (0 : Int32)), (1, .int (1 : Int32)), (0, .ref (ka_a G (25, 0, 0))), (5, .int v5), (6, .int v6), (8, .int v8)]) hx hb dX9_readText_324 hl (k := 4) rfl (by rw [ex23]; rfl) (by decide) rfl (fun ls hl => ?_)
        refine lv_goto (tgt := 18) hx hb dX9_readText_327 (by decide) ?_
        exact hk18 σ (1 : Int32) (0 : Int32) (0 : Int32) x23 hq H locs hP hS ls (lv_sub hl [4, 3, 2, 1, 0] rfl)
set_option maxHeartbeats 4000000 in
set_option maxRecDepth 100000 in
theorem kb_X9_readText_164 {p : Program} {l : Launch} {e : Env} {s : State} {m : MethodId} {args : Array Value} {below : List Frame} {meth : Method} {c : Code} {G : ka_G} (hI : ka_I G) (C0 : ka_C p s m args meth c cX9_readText 10 "GlossRowsModel" (some .int)) (hK : ka_Kn G s) {Q : Int32 → ka_S → Prop} {K18 : ka_S → Int32 → Int32 → Int32 → Int32 → Prop} (hk18 : ∀ (σ : ka_S) (v1 : Int32) (v2 : Int32) (v3 : Int32) (v4 : Int32), K18 σ v1 v2 v3 v4 → ∀ (H : Heap) (locs : List Loc), ka_P G σ H → va_S (ka_A G) s.heap H locs → ∀ ls : Array Slot, lv_has ls 10 [(0, .ref (ka_a G (25, 0, 0))), (1, .int v1), (2, .int v2), (3, .int v3), (4, .int v4)] → W p l e rm_X9_readText s m args below meth c H locs 0 0 (MQ below (va_Qi Q (ka_B G) (ka_A G)) args s 0 0 (ka_A G)) (F0 m 18 ls [])) : ∀ (σ : ka_S) (v1 : Int32) (v2 : Int32) (v4 : Int32) (v5 : Int32) (v6 : Int32) (v8 : Int32), kw_X9_readText_164 K18 Q σ v1 v2 v4 v5 v6 v8 → ∀ (H : Heap) (locs : List Loc), ka_P G σ H → va_S (ka_A G) s.heap H locs → ∀ ls : Array Slot, lv_has ls 10 [(0, .ref (ka_a G (25, 0, 0))), (1, .int v1), (2, .int v2), (4, .int v4), (5, .int v5), (6, .int v6), (8, .int v8)] → W p l e rm_X9_readText s m args below meth c H locs 0 0 (MQ below (va_Qi Q (ka_B G) (ka_A G)) args s 0 0 (ka_A G)) (F0 m 164 ls []) := by
  obtain ⟨hx, hb, -, hml, hown, hts, -⟩ := id C0
  intro σ v1 v2 v4 v5 v6 v8 hq H locs hP hS ls hl
  unfold kw_X9_readText_164 at hq
  refine lv_iload_n hx hb dX9_readText_164 rfl (lv_at hl 1 rfl) ?_
  refine lv_if_ne (tgt := 222) hx hb dX9_readText_165 (by decide) (fun hc => ?_) (fun hc => ?_)
  · have hq := hq.2 hc
    exact kb_X9_readText_222 hI C0 hK hk18 σ v1 v2 v4 v5 v6 v8 hq H locs hP hS ls (lv_sub hl [0, 1, 2, 3, 4, 5, 6] rfl)
  · have hq := hq.1 hc
    refine lv_iload hx hb dX9_readText_168 (lv_at hl 6 rfl) ?_
    refine lv_if_eq (tgt := 222) hx hb dX9_readText_170 (by decide) (fun hc => ?_) (fun hc => ?_)
    · have hq := hq.1 hc
      exact kb_X9_readText_222 hI C0 hK hk18 σ v1 v2 v4 v5 v6 v8 hq H locs hP hS ls (lv_sub hl [0, 1, 2, 3, 4, 5, 6] rfl)
    · have hq := hq.2 hc
      refine lv_iload hx hb dX9_readText_173 (lv_at hl 4 rfl) ?_
      refine kr_Si (As := [.int v5]) (rest := []) C0 hK hP hS hl (km_X9_isMark l hI hq) kd_X9_isMark kq_1066 ⟨rfl, rfl, Nat.le_of_ble_eq_true rfl, Nat.le_of_ble_eq_true rfl⟩ rfl (Nat.le_of_ble_eq_true rfl) dX9_readText_175 ⟨Nat.zero_le _, Nat.zero_le _⟩ (fun r15 σ14 H locs hq hP hS => ?_)
      refine lv_if_eq (tgt := 222) hx hb dX9_readText_178 (by decide) (fun hc => ?_) (fun hc => ?_)
      · have hq := hq.1 hc
        exact kb_X9_readText_222 hI C0 hK hk18 σ14 v1 v2 v4 v5 v6 v8 hq H locs hP hS ls (lv_sub hl [0, 1, 2, 3, 4, 5, 6] rfl)
      · have hq := hq.2 hc
        refine lv_iload_n hx hb dX9_readText_181 rfl (lv_at hl 2 rfl) ?_
        refine lv_iconst (v := 3) hx hb dX9_readText_182 (by decide) ?_
        refine lv_icmp_ge (tgt := 222) hx hb dX9_readText_183 (by decide) (fun hc => ?_) (fun hc => ?_)
        · have hq := hq.1 hc
          exact kb_X9_readText_222 hI C0 hK hk18 σ14 v1 v2 v4 v5 v6 v8 hq H locs hP hS ls (lv_sub hl [0, 1, 2, 3, 4, 5, 6] rfl)
        · have hq := hq.2 hc
          obtain ⟨x16, ex16⟩ : ∃ y : Int32, y = v2 + (1 : Int32) := ⟨_, rfl⟩
          have hq := hq x16 ex16
          refine lv_iinc (v := x16) (lv' := [(2, .int x16), (0, .ref (ka_a G (25, 0, 0))), (1, .int v1), (4, .int v4), (5, .int v5), (6, .int v6), (8, .int v8)]) hx hb dX9_readText_186 hl (k := 2) rfl (by rw [ex16]; rfl) (by decide) rfl (fun ls hl => ?_)
          refine lv_iconst (v := 0) hx hb dX9_readText_189 (by decide) ?_
          refine lv_istore_n (lv' := [(3, .int (0 : Int32)), (2, .int x16), (0, .ref (ka_a G (25, 0, 0))), (1, .int v1), (4, .int v4), (5, .int v5), (6, .int v6), (8, .int v8)]) hx hb dX9_readText_190 rfl hl (by decide) rfl (fun ls hl => ?_)
          refine lv_aload_n hx hb dX9_readText_191 rfl (lv_at hl 2 rfl) ?_
          refine kg_X9_read C0 hK hP (kv_s (by decide) (by decide)) kq_959 dX9_readText_192 ?_
          refine lv_iload hx hb dX9_readText_195 (lv_at hl 6 rfl) ?_
          refine lv_dup2_11 hx hb dX9_readText_197 rfl rfl ?_
          obtain ⟨b17, hq⟩ := hq
          refine kr_lald C0 hK hP (kv_s (by decide) (by decide)) rfl b17 dX9_readText_198 ?_
          refine lv_lconst (v := 1) hx hb dX9_readText_199 (by decide) ?_
          refine lv_ladd hx hb dX9_readText_200 ?_
          obtain ⟨b18, hq⟩ := hq
          refine kr_last C0 hK hI hP hS (kv_s (by decide) (by decide)) (fun _ => rfl) b18 dX9_readText_201 (fun H locs hP hS => ?_)
          obtain ⟨σ19, eσ19⟩ : ∃ z : ka_S, z = ka_wL σ14 (36, 0, 0) v6.toNatClampNeg ((σ14.2 (36, 0, 0) v6.toNatClampNeg) + (1 : Int64)) := ⟨_, rfl⟩
          rw [← eσ19] at hP
          have hq := hq σ19 eσ19
          refine lv_aload_n hx hb dX9_readText_202 rfl (lv_at hl 2 rfl) ?_
          refine kg_X9_read C0 hK hP (kv_s (by decide) (by decide)) kq_959 dX9_readText_203 ?_
          refine lv_iload hx hb dX9_readText_206 (lv_at hl 6 rfl) ?_
          refine lv_bipush (v := 6) hx hb dX9_readText_208 (by decide) ?_
          refine lv_iadd hx hb dX9_readText_210 ?_
          refine lv_iconst (v := 3) hx hb dX9_readText_211 (by decide) ?_
          refine lv_iload_n hx hb dX9_readText_212 rfl (lv_at hl 1 rfl) ?_
          refine lv_imul hx hb dX9_readText_213 ?_
          refine lv_iadd hx hb dX9_readText_214 ?_
          refine lv_iload hx hb dX9_readText_215 (lv_at hl 5 rfl) ?_
          refine lv_i2l hx hb dX9_readText_217 rfl ?_
          obtain ⟨b20, hq⟩ := hq
          refine kr_last C0 hK hI hP hS (kv_s (by decide) (by decide)) (fun _ => rfl) b20 dX9_readText_218 (fun H locs hP hS => ?_)
          obtain ⟨σ21, eσ21⟩ : ∃ z : ka_S, z = ka_wL σ19 (36, 0, 0) ((v6 + (6 : Int32)) + ((3 : Int32) * x16)).toNatClampNeg v5.toInt64 := ⟨_, rfl⟩
          rw [← eσ21] at hP
          have hq := hq σ21 eσ21
          refine lv_goto (tgt := 324) hx hb dX9_readText_219 (by decide) ?_
          obtain ⟨x22, ex22⟩ : ∃ y : Int32, y = v4 + (1 : Int32) := ⟨_, rfl⟩
          have hq := hq x22 ex22
          refine lv_iinc (v := x22) (lv' := [(4, .int x22), (3, .int (0 : Int32)), (2, .int x16), (0, .ref (ka_a G (25, 0, 0))), (1, .int v1), (5, .int v5), (6, .int v6), (8, .int v8)]) hx hb dX9_readText_324 hl (k := 4) rfl (by rw [ex22]; rfl) (by decide) rfl (fun ls hl => ?_)
          refine lv_goto (tgt := 18) hx hb dX9_readText_327 (by decide) ?_
          exact hk18 σ21 v1 x16 (0 : Int32) x22 hq H locs hP hS ls (lv_sub hl [3, 4, 2, 1, 0] rfl)
set_option maxHeartbeats 4000000 in
set_option maxRecDepth 100000 in
theorem kb_X9_readText_86 {p : Program} {l : Launch} {e : Env} {s : State} {m : MethodId} {args : Array Value} {below : List Frame} {meth : Method} {c : Code} {G : ka_G} (hI : ka_I G) (C0 : ka_C p s m args meth c cX9_readText 10 "GlossRowsModel" (some .int)) (hK : ka_Kn G s) {Q : Int32 → ka_S → Prop} {K18 : ka_S → Int32 → Int32 → Int32 → Int32 → Prop} (hk18 : ∀ (σ : ka_S) (v1 : Int32) (v2 : Int32) (v3 : Int32) (v4 : Int32), K18 σ v1 v2 v3 v4 → ∀ (H : Heap) (locs : List Loc), ka_P G σ H → va_S (ka_A G) s.heap H locs → ∀ ls : Array Slot, lv_has ls 10 [(0, .ref (ka_a G (25, 0, 0))), (1, .int v1), (2, .int v2), (3, .int v3), (4, .int v4)] → W p l e rm_X9_readText s m args below meth c H locs 0 0 (MQ below (va_Qi Q (ka_B G) (ka_A G)) args s 0 0 (ka_A G)) (F0 m 18 ls [])) : ∀ (σ : ka_S) (v1 : Int32) (v2 : Int32) (v3 : Int32) (v4 : Int32) (v5 : Int32) (v6 : Int32) (t0 : Int32), kw_X9_readText_86 K18 Q σ v1 v2 v3 v4 v5 v6 t0 → ∀ (H : Heap) (locs : List Loc), ka_P G σ H → va_S (ka_A G) s.heap H locs → ∀ ls : Array Slot, lv_has ls 10 [(0, .ref (ka_a G (25, 0, 0))), (1, .int v1), (2, .int v2), (3, .int v3), (4, .int v4), (5, .int v5), (6, .int v6)] → W p l e rm_X9_readText s m args below meth c H locs 0 0 (MQ below (va_Qi Q (ka_B G) (ka_A G)) args s 0 0 (ka_A G)) (F0 m 86 ls [.int t0]) := by
  obtain ⟨hx, hb, -, hml, hown, hts, -⟩ := id C0
  intro σ v1 v2 v3 v4 v5 v6 t0 hq H locs hP hS ls hl
  unfold kw_X9_readText_86 at hq
  refine lv_istore (lv' := [(8, .int t0), (0, .ref (ka_a G (25, 0, 0))), (1, .int v1), (2, .int v2), (3, .int v3), (4, .int v4), (5, .int v5), (6, .int v6)]) hx hb dX9_readText_86 hl (by decide) rfl (fun ls hl => ?_)
  refine lv_iload_n hx hb dX9_readText_88 rfl (lv_at hl 4 rfl) ?_
  refine lv_bipush (v := 8) hx hb dX9_readText_89 (by decide) ?_
  refine lv_icmp_ge (tgt := 164) hx hb dX9_readText_91 (by decide) (fun hc => ?_) (fun hc => ?_)
  · have hq := hq.1 hc
    exact kb_X9_readText_164 hI C0 hK hk18 σ v1 v2 v4 v5 v6 t0 hq H locs hP hS ls (lv_sub hl [1, 2, 3, 5, 6, 7, 0] rfl)
  · have hq := hq.2 hc
    refine lv_iload_n hx hb dX9_readText_94 rfl (lv_at hl 2 rfl) ?_
    refine lv_if_eq (tgt := 109) hx hb dX9_readText_95 (by decide) (fun hc => ?_) (fun hc => ?_)
    · have hq := hq.1 hc
      refine lv_iload hx hb dX9_readText_109 (lv_at hl 6 rfl) ?_
      refine kr_Si (As := [.int v5]) (rest := []) C0 hK hP hS hl (km_X9_isLetter l hI hq) kd_X9_isLetter kq_1057 ⟨rfl, rfl, Nat.le_of_ble_eq_true rfl, Nat.le_of_ble_eq_true rfl⟩ rfl (Nat.le_of_ble_eq_true rfl) dX9_readText_111 ⟨Nat.zero_le _, Nat.zero_le _⟩ (fun r11 σ10 H locs hq hP hS => ?_)
      refine lv_if_eq (tgt := 164) hx hb dX9_readText_114 (by decide) (fun hc => ?_) (fun hc => ?_)
      · have hq := hq.1 hc
        exact kb_X9_readText_164 hI C0 hK hk18 σ10 v1 v2 v4 v5 v6 t0 hq H locs hP hS ls (lv_sub hl [1, 2, 3, 5, 6, 7, 0] rfl)
      · have hq := hq.2 hc
        exact kb_X9_readText_117 hI C0 hK hk18 σ10 v1 v2 v3 v4 v5 v6 hq H locs hP hS ls (lv_sub hl [1, 2, 3, 4, 5, 6, 7] rfl)
    · have hq := hq.2 hc
      refine lv_iload hx hb dX9_readText_98 (lv_at hl 6 rfl) ?_
      refine kr_Si (As := [.int v5]) (rest := []) C0 hK hP hS hl (km_X9_isGlossLetter l hI hq) kd_X9_isGlossLetter kq_1054 ⟨rfl, rfl, Nat.le_of_ble_eq_true rfl, Nat.le_of_ble_eq_true rfl⟩ rfl (Nat.le_of_ble_eq_true rfl) dX9_readText_100 ⟨Nat.zero_le _, Nat.zero_le _⟩ (fun r13 σ12 H locs hq hP hS => ?_)
      refine lv_if_eq (tgt := 164) hx hb dX9_readText_103 (by decide) (fun hc => ?_) (fun hc => ?_)
      · have hq := hq.1 hc
        exact kb_X9_readText_164 hI C0 hK hk18 σ12 v1 v2 v4 v5 v6 t0 hq H locs hP hS ls (lv_sub hl [1, 2, 3, 5, 6, 7, 0] rfl)
      · have hq := hq.2 hc
        refine lv_goto (tgt := 117) hx hb dX9_readText_106 (by decide) ?_
        exact kb_X9_readText_117 hI C0 hK hk18 σ12 v1 v2 v3 v4 v5 v6 hq H locs hP hS ls (lv_sub hl [1, 2, 3, 4, 5, 6, 7] rfl)
set_option maxHeartbeats 4000000 in
set_option maxRecDepth 100000 in
theorem kb_X9_readText_373 {p : Program} {l : Launch} {e : Env} {s : State} {m : MethodId} {args : Array Value} {below : List Frame} {meth : Method} {c : Code} {G : ka_G} (hI : ka_I G) (C0 : ka_C p s m args meth c cX9_readText 10 "GlossRowsModel" (some .int)) (hK : ka_Kn G s) {Q : Int32 → ka_S → Prop} : ∀ (σ : ka_S) (t0 : Int32), kw_X9_readText_373 Q σ t0 → ∀ (H : Heap) (locs : List Loc), ka_P G σ H → va_S (ka_A G) s.heap H locs → ∀ ls : Array Slot, lv_has ls 10 [(0, .ref (ka_a G (25, 0, 0)))] → W p l e rm_X9_readText s m args below meth c H locs 0 0 (MQ below (va_Qi Q (ka_B G) (ka_A G)) args s 0 0 (ka_A G)) (F0 m 373 ls [.int t0]) := by
  obtain ⟨hx, hb, -, hml, hown, hts, -⟩ := id C0
  intro σ t0 hq H locs hP hS ls hl
  unfold kw_X9_readText_373 at hq
  refine lv_istore (lv' := [(4, .int t0), (0, .ref (ka_a G (25, 0, 0)))]) hx hb dX9_readText_373 hl (by decide) rfl (fun ls hl => ?_)
  refine lv_iload hx hb dX9_readText_375 (lv_at hl 0 rfl) ?_
  refine lv_if_eq (tgt := 385) hx hb dX9_readText_377 (by decide) (fun hc => ?_) (fun hc => ?_)
  · have hq := hq.1 hc
    refine lv_aload_n hx hb dX9_readText_385 rfl (lv_at hl 1 rfl) ?_
    refine kg_X9_scriptSize C0 hK hP (kv_s (by decide) (by decide)) kq_957 dX9_readText_386 ?_
    exact kr_iret C0 hK hP hS hq dX9_readText_389
  · have hq := hq.2 hc
    refine lv_bipush (v := -9) hx hb dX9_readText_380 (by decide) ?_
    refine lv_goto (tgt := 389) hx hb dX9_readText_382 (by decide) ?_
    exact kr_iret C0 hK hP hS hq dX9_readText_389
set_option maxHeartbeats 4000000 in
set_option maxRecDepth 100000 in
theorem kb_X9_readText_18 {p : Program} {l : Launch} {e : Env} {s : State} {m : MethodId} {args : Array Value} {below : List Frame} {meth : Method} {c : Code} {G : ka_G} (hI : ka_I G) (C0 : ka_C p s m args meth c cX9_readText 10 "GlossRowsModel" (some .int)) (hK : ka_Kn G s) {Q : Int32 → ka_S → Prop} : ∀ (n : Nat) (σ : ka_S) (v1 : Int32) (v2 : Int32) (v3 : Int32) (v4 : Int32), kw_X9_readText_18 Q n σ v1 v2 v3 v4 → ∀ (H : Heap) (locs : List Loc), ka_P G σ H → va_S (ka_A G) s.heap H locs → ∀ ls : Array Slot, lv_has ls 10 [(0, .ref (ka_a G (25, 0, 0))), (1, .int v1), (2, .int v2), (3, .int v3), (4, .int v4)] → W p l e rm_X9_readText s m args below meth c H locs 0 0 (MQ below (va_Qi Q (ka_B G) (ka_A G)) args s 0 0 (ka_A G)) (F0 m 18 ls []) := by
  obtain ⟨hx, hb, -, hml, hown, hts, -⟩ := id C0
  intro n
  induction n with
  | zero =>
    intro σ v1 v2 v3 v4 hq
    rw [kw_X9_readText_18] at hq
    exact hq.elim
  | succ n ih =>
    intro σ v1 v2 v3 v4 hq H locs hP hS ls hl
    rw [kw_X9_readText_18] at hq
    refine lv_iload hx hb dX9_readText_18 (lv_at hl 4 rfl) ?_
    refine lv_aload_n hx hb dX9_readText_20 rfl (lv_at hl 0 rfl) ?_
    refine kg_X9_scriptSize C0 hK hP (kv_s (by decide) (by decide)) kq_957 dX9_readText_21 ?_
    refine lv_icmp_ge (tgt := 330) hx hb dX9_readText_24 (by decide) (fun hc => ?_) (fun hc => ?_)
    · have hq := hq.1 hc
      refine lv_iload_n hx hb dX9_readText_330 rfl (lv_at hl 1 rfl) ?_
      refine lv_if_eq (tgt := 364) hx hb dX9_readText_331 (by decide) (fun hc => ?_) (fun hc => ?_)
      · have hq := hq.1 hc
        refine lv_iload_n hx hb dX9_readText_364 rfl (lv_at hl 3 rfl) ?_
        refine lv_if_le (tgt := 372) hx hb dX9_readText_365 (by decide) (fun hc => ?_) (fun hc => ?_)
        · have hq := hq.1 hc
          refine lv_iconst (v := 0) hx hb dX9_readText_372 (by decide) ?_
          exact kb_X9_readText_373 hI C0 hK σ (0 : Int32) hq H locs hP hS ls (lv_sub hl [0] rfl)
        · have hq := hq.2 hc
          refine lv_iconst (v := 1) hx hb dX9_readText_368 (by decide) ?_
          refine lv_goto (tgt := 373) hx hb dX9_readText_369 (by decide) ?_
          exact kb_X9_readText_373 hI C0 hK σ (1 : Int32) hq H locs hP hS ls (lv_sub hl [0] rfl)
      · have hq := hq.2 hc
        refine lv_iload_n hx hb dX9_readText_334 rfl (lv_at hl 2 rfl) ?_
        refine lv_i2l hx hb dX9_readText_335 rfl ?_
        refine lv_aload_n hx hb dX9_readText_336 rfl (lv_at hl 0 rfl) ?_
        refine kg_X9_read C0 hK hP (kv_s (by decide) (by decide)) kq_959 dX9_readText_337 ?_
        refine lv_bipush (v := 18) hx hb dX9_readText_340 (by decide) ?_
        refine lv_aload_n hx hb dX9_readText_342 rfl (lv_at hl 0 rfl) ?_
        refine kg_X9_readMany C0 hK hP (kv_s (by decide) (by decide)) kq_958 dX9_readText_343 ?_
        refine lv_iconst (v := 1) hx hb dX9_readText_346 (by decide) ?_
        refine lv_isub hx hb dX9_readText_347 ?_
        refine lv_imul hx hb dX9_readText_348 ?_
        obtain ⟨b4, hq⟩ := hq
        refine kr_lald C0 hK hP (kv_s (by decide) (by decide)) rfl b4 dX9_readText_349 ?_
        refine lv_lconst (v := 1) hx hb dX9_readText_350 (by decide) ?_
        refine lv_lsub hx hb dX9_readText_351 ?_
        refine kr_cne (tgt := 360) C0 dX9_readText_352 dX9_readText_353 (by decide) (fun hc => ?_) (fun hc => ?_)
        · have hq := hq.2 hc
          refine lv_iconst (v := 0) hx hb dX9_readText_360 (by decide) ?_
          refine lv_goto (tgt := 373) hx hb dX9_readText_361 (by decide) ?_
          exact kb_X9_readText_373 hI C0 hK σ (0 : Int32) hq H locs hP hS ls (lv_sub hl [0] rfl)
        · have hq := hq.1 hc
          refine lv_iconst (v := 1) hx hb dX9_readText_356 (by decide) ?_
          refine lv_goto (tgt := 373) hx hb dX9_readText_357 (by decide) ?_
          exact kb_X9_readText_373 hI C0 hK σ (1 : Int32) hq H locs hP hS ls (lv_sub hl [0] rfl)
    · have hq := hq.2 hc
      refine lv_aload_n hx hb dX9_readText_27 rfl (lv_at hl 0 rfl) ?_
      refine kg_X9_script C0 hK hP (kv_s (by decide) (by decide)) kq_956 dX9_readText_28 ?_
      refine lv_iload hx hb dX9_readText_31 (lv_at hl 4 rfl) ?_
      obtain ⟨b5, hq⟩ := hq
      refine kr_iald C0 hK hP (kv_s (by decide) (by decide)) rfl b5 dX9_readText_33 ?_
      refine lv_topi (fun x6 ex6 => ?_)
      have hq := hq x6 ex6
      refine lv_istore (lv' := [(5, .int x6), (0, .ref (ka_a G (25, 0, 0))), (1, .int v1), (2, .int v2), (3, .int v3), (4, .int v4)]) hx hb dX9_readText_34 hl (by decide) rfl (fun ls hl => ?_)
      refine lv_bipush (v := 18) hx hb dX9_readText_36 (by decide) ?_
      refine lv_aload_n hx hb dX9_readText_38 rfl (lv_at hl 1 rfl) ?_
      refine kg_X9_readMany C0 hK hP (kv_s (by decide) (by decide)) kq_958 dX9_readText_39 ?_
      refine lv_iconst (v := 1) hx hb dX9_readText_42 (by decide) ?_
      refine lv_isub hx hb dX9_readText_43 ?_
      refine lv_imul hx hb dX9_readText_44 ?_
      refine lv_topi (fun x7 ex7 => ?_)
      have hq := hq x7 ex7
      refine lv_istore (lv' := [(6, .int x7), (5, .int x6), (0, .ref (ka_a G (25, 0, 0))), (1, .int v1), (2, .int v2), (3, .int v3), (4, .int v4)]) hx hb dX9_readText_45 hl (by decide) rfl (fun ls hl => ?_)
      refine lv_aload_n hx hb dX9_readText_47 rfl (lv_at hl 2 rfl) ?_
      refine kg_X9_read C0 hK hP (kv_s (by decide) (by decide)) kq_959 dX9_readText_48 ?_
      refine lv_iload hx hb dX9_readText_51 (lv_at hl 0 rfl) ?_
      obtain ⟨b8, hq⟩ := hq
      refine kr_lald C0 hK hP (kv_s (by decide) (by decide)) rfl b8 dX9_readText_53 ?_
      refine lv_l2i hx hb dX9_readText_54 rfl ?_
      refine lv_topi (fun x9 ex9 => ?_)
      have hq := hq x9 ex9
      refine lv_istore (lv' := [(7, .int x9), (6, .int x7), (5, .int x6), (0, .ref (ka_a G (25, 0, 0))), (1, .int v1), (2, .int v2), (3, .int v3), (4, .int v4)]) hx hb dX9_readText_55 hl (by decide) rfl (fun ls hl => ?_)
      refine lv_iload_n hx hb dX9_readText_57 rfl (lv_at hl 4 rfl) ?_
      refine lv_if_eq (tgt := 77) hx hb dX9_readText_58 (by decide) (fun hc => ?_) (fun hc => ?_)
      · have hq := hq.1 hc
        refine lv_iload_n hx hb dX9_readText_77 rfl (lv_at hl 6 rfl) ?_
        refine lv_if_le (tgt := 85) hx hb dX9_readText_78 (by decide) (fun hc => ?_) (fun hc => ?_)
        · have hq := hq.1 hc
          refine lv_iconst (v := 0) hx hb dX9_readText_85 (by decide) ?_
          exact kb_X9_readText_86 hI C0 hK ih σ v1 v2 v3 v4 x6 x7 (0 : Int32) hq H locs hP hS ls (lv_sub hl [3, 4, 5, 6, 7, 2, 1] rfl)
        · have hq := hq.2 hc
          refine lv_iconst (v := 1) hx hb dX9_readText_81 (by decide) ?_
          refine lv_goto (tgt := 86) hx hb dX9_readText_82 (by decide) ?_
          exact kb_X9_readText_86 hI C0 hK ih σ v1 v2 v3 v4 x6 x7 (1 : Int32) hq H locs hP hS ls (lv_sub hl [3, 4, 5, 6, 7, 2, 1] rfl)
      · have hq := hq.2 hc
        refine lv_iload_n hx hb dX9_readText_61 rfl (lv_at hl 5 rfl) ?_
        refine lv_iload hx hb dX9_readText_62 (lv_at hl 0 rfl) ?_
        refine lv_iconst (v := 1) hx hb dX9_readText_64 (by decide) ?_
        refine lv_isub hx hb dX9_readText_65 ?_
        refine lv_icmp_ne (tgt := 73) hx hb dX9_readText_66 (by decide) (fun hc => ?_) (fun hc => ?_)
        · have hq := hq.2 hc
          refine lv_iconst (v := 0) hx hb dX9_readText_73 (by decide) ?_
          refine lv_goto (tgt := 86) hx hb dX9_readText_74 (by decide) ?_
          exact kb_X9_readText_86 hI C0 hK ih σ v1 v2 v3 v4 x6 x7 (0 : Int32) hq H locs hP hS ls (lv_sub hl [3, 4, 5, 6, 7, 2, 1] rfl)
        · have hq := hq.1 hc
          refine lv_iconst (v := 1) hx hb dX9_readText_69 (by decide) ?_
          refine lv_goto (tgt := 86) hx hb dX9_readText_70 (by decide) ?_
          exact kb_X9_readText_86 hI C0 hK ih σ v1 v2 v3 v4 x6 x7 (1 : Int32) hq H locs hP hS ls (lv_sub hl [3, 4, 5, 6, 7, 2, 1] rfl)
set_option maxHeartbeats 4000000 in
set_option maxRecDepth 100000 in
theorem km_X9_readText (l : Launch) {G : ka_G} (hI : ka_I G) {σ : ka_S} {Q : Int32 → ka_S → Prop} (hq : kw_X9_readText σ Q) : kc_i l yX9_readText (kw_ yX9_readText cX9_readText 10 (some .int)) rm_X9_readText G [.ref (ka_a G (25, 0, 0))] σ Q := by
  refine ka_of "GlossRowsModel" rfl (by decide) (Nat.le_of_ble_eq_true rfl) ?_
  intro p e s m below meth c C0 hK H locs hP hS ls hl
  obtain ⟨hx, hb, -, hml, hown, hts, -⟩ := id C0
  have hl : lv_has ls 10 [(0, .ref (ka_a G (25, 0, 0)))] := hl
  unfold kw_X9_readText at hq
  refine lv_aload_n hx hb dX9_readText_0 rfl (lv_at hl 0 rfl) ?_
  refine lv_iconst (v := 0) hx hb dX9_readText_1 (by decide) ?_
  refine kp_X9_readMany C0 hK hI hP hS (kv_s (by decide) (by decide)) kq_958 dX9_readText_2 (fun H locs hP hS => ?_)
  obtain ⟨σ1, eσ1⟩ : ∃ z : ka_S, z = ka_wI σ (25, 0, 0) 3 (0 : Int32) := ⟨_, rfl⟩
  rw [← eσ1] at hP
  have hq := hq σ1 eσ1
  refine lv_aload_n hx hb dX9_readText_5 rfl (lv_at hl 0 rfl) ?_
  refine kr_Vv (k := (25, 0, 0)) (As := []) (rest := []) C0 hK hP hS hl (km_X9_begin l hI hq) kd_X9_begin kq_1050 (kv_s (by decide) (by decide)) rfl rfl rfl ⟨rfl, rfl, Nat.le_of_ble_eq_true rfl, Nat.le_of_ble_eq_true rfl⟩ rfl (Nat.le_of_ble_eq_true rfl) dX9_readText_6 ⟨Nat.zero_le _, Nat.zero_le _⟩ (fun σ2 H locs hq hP hS => ?_)
  refine lv_iconst (v := 0) hx hb dX9_readText_9 (by decide) ?_
  refine lv_istore_n (lv' := [(1, .int (0 : Int32)), (0, .ref (ka_a G (25, 0, 0)))]) hx hb dX9_readText_10 rfl hl (by decide) rfl (fun ls hl => ?_)
  refine lv_iconst (v := 0) hx hb dX9_readText_11 (by decide) ?_
  refine lv_istore_n (lv' := [(2, .int (0 : Int32)), (1, .int (0 : Int32)), (0, .ref (ka_a G (25, 0, 0)))]) hx hb dX9_readText_12 rfl hl (by decide) rfl (fun ls hl => ?_)
  refine lv_iconst (v := 0) hx hb dX9_readText_13 (by decide) ?_
  refine lv_istore_n (lv' := [(3, .int (0 : Int32)), (2, .int (0 : Int32)), (1, .int (0 : Int32)), (0, .ref (ka_a G (25, 0, 0)))]) hx hb dX9_readText_14 rfl hl (by decide) rfl (fun ls hl => ?_)
  refine lv_iconst (v := 0) hx hb dX9_readText_15 (by decide) ?_
  refine lv_istore (lv' := [(4, .int (0 : Int32)), (3, .int (0 : Int32)), (2, .int (0 : Int32)), (1, .int (0 : Int32)), (0, .ref (ka_a G (25, 0, 0)))]) hx hb dX9_readText_16 hl (by decide) rfl (fun ls hl => ?_)
  obtain ⟨n3, hq⟩ := hq
  exact kb_X9_readText_18 hI C0 hK n3 σ2 (0 : Int32) (0 : Int32) (0 : Int32) (0 : Int32) hq H locs hP hS ls (lv_sub hl [4, 3, 2, 1, 0] rfl)
/-! GlossRowsModel.errorPosition()I -/
def rm_X9_errorPosition : Room := { frames := 4, cells := 0, slots := 0, locals := 94 }
def kw_X9_errorPosition (σ : ka_S) (Q : Int32 → ka_S → Prop) : Prop := ∀ σ1 : ka_S, σ1 = ka_wI σ (25, 0, 0) 0 (0 : Int32) →
  kw_X9_readText σ1 (fun r3 σ2 => 
  Q r3 σ2)
set_option maxHeartbeats 4000000 in
set_option maxRecDepth 100000 in
theorem km_X9_errorPosition (l : Launch) {G : ka_G} (hI : ka_I G) {σ : ka_S} {Q : Int32 → ka_S → Prop} (hq : kw_X9_errorPosition σ Q) : kc_i l yX9_errorPosition (kw_ yX9_errorPosition cX9_errorPosition 1 (some .int)) rm_X9_errorPosition G [.ref (ka_a G (25, 0, 0))] σ Q := by
  refine ka_of "GlossRowsModel" rfl (by decide) (Nat.le_of_ble_eq_true rfl) ?_
  intro p e s m below meth c C0 hK H locs hP hS ls hl
  obtain ⟨hx, hb, -, hml, hown, hts, -⟩ := id C0
  have hl : lv_has ls 1 [(0, .ref (ka_a G (25, 0, 0)))] := hl
  unfold kw_X9_errorPosition at hq
  refine lv_aload_n hx hb dX9_errorPosition_0 rfl (lv_at hl 0 rfl) ?_
  refine lv_iconst (v := 0) hx hb dX9_errorPosition_1 (by decide) ?_
  refine kp_X9_refusal C0 hK hI hP hS (kv_s (by decide) (by decide)) kq_955 dX9_errorPosition_2 (fun H locs hP hS => ?_)
  obtain ⟨σ1, eσ1⟩ : ∃ z : ka_S, z = ka_wI σ (25, 0, 0) 0 (0 : Int32) := ⟨_, rfl⟩
  rw [← eσ1] at hP
  have hq := hq σ1 eσ1
  refine lv_aload_n hx hb dX9_errorPosition_5 rfl (lv_at hl 0 rfl) ?_
  refine kr_Vi (k := (25, 0, 0)) (As := []) (rest := []) C0 hK hP hS hl (km_X9_readText l hI hq) kd_X9_readText kq_1046 (kv_s (by decide) (by decide)) rfl rfl rfl ⟨rfl, rfl, Nat.le_of_ble_eq_true rfl, Nat.le_of_ble_eq_true rfl⟩ rfl (Nat.le_of_ble_eq_true rfl) dX9_errorPosition_6 ⟨Nat.zero_le _, Nat.zero_le _⟩ (fun r3 σ2 H locs hq hP hS => ?_)
  exact kr_iret C0 hK hP hS hq dX9_errorPosition_9
/-! GlossRowsModel.load()I -/
def rm_X9_load : Room := { frames := 4, cells := 0, slots := 0, locals := 94 }
def kw_X9_load_15 (Q : Int32 → ka_S → Prop) (σ : ka_S) (t1 : Int32) : Prop := kw_X9_refused σ t1 (fun r4 σ3 => 
  (r4 = (0 : Int32) → kw_X9_clean σ3 (37, 0, 0) (fun σ5 => 
    kw_X9_insertOn σ5 (37, 0, 0) (0 : Int32) (fun σ6 => 
    ∀ σ7 : ka_S, σ7 = ka_wI σ6 (25, 0, 0) 8 (0 : Int32) →
    vp_in (0 : Int32) 2 ∧
    ∀ σ9 : ka_S, σ9 = ka_wI σ7 (35, 0, 0) (0 : Int32).toNatClampNeg (0 : Int32) →
    vp_in (1 : Int32) 2 ∧
    ∀ σ11 : ka_S, σ11 = ka_wI σ9 (35, 0, 0) (1 : Int32).toNatClampNeg (0 : Int32) →
    kw_X9_many σ11 (37, 0, 0) (fun r13 σ12 => 
    Q r13 σ12)))) ∧
  (¬ r4 = (0 : Int32) → Q (0 : Int32) σ3))
def kw_X9_load (σ : ka_S) (Q : Int32 → ka_S → Prop) : Prop := kw_X9_readText σ (fun r2 σ1 => 
  (r2 = (-9 : Int32) → kw_X9_load_15 Q σ1 (0 : Int32)) ∧
  (¬ r2 = (-9 : Int32) → kw_X9_load_15 Q σ1 (1 : Int32)))
set_option maxHeartbeats 4000000 in
set_option maxRecDepth 100000 in
theorem kb_X9_load_15 {p : Program} {l : Launch} {e : Env} {s : State} {m : MethodId} {args : Array Value} {below : List Frame} {meth : Method} {c : Code} {G : ka_G} (hI : ka_I G) (C0 : ka_C p s m args meth c cX9_load 1 "GlossRowsModel" (some .int)) (hK : ka_Kn G s) {Q : Int32 → ka_S → Prop} : ∀ (σ : ka_S) (t1 : Int32), kw_X9_load_15 Q σ t1 → ∀ (H : Heap) (locs : List Loc), ka_P G σ H → va_S (ka_A G) s.heap H locs → ∀ ls : Array Slot, lv_has ls 1 [(0, .ref (ka_a G (25, 0, 0)))] → W p l e rm_X9_load s m args below meth c H locs 0 0 (MQ below (va_Qi Q (ka_B G) (ka_A G)) args s 0 0 (ka_A G)) (F0 m 15 ls [.int t1, .ref (ka_a G (25, 0, 0))]) := by
  obtain ⟨hx, hb, -, hml, hown, hts, -⟩ := id C0
  intro σ t1 hq H locs hP hS ls hl
  unfold kw_X9_load_15 at hq
  refine kr_Vi (k := (25, 0, 0)) (As := [.int t1]) (rest := []) C0 hK hP hS hl (km_X9_refused l hI hq) kd_X9_refused kq_1034 (kv_s (by decide) (by decide)) rfl rfl rfl ⟨rfl, rfl, Nat.le_of_ble_eq_true rfl, Nat.le_of_ble_eq_true rfl⟩ rfl (Nat.le_of_ble_eq_true rfl) dX9_load_15 ⟨Nat.zero_le _, Nat.zero_le _⟩ (fun r4 σ3 H locs hq hP hS => ?_)
  refine lv_if_eq (tgt := 23) hx hb dX9_load_18 (by decide) (fun hc => ?_) (fun hc => ?_)
  · have hq := hq.1 hc
    refine lv_aload_n hx hb dX9_load_23 rfl (lv_at hl 0 rfl) ?_
    refine kg_X9_now C0 hK hP (kv_s (by decide) (by decide)) kq_960 dX9_load_24 ?_
    refine kr_Sv (As := [.ref (ka_a G (37, 0, 0))]) (rest := []) C0 hK hP hS hl (km_X9_clean l hI kl_37 hq) kd_X9_clean kq_950 ⟨rfl, rfl, Nat.le_of_ble_eq_true rfl, Nat.le_of_ble_eq_true rfl⟩ rfl (Nat.le_of_ble_eq_true rfl) dX9_load_27 ⟨Nat.zero_le _, Nat.zero_le _⟩ (fun σ5 H locs hq hP hS => ?_)
    refine lv_aload_n hx hb dX9_load_30 rfl (lv_at hl 0 rfl) ?_
    refine lv_aload_n hx hb dX9_load_31 rfl (lv_at hl 0 rfl) ?_
    refine kg_X9_now C0 hK hP (kv_s (by decide) (by decide)) kq_960 dX9_load_32 ?_
    refine lv_iconst (v := 0) hx hb dX9_load_35 (by decide) ?_
    refine kr_Vv (k := (25, 0, 0)) (As := [.ref (ka_a G (37, 0, 0)), .int (0 : Int32)]) (rest := []) C0 hK hP hS hl (km_X9_insertOn l hI kl_37 hq) kd_X9_insertOn kq_1073 (kv_s (by decide) (by decide)) rfl rfl rfl ⟨rfl, rfl, Nat.le_of_ble_eq_true rfl, Nat.le_of_ble_eq_true rfl⟩ rfl (Nat.le_of_ble_eq_true rfl) dX9_load_36 ⟨Nat.zero_le _, Nat.zero_le _⟩ (fun σ6 H locs hq hP hS => ?_)
    refine lv_aload_n hx hb dX9_load_39 rfl (lv_at hl 0 rfl) ?_
    refine lv_iconst (v := 0) hx hb dX9_load_40 (by decide) ?_
    refine kp_X9_acts C0 hK hI hP hS (kv_s (by decide) (by decide)) kq_963 dX9_load_41 (fun H locs hP hS => ?_)
    obtain ⟨σ7, eσ7⟩ : ∃ z : ka_S, z = ka_wI σ6 (25, 0, 0) 8 (0 : Int32) := ⟨_, rfl⟩
    rw [← eσ7] at hP
    have hq := hq σ7 eσ7
    refine lv_aload_n hx hb dX9_load_44 rfl (lv_at hl 0 rfl) ?_
    refine kg_X9_isKept C0 hK hP (kv_s (by decide) (by decide)) kq_965 dX9_load_45 ?_
    refine lv_iconst (v := 0) hx hb dX9_load_48 (by decide) ?_
    refine lv_iconst (v := 0) hx hb dX9_load_49 (by decide) ?_
    obtain ⟨b8, hq⟩ := hq
    refine kr_zast C0 hK hI hP hS (kv_s (by decide) (by decide)) (fun _ => rfl) b8 rfl dX9_load_50 (fun H locs hP hS => ?_)
    obtain ⟨σ9, eσ9⟩ : ∃ z : ka_S, z = ka_wI σ7 (35, 0, 0) (0 : Int32).toNatClampNeg (0 : Int32) := ⟨_, rfl⟩
    rw [← eσ9] at hP
    have hq := hq σ9 eσ9
    refine lv_aload_n hx hb dX9_load_51 rfl (lv_at hl 0 rfl) ?_
    refine kg_X9_isKept C0 hK hP (kv_s (by decide) (by decide)) kq_965 dX9_load_52 ?_
    refine lv_iconst (v := 1) hx hb dX9_load_55 (by decide) ?_
    refine lv_iconst (v := 0) hx hb dX9_load_56 (by decide) ?_
    obtain ⟨b10, hq⟩ := hq
    refine kr_zast C0 hK hI hP hS (kv_s (by decide) (by decide)) (fun _ => rfl) b10 rfl dX9_load_57 (fun H locs hP hS => ?_)
    obtain ⟨σ11, eσ11⟩ : ∃ z : ka_S, z = ka_wI σ9 (35, 0, 0) (1 : Int32).toNatClampNeg (0 : Int32) := ⟨_, rfl⟩
    rw [← eσ11] at hP
    have hq := hq σ11 eσ11
    refine lv_aload_n hx hb dX9_load_58 rfl (lv_at hl 0 rfl) ?_
    refine kg_X9_now C0 hK hP (kv_s (by decide) (by decide)) kq_960 dX9_load_59 ?_
    refine kr_Si (As := [.ref (ka_a G (37, 0, 0))]) (rest := []) C0 hK hP hS hl (km_X9_many l hI kl_37 hq) kd_X9_many kq_1077 ⟨rfl, rfl, Nat.le_of_ble_eq_true rfl, Nat.le_of_ble_eq_true rfl⟩ rfl (Nat.le_of_ble_eq_true rfl) dX9_load_62 ⟨Nat.zero_le _, Nat.zero_le _⟩ (fun r13 σ12 H locs hq hP hS => ?_)
    exact kr_iret C0 hK hP hS hq dX9_load_65
  · have hq := hq.2 hc
    refine lv_iconst (v := 0) hx hb dX9_load_21 (by decide) ?_
    exact kr_iret C0 hK hP hS hq dX9_load_22
set_option maxHeartbeats 4000000 in
set_option maxRecDepth 100000 in
theorem km_X9_load (l : Launch) {G : ka_G} (hI : ka_I G) {σ : ka_S} {Q : Int32 → ka_S → Prop} (hq : kw_X9_load σ Q) : kc_i l yX9_load (kw_ yX9_load cX9_load 1 (some .int)) rm_X9_load G [.ref (ka_a G (25, 0, 0))] σ Q := by
  refine ka_of "GlossRowsModel" rfl (by decide) (Nat.le_of_ble_eq_true rfl) ?_
  intro p e s m below meth c C0 hK H locs hP hS ls hl
  obtain ⟨hx, hb, -, hml, hown, hts, -⟩ := id C0
  have hl : lv_has ls 1 [(0, .ref (ka_a G (25, 0, 0)))] := hl
  unfold kw_X9_load at hq
  refine lv_aload_n hx hb dX9_load_0 rfl (lv_at hl 0 rfl) ?_
  refine lv_aload_n hx hb dX9_load_1 rfl (lv_at hl 0 rfl) ?_
  refine kr_Vi (k := (25, 0, 0)) (As := []) (rest := [.ref (ka_a G (25, 0, 0))]) C0 hK hP hS hl (km_X9_readText l hI hq) kd_X9_readText kq_1046 (kv_s (by decide) (by decide)) rfl rfl rfl ⟨rfl, rfl, Nat.le_of_ble_eq_true rfl, Nat.le_of_ble_eq_true rfl⟩ rfl (Nat.le_of_ble_eq_true rfl) dX9_load_2 ⟨Nat.zero_le _, Nat.zero_le _⟩ (fun r2 σ1 H locs hq hP hS => ?_)
  refine lv_bipush (v := -9) hx hb dX9_load_5 (by decide) ?_
  refine lv_icmp_ne (tgt := 14) hx hb dX9_load_7 (by decide) (fun hc => ?_) (fun hc => ?_)
  · have hq := hq.2 hc
    refine lv_iconst (v := 1) hx hb dX9_load_14 (by decide) ?_
    exact kb_X9_load_15 hI C0 hK σ1 (1 : Int32) hq H locs hP hS ls (lv_sub hl [0] rfl)
  · have hq := hq.1 hc
    refine lv_iconst (v := 0) hx hb dX9_load_10 (by decide) ?_
    refine lv_goto (tgt := 15) hx hb dX9_load_11 (by decide) ?_
    exact kb_X9_load_15 hI C0 hK σ1 (0 : Int32) hq H locs hP hS ls (lv_sub hl [0] rfl)
/-! GlossRowsModel.unlike([J)I -/
def rm_X9_unlike : Room := { frames := 2, cells := 0, slots := 0, locals := 42 }
def kw_X9_unlike_14 (a : ka_K) (K4 : ka_S → Int32 → Int32 → Prop) (Q : Int32 → ka_S → Prop) : Nat → ka_S → Int32 → Int32 → Int32 → Prop
  | 0, _, _, _, _ => False
  | n + 1, σ, v1, v2, v3 => kw_X9_parts σ a v2 (fun r6 σ5 => 
    (r6 ≤ v3 → ∀ x7 : Int32, x7 = v2 + (1 : Int32) →
      K4 σ5 v1 x7) ∧
    (¬ r6 ≤ v3 → kw_X9_partAt σ5 v2 v3 (fun r9 σ8 => 
      vp_in r9 (ka_n a) ∧
      kw_X9_entryOf σ8 a (σ8.2 a r9.toNatClampNeg) (fun r12 σ11 => 
      kw_X9_glossAt σ11 v2 v3 (fun r14 σ13 => 
      vp_in r14 (ka_n a) ∧
      ∀ x16 : Int64, x16 = (σ13.2 a r14.toNatClampNeg) → 
      (r12 < (0 : Int32) → ∀ x17 : Int32, x17 = (v1 + (0 : Int32)) → 
        ∀ x18 : Int32, x18 = v3 + (1 : Int32) →
        (kw_X9_unlike_14 a K4 Q n) σ13 x17 v2 x18) ∧
      (¬ r12 < (0 : Int32) → (x16 = (0 : Int64) → ∀ x19 : Int32, x19 = (v1 + (0 : Int32)) → 
          ∀ x20 : Int32, x20 = v3 + (1 : Int32) →
          (kw_X9_unlike_14 a K4 Q n) σ13 x19 v2 x20) ∧
        (¬ x16 = (0 : Int64) → vp_in (((221 : Int32) + ((2 : Int32) * r12)) + (1 : Int32)) (ka_n a) ∧
          (x16 = (σ13.2 a (((221 : Int32) + ((2 : Int32) * r12)) + (1 : Int32)).toNatClampNeg) → ∀ x22 : Int32, x22 = (v1 + (0 : Int32)) → 
            ∀ x23 : Int32, x23 = v3 + (1 : Int32) →
            (kw_X9_unlike_14 a K4 Q n) σ13 x22 v2 x23) ∧
          (¬ x16 = (σ13.2 a (((221 : Int32) + ((2 : Int32) * r12)) + (1 : Int32)).toNatClampNeg) → ∀ x24 : Int32, x24 = (v1 + (1 : Int32)) → 
            ∀ x25 : Int32, x25 = v3 + (1 : Int32) →
            (kw_X9_unlike_14 a K4 Q n) σ13 x24 v2 x25))))))))
def kw_X9_unlike_4 (a : ka_K) (Q : Int32 → ka_S → Prop) : Nat → ka_S → Int32 → Int32 → Prop
  | 0, _, _, _ => False
  | n + 1, σ, v1, v2 => kw_X9_many σ a (fun r3 σ2 => 
    (r3 ≤ v2 → Q v1 σ2) ∧
    (¬ r3 ≤ v2 → ∃ n4 : Nat, kw_X9_unlike_14 a (kw_X9_unlike_4 a Q n) Q n4 σ2 v1 v2 (0 : Int32)))
def kw_X9_unlike (σ : ka_S) (a : ka_K) (Q : Int32 → ka_S → Prop) : Prop := ∃ n1 : Nat, kw_X9_unlike_4 a Q n1 σ (0 : Int32) (0 : Int32)
set_option maxHeartbeats 4000000 in
set_option maxRecDepth 100000 in
theorem kb_X9_unlike_14 {p : Program} {l : Launch} {e : Env} {s : State} {m : MethodId} {args : Array Value} {below : List Frame} {meth : Method} {c : Code} {G : ka_G} (hI : ka_I G) {a : ka_K} (ha : ka_L a) (C0 : ka_C p s m args meth c cX9_unlike 7 "GlossRowsModel" (some .int)) (hK : ka_Kn G s) {Q : Int32 → ka_S → Prop} {K4 : ka_S → Int32 → Int32 → Prop} (hk4 : ∀ (σ : ka_S) (v1 : Int32) (v2 : Int32), K4 σ v1 v2 → ∀ (H : Heap) (locs : List Loc), ka_P G σ H → va_S (ka_A G) s.heap H locs → ∀ ls : Array Slot, lv_has ls 7 [(0, .ref (ka_a G a)), (1, .int v1), (2, .int v2)] → W p l e rm_X9_unlike s m args below meth c H locs 0 0 (MQ below (va_Qi Q (ka_B G) (ka_A G)) args s 0 0 (ka_A G)) (F0 m 4 ls [])) : ∀ (n : Nat) (σ : ka_S) (v1 : Int32) (v2 : Int32) (v3 : Int32), kw_X9_unlike_14 a K4 Q n σ v1 v2 v3 → ∀ (H : Heap) (locs : List Loc), ka_P G σ H → va_S (ka_A G) s.heap H locs → ∀ ls : Array Slot, lv_has ls 7 [(0, .ref (ka_a G a)), (1, .int v1), (2, .int v2), (3, .int v3)] → W p l e rm_X9_unlike s m args below meth c H locs 0 0 (MQ below (va_Qi Q (ka_B G) (ka_A G)) args s 0 0 (ka_A G)) (F0 m 14 ls []) := by
  obtain ⟨hx, hb, -, hml, hown, hts, -⟩ := id C0
  intro n
  induction n with
  | zero =>
    intro σ v1 v2 v3 hq
    rw [kw_X9_unlike_14] at hq
    exact hq.elim
  | succ n ih =>
    intro σ v1 v2 v3 hq H locs hP hS ls hl
    rw [kw_X9_unlike_14] at hq
    refine lv_iload_n hx hb dX9_unlike_14 rfl (lv_at hl 3 rfl) ?_
    refine lv_aload_n hx hb dX9_unlike_15 rfl (lv_at hl 0 rfl) ?_
    refine lv_iload_n hx hb dX9_unlike_16 rfl (lv_at hl 2 rfl) ?_
    refine kr_Si (As := [.ref (ka_a G a), .int v2]) (rest := [.int v3]) C0 hK hP hS hl (km_X9_parts l hI ha hq) kd_X9_parts kq_1099 ⟨rfl, rfl, Nat.le_of_ble_eq_true rfl, Nat.le_of_ble_eq_true rfl⟩ rfl (Nat.le_of_ble_eq_true rfl) dX9_unlike_17 ⟨Nat.zero_le _, Nat.zero_le _⟩ (fun r6 σ5 H locs hq hP hS => ?_)
    refine lv_icmp_ge (tgt := 89) hx hb dX9_unlike_20 (by decide) (fun hc => ?_) (fun hc => ?_)
    · have hq := hq.1 hc
      obtain ⟨x7, ex7⟩ : ∃ y : Int32, y = v2 + (1 : Int32) := ⟨_, rfl⟩
      have hq := hq x7 ex7
      refine lv_iinc (v := x7) (lv' := [(2, .int x7), (0, .ref (ka_a G a)), (1, .int v1), (3, .int v3)]) hx hb dX9_unlike_89 hl (k := 2) rfl (by rw [ex7]; rfl) (by decide) rfl (fun ls hl => ?_)
      refine lv_goto (tgt := 4) hx hb dX9_unlike_92 (by decide) ?_
      exact hk4 σ5 v1 x7 hq H locs hP hS ls (lv_sub hl [1, 2, 0] rfl)
    · have hq := hq.2 hc
      refine lv_aload_n hx hb dX9_unlike_23 rfl (lv_at hl 0 rfl) ?_
      refine lv_aload_n hx hb dX9_unlike_24 rfl (lv_at hl 0 rfl) ?_
      refine lv_iload_n hx hb dX9_unlike_25 rfl (lv_at hl 2 rfl) ?_
      refine lv_iload_n hx hb dX9_unlike_26 rfl (lv_at hl 3 rfl) ?_
      refine kr_Si (As := [.int v2, .int v3]) (rest := [.ref (ka_a G a), .ref (ka_a G a)]) C0 hK hP hS hl (km_X9_partAt l hI hq) kd_X9_partAt kq_1105 ⟨rfl, rfl, Nat.le_of_ble_eq_true rfl, Nat.le_of_ble_eq_true rfl⟩ rfl (Nat.le_of_ble_eq_true rfl) dX9_unlike_27 ⟨Nat.zero_le _, Nat.zero_le _⟩ (fun r9 σ8 H locs hq hP hS => ?_)
      obtain ⟨b10, hq⟩ := hq
      refine kr_lald C0 hK hP ha.1 (ha.2 G _) b10 dX9_unlike_30 ?_
      refine kr_Si (As := [.ref (ka_a G a), .long (σ8.2 a r9.toNatClampNeg)]) (rest := []) C0 hK hP hS hl (km_X9_entryOf l hI ha hq) kd_X9_entryOf kq_1131 ⟨rfl, rfl, Nat.le_of_ble_eq_true rfl, Nat.le_of_ble_eq_true rfl⟩ rfl (Nat.le_of_ble_eq_true rfl) dX9_unlike_31 ⟨Nat.zero_le _, Nat.zero_le _⟩ (fun r12 σ11 H locs hq hP hS => ?_)
      refine lv_istore (lv' := [(4, .int r12), (0, .ref (ka_a G a)), (1, .int v1), (2, .int v2), (3, .int v3)]) hx hb dX9_unlike_34 hl (by decide) rfl (fun ls hl => ?_)
      refine lv_aload_n hx hb dX9_unlike_36 rfl (lv_at hl 1 rfl) ?_
      refine lv_iload_n hx hb dX9_unlike_37 rfl (lv_at hl 3 rfl) ?_
      refine lv_iload_n hx hb dX9_unlike_38 rfl (lv_at hl 4 rfl) ?_
      refine kr_Si (As := [.int v2, .int v3]) (rest := [.ref (ka_a G a)]) C0 hK hP hS hl (km_X9_glossAt l hI hq) kd_X9_glossAt kq_1115 ⟨rfl, rfl, Nat.le_of_ble_eq_true rfl, Nat.le_of_ble_eq_true rfl⟩ rfl (Nat.le_of_ble_eq_true rfl) dX9_unlike_39 ⟨Nat.zero_le _, Nat.zero_le _⟩ (fun r14 σ13 H locs hq hP hS => ?_)
      obtain ⟨b15, hq⟩ := hq
      refine kr_lald C0 hK hP ha.1 (ha.2 G _) b15 dX9_unlike_42 ?_
      refine lv_topl (fun x16 ex16 => ?_)
      have hq := hq x16 ex16
      refine lv_lstore (lv' := [(5, .long x16), (4, .int r12), (0, .ref (ka_a G a)), (1, .int v1), (2, .int v2), (3, .int v3)]) hx hb dX9_unlike_43 hl (by decide) rfl (fun ls hl => ?_)
      refine lv_iload_n hx hb dX9_unlike_45 rfl (lv_at hl 3 rfl) ?_
      refine lv_iload hx hb dX9_unlike_46 (lv_at hl 1 rfl) ?_
      refine lv_if_lt (tgt := 80) hx hb dX9_unlike_48 (by decide) (fun hc => ?_) (fun hc => ?_)
      · have hq := hq.1 hc
        refine lv_iconst (v := 0) hx hb dX9_unlike_80 (by decide) ?_
        refine lv_iadd hx hb dX9_unlike_81 ?_
        refine lv_topi (fun x17 ex17 => ?_)
        have hq := hq x17 ex17
        refine lv_istore_n (lv' := [(1, .int x17), (5, .long x16), (4, .int r12), (0, .ref (ka_a G a)), (2, .int v2), (3, .int v3)]) hx hb dX9_unlike_82 rfl hl (by decide) rfl (fun ls hl => ?_)
        obtain ⟨x18, ex18⟩ : ∃ y : Int32, y = v3 + (1 : Int32) := ⟨_, rfl⟩
        have hq := hq x18 ex18
        refine lv_iinc (v := x18) (lv' := [(3, .int x18), (1, .int x17), (5, .long x16), (4, .int r12), (0, .ref (ka_a G a)), (2, .int v2)]) hx hb dX9_unlike_83 hl (k := 5) rfl (by rw [ex18]; rfl) (by decide) rfl (fun ls hl => ?_)
        refine lv_goto (tgt := 14) hx hb dX9_unlike_86 (by decide) ?_
        exact ih σ13 x17 v2 x18 hq H locs hP hS ls (lv_sub hl [4, 1, 5, 0] rfl)
      · have hq := hq.2 hc
        refine lv_lload hx hb dX9_unlike_51 (lv_at hl 0 rfl) ?_
        refine lv_lconst (v := 0) hx hb dX9_unlike_53 (by decide) ?_
        refine kr_ceq (tgt := 80) C0 dX9_unlike_54 dX9_unlike_55 (by decide) (fun hc => ?_) (fun hc => ?_)
        · have hq := hq.1 hc
          refine lv_iconst (v := 0) hx hb dX9_unlike_80 (by decide) ?_
          refine lv_iadd hx hb dX9_unlike_81 ?_
          refine lv_topi (fun x19 ex19 => ?_)
          have hq := hq x19 ex19
          refine lv_istore_n (lv' := [(1, .int x19), (5, .long x16), (4, .int r12), (0, .ref (ka_a G a)), (2, .int v2), (3, .int v3)]) hx hb dX9_unlike_82 rfl hl (by decide) rfl (fun ls hl => ?_)
          obtain ⟨x20, ex20⟩ : ∃ y : Int32, y = v3 + (1 : Int32) := ⟨_, rfl⟩
          have hq := hq x20 ex20
          refine lv_iinc (v := x20) (lv' := [(3, .int x20), (1, .int x19), (5, .long x16), (4, .int r12), (0, .ref (ka_a G a)), (2, .int v2)]) hx hb dX9_unlike_83 hl (k := 5) rfl (by rw [ex20]; rfl) (by decide) rfl (fun ls hl => ?_)
          refine lv_goto (tgt := 14) hx hb dX9_unlike_86 (by decide) ?_
          exact ih σ13 x19 v2 x20 hq H locs hP hS ls (lv_sub hl [4, 1, 5, 0] rfl)
        · have hq := hq.2 hc
          refine lv_lload hx hb dX9_unlike_58 (lv_at hl 0 rfl) ?_
          refine lv_aload_n hx hb dX9_unlike_60 rfl (lv_at hl 2 rfl) ?_
          refine lv_sipush (v := 221) hx hb dX9_unlike_61 (by decide) ?_
          refine lv_iconst (v := 2) hx hb dX9_unlike_64 (by decide) ?_
          refine lv_iload hx hb dX9_unlike_65 (lv_at hl 1 rfl) ?_
          refine lv_imul hx hb dX9_unlike_67 ?_
          refine lv_iadd hx hb dX9_unlike_68 ?_
          refine lv_iconst (v := 1) hx hb dX9_unlike_69 (by decide) ?_
          refine lv_iadd hx hb dX9_unlike_70 ?_
          obtain ⟨b21, hq⟩ := hq
          refine kr_lald C0 hK hP ha.1 (ha.2 G _) b21 dX9_unlike_71 ?_
          refine kr_ceq (tgt := 80) C0 dX9_unlike_72 dX9_unlike_73 (by decide) (fun hc => ?_) (fun hc => ?_)
          · have hq := hq.1 hc
            refine lv_iconst (v := 0) hx hb dX9_unlike_80 (by decide) ?_
            refine lv_iadd hx hb dX9_unlike_81 ?_
            refine lv_topi (fun x22 ex22 => ?_)
            have hq := hq x22 ex22
            refine lv_istore_n (lv' := [(1, .int x22), (5, .long x16), (4, .int r12), (0, .ref (ka_a G a)), (2, .int v2), (3, .int v3)]) hx hb dX9_unlike_82 rfl hl (by decide) rfl (fun ls hl => ?_)
            obtain ⟨x23, ex23⟩ : ∃ y : Int32, y = v3 + (1 : Int32) := ⟨_, rfl⟩
            have hq := hq x23 ex23
            refine lv_iinc (v := x23) (lv' := [(3, .int x23), (1, .int x22), (5, .long x16), (4, .int r12), (0, .ref (ka_a G a)), (2, .int v2)]) hx hb dX9_unlike_83 hl (k := 5) rfl (by rw [ex23]; rfl) (by decide) rfl (fun ls hl => ?_)
            refine lv_goto (tgt := 14) hx hb dX9_unlike_86 (by decide) ?_
            exact ih σ13 x22 v2 x23 hq H locs hP hS ls (lv_sub hl [4, 1, 5, 0] rfl)
          · have hq := hq.2 hc
            refine lv_iconst (v := 1) hx hb dX9_unlike_76 (by decide) ?_
            refine lv_goto (tgt := 81) hx hb dX9_unlike_77 (by decide) ?_
            refine lv_iadd hx hb dX9_unlike_81 ?_
            refine lv_topi (fun x24 ex24 => ?_)
            have hq := hq x24 ex24
            refine lv_istore_n (lv' := [(1, .int x24), (5, .long x16), (4, .int r12), (0, .ref (ka_a G a)), (2, .int v2), (3, .int v3)]) hx hb dX9_unlike_82 rfl hl (by decide) rfl (fun ls hl => ?_)
            obtain ⟨x25, ex25⟩ : ∃ y : Int32, y = v3 + (1 : Int32) := ⟨_, rfl⟩
            have hq := hq x25 ex25
            refine lv_iinc (v := x25) (lv' := [(3, .int x25), (1, .int x24), (5, .long x16), (4, .int r12), (0, .ref (ka_a G a)), (2, .int v2)]) hx hb dX9_unlike_83 hl (k := 5) rfl (by rw [ex25]; rfl) (by decide) rfl (fun ls hl => ?_)
            refine lv_goto (tgt := 14) hx hb dX9_unlike_86 (by decide) ?_
            exact ih σ13 x24 v2 x25 hq H locs hP hS ls (lv_sub hl [4, 1, 5, 0] rfl)
set_option maxHeartbeats 4000000 in
set_option maxRecDepth 100000 in
theorem kb_X9_unlike_4 {p : Program} {l : Launch} {e : Env} {s : State} {m : MethodId} {args : Array Value} {below : List Frame} {meth : Method} {c : Code} {G : ka_G} (hI : ka_I G) {a : ka_K} (ha : ka_L a) (C0 : ka_C p s m args meth c cX9_unlike 7 "GlossRowsModel" (some .int)) (hK : ka_Kn G s) {Q : Int32 → ka_S → Prop} : ∀ (n : Nat) (σ : ka_S) (v1 : Int32) (v2 : Int32), kw_X9_unlike_4 a Q n σ v1 v2 → ∀ (H : Heap) (locs : List Loc), ka_P G σ H → va_S (ka_A G) s.heap H locs → ∀ ls : Array Slot, lv_has ls 7 [(0, .ref (ka_a G a)), (1, .int v1), (2, .int v2)] → W p l e rm_X9_unlike s m args below meth c H locs 0 0 (MQ below (va_Qi Q (ka_B G) (ka_A G)) args s 0 0 (ka_A G)) (F0 m 4 ls []) := by
  obtain ⟨hx, hb, -, hml, hown, hts, -⟩ := id C0
  intro n
  induction n with
  | zero =>
    intro σ v1 v2 hq
    rw [kw_X9_unlike_4] at hq
    exact hq.elim
  | succ n ih =>
    intro σ v1 v2 hq H locs hP hS ls hl
    rw [kw_X9_unlike_4] at hq
    refine lv_iload_n hx hb dX9_unlike_4 rfl (lv_at hl 2 rfl) ?_
    refine lv_aload_n hx hb dX9_unlike_5 rfl (lv_at hl 0 rfl) ?_
    refine kr_Si (As := [.ref (ka_a G a)]) (rest := [.int v2]) C0 hK hP hS hl (km_X9_many l hI ha hq) kd_X9_many kq_1077 ⟨rfl, rfl, Nat.le_of_ble_eq_true rfl, Nat.le_of_ble_eq_true rfl⟩ rfl (Nat.le_of_ble_eq_true rfl) dX9_unlike_6 ⟨Nat.zero_le _, Nat.zero_le _⟩ (fun r3 σ2 H locs hq hP hS => ?_)
    refine lv_icmp_ge (tgt := 95) hx hb dX9_unlike_9 (by decide) (fun hc => ?_) (fun hc => ?_)
    · have hq := hq.1 hc
      refine lv_iload_n hx hb dX9_unlike_95 rfl (lv_at hl 1 rfl) ?_
      exact kr_iret C0 hK hP hS hq dX9_unlike_96
    · have hq := hq.2 hc
      refine lv_iconst (v := 0) hx hb dX9_unlike_12 (by decide) ?_
      refine lv_istore_n (lv' := [(3, .int (0 : Int32)), (0, .ref (ka_a G a)), (1, .int v1), (2, .int v2)]) hx hb dX9_unlike_13 rfl hl (by decide) rfl (fun ls hl => ?_)
      obtain ⟨n4, hq⟩ := hq
      exact kb_X9_unlike_14 hI ha C0 hK ih n4 σ2 v1 v2 (0 : Int32) hq H locs hP hS ls (lv_sub hl [1, 2, 3, 0] rfl)
set_option maxHeartbeats 4000000 in
set_option maxRecDepth 100000 in
theorem km_X9_unlike (l : Launch) {G : ka_G} (hI : ka_I G) {a : ka_K} (ha : ka_L a) {σ : ka_S} {Q : Int32 → ka_S → Prop} (hq : kw_X9_unlike σ a Q) : kc_i l yX9_unlike (kw_ yX9_unlike cX9_unlike 7 (some .int)) rm_X9_unlike G [.ref (ka_a G a)] σ Q := by
  refine ka_of "GlossRowsModel" rfl (by decide) (Nat.le_of_ble_eq_true rfl) ?_
  intro p e s m below meth c C0 hK H locs hP hS ls hl
  obtain ⟨hx, hb, -, hml, hown, hts, -⟩ := id C0
  have hl : lv_has ls 7 [(0, .ref (ka_a G a))] := hl
  unfold kw_X9_unlike at hq
  refine lv_iconst (v := 0) hx hb dX9_unlike_0 (by decide) ?_
  refine lv_istore_n (lv' := [(1, .int (0 : Int32)), (0, .ref (ka_a G a))]) hx hb dX9_unlike_1 rfl hl (by decide) rfl (fun ls hl => ?_)
  refine lv_iconst (v := 0) hx hb dX9_unlike_2 (by decide) ?_
  refine lv_istore_n (lv' := [(2, .int (0 : Int32)), (1, .int (0 : Int32)), (0, .ref (ka_a G a))]) hx hb dX9_unlike_3 rfl hl (by decide) rfl (fun ls hl => ?_)
  obtain ⟨n1, hq⟩ := hq
  exact kb_X9_unlike_4 hI ha C0 hK n1 σ (0 : Int32) (0 : Int32) hq H locs hP hS ls (lv_sub hl [2, 1, 0] rfl)
/-! GlossRowsModel.layNow()V -/
def rm_X9_layNow : Room := { frames := 5, cells := 0, slots := 0, locals := 127 }
def kw_X9_layNow (σ : ka_S) (Q : ka_S → Prop) : Prop := vp_in (2 : Int32) 253 ∧
  vp_in (4 : Int32) 253 ∧
  kw_X9_layOut σ (37, 0, 0) ((σ.2 (37, 0, 0) (2 : Int32).toNatClampNeg).toInt32) ((σ.2 (37, 0, 0) (4 : Int32).toNatClampNeg).toInt32) (fun σ3 => 
  Q σ3)
set_option maxHeartbeats 4000000 in
set_option maxRecDepth 100000 in
theorem km_X9_layNow (l : Launch) {G : ka_G} (hI : ka_I G) {σ : ka_S} {Q : ka_S → Prop} (hq : kw_X9_layNow σ Q) : kc_v l yX9_layNow (kw_ yX9_layNow cX9_layNow 1 none) rm_X9_layNow G [.ref (ka_a G (25, 0, 0))] σ Q := by
  refine ka_of "GlossRowsModel" rfl (by decide) (Nat.le_of_ble_eq_true rfl) ?_
  intro p e s m below meth c C0 hK H locs hP hS ls hl
  obtain ⟨hx, hb, -, hml, hown, hts, -⟩ := id C0
  have hl : lv_has ls 1 [(0, .ref (ka_a G (25, 0, 0)))] := hl
  unfold kw_X9_layNow at hq
  refine lv_aload_n hx hb dX9_layNow_0 rfl (lv_at hl 0 rfl) ?_
  refine lv_aload_n hx hb dX9_layNow_1 rfl (lv_at hl 0 rfl) ?_
  refine kg_X9_now C0 hK hP (kv_s (by decide) (by decide)) kq_960 dX9_layNow_2 ?_
  refine lv_aload_n hx hb dX9_layNow_5 rfl (lv_at hl 0 rfl) ?_
  refine kg_X9_now C0 hK hP (kv_s (by decide) (by decide)) kq_960 dX9_layNow_6 ?_
  refine lv_iconst (v := 2) hx hb dX9_layNow_9 (by decide) ?_
  obtain ⟨b1, hq⟩ := hq
  refine kr_lald C0 hK hP (kv_s (by decide) (by decide)) rfl b1 dX9_layNow_10 ?_
  refine lv_l2i hx hb dX9_layNow_11 rfl ?_
  refine lv_aload_n hx hb dX9_layNow_12 rfl (lv_at hl 0 rfl) ?_
  refine kg_X9_now C0 hK hP (kv_s (by decide) (by decide)) kq_960 dX9_layNow_13 ?_
  refine lv_iconst (v := 4) hx hb dX9_layNow_16 (by decide) ?_
  obtain ⟨b2, hq⟩ := hq
  refine kr_lald C0 hK hP (kv_s (by decide) (by decide)) rfl b2 dX9_layNow_17 ?_
  refine lv_l2i hx hb dX9_layNow_18 rfl ?_
  refine kr_Vv (k := (25, 0, 0)) (As := [.ref (ka_a G (37, 0, 0)), .int ((σ.2 (37, 0, 0) (2 : Int32).toNatClampNeg).toInt32), .int ((σ.2 (37, 0, 0) (4 : Int32).toNatClampNeg).toInt32)]) (rest := []) C0 hK hP hS hl (km_X9_layOut l hI kl_37 hq) kd_X9_layOut kq_1092 (kv_s (by decide) (by decide)) rfl rfl rfl ⟨rfl, rfl, Nat.le_of_ble_eq_true rfl, Nat.le_of_ble_eq_true rfl⟩ rfl (Nat.le_of_ble_eq_true rfl) dX9_layNow_19 ⟨Nat.zero_le _, Nat.zero_le _⟩ (fun σ3 H locs hq hP hS => ?_)
  exact kr_vret C0 hK hP hS hq dX9_layNow_22
/-! GlossRowsModel.about(I)I -/
def rm_X9_about : Room := { frames := 6, cells := 0, slots := 0, locals := 147 }
def kw_X9_about_94 (Q : Int32 → ka_S → Prop) : Nat → ka_S → Int32 → Int32 → Prop
  | 0, _, _, _ => False
  | n + 1, σ, v2, v3 => kw_X9_many σ (37, 0, 0) (fun r17 σ16 => 
    (r17 ≤ v3 → Q v2 σ16) ∧
    (¬ r17 ≤ v3 → kw_X9_parts σ16 (37, 0, 0) v3 (fun r19 σ18 => 
      ∀ x20 : Int32, x20 = (v2 + r19) → 
      ∀ x21 : Int32, x21 = v3 + (1 : Int32) →
      (kw_X9_about_94 Q n) σ18 x20 x21)))
def kw_X9_about_149 (Q : Int32 → ka_S → Prop) : Nat → ka_S → Int32 → Int32 → Prop
  | 0, _, _, _ => False
  | n + 1, σ, v2, v3 => kw_X9_many σ (37, 0, 0) (fun r23 σ22 => 
    (r23 ≤ v3 → Q v2 σ22) ∧
    (¬ r23 ≤ v3 → vp_in v3 12 ∧
      vp_in (2 : Int32) 253 ∧
      (((σ22.1 (29, 0, 0) v3.toNatClampNeg).toInt64) ≤ (σ22.2 (37, 0, 0) (2 : Int32).toNatClampNeg) → ∀ x26 : Int32, x26 = (v2 + (0 : Int32)) → 
        ∀ x27 : Int32, x27 = v3 + (1 : Int32) →
        (kw_X9_about_149 Q n) σ22 x26 x27) ∧
      (¬ ((σ22.1 (29, 0, 0) v3.toNatClampNeg).toInt64) ≤ (σ22.2 (37, 0, 0) (2 : Int32).toNatClampNeg) → ∀ x28 : Int32, x28 = (v2 + (1 : Int32)) → 
        ∀ x29 : Int32, x29 = v3 + (1 : Int32) →
        (kw_X9_about_149 Q n) σ22 x28 x29)))
def kw_X9_about_18 (Q : Int32 → ka_S → Prop) (σ : ka_S) (v1 : Int32) (t1 : Int32) : Prop := kw_X9_refused σ t1 (fun r4 σ3 => 
  (r4 = (0 : Int32) → kw_X9_layNow σ3 (fun σ5 => 
    (v1 = (0 : Int32) → kw_X9_many σ5 (37, 0, 0) (fun r7 σ6 => 
    Q r7 σ6)) ∧
    (¬ v1 = (0 : Int32) → (v1 = (1 : Int32) → ∃ n8 : Nat, kw_X9_about_94 Q n8 σ5 (0 : Int32) (0 : Int32)) ∧
    (¬ v1 = (1 : Int32) → (v1 = (2 : Int32) → kw_X9_gaps σ5 (37, 0, 0) (fun r10 σ9 => 
    Q r10 σ9)) ∧
    (¬ v1 = (2 : Int32) → (v1 = (3 : Int32) → Q (σ5.1 (25, 0, 0) 13) σ5) ∧
    (¬ v1 = (3 : Int32) → (v1 = (4 : Int32) → Q (σ5.1 (25, 0, 0) 11) σ5) ∧
    (¬ v1 = (4 : Int32) → (v1 = (5 : Int32) → Q (σ5.1 (25, 0, 0) 12) σ5) ∧
    (¬ v1 = (5 : Int32) → (v1 = (6 : Int32) → ∃ n11 : Nat, kw_X9_about_149 Q n11 σ5 (0 : Int32) (0 : Int32)) ∧
    (¬ v1 = (6 : Int32) → (v1 = (7 : Int32) → vp_in (1 : Int32) 253 ∧
    Q ((σ5.2 (37, 0, 0) (1 : Int32).toNatClampNeg).toInt32) σ5) ∧
    (¬ v1 = (7 : Int32) → (v1 = (8 : Int32) → kw_X9_unlike σ5 (37, 0, 0) (fun r14 σ13 => 
    Q r14 σ13)) ∧
    (¬ v1 = (8 : Int32) → vp_in (((2 : Int32) + v1) - (9 : Int32)) 253 ∧
    Q ((σ5.2 (37, 0, 0) (((2 : Int32) + v1) - (9 : Int32)).toNatClampNeg).toInt32) σ5))))))))))) ∧
  (¬ r4 = (0 : Int32) → Q (0 : Int32) σ3))
def kw_X9_about (σ : ka_S) (v1 : Int32) (Q : Int32 → ka_S → Prop) : Prop := kw_X9_in σ v1.toInt64 (0 : Int64) (11 : Int64) (fun r2 σ1 => 
  (r2 = (0 : Int32) → kw_X9_about_18 Q σ1 v1 (1 : Int32)) ∧
  (¬ r2 = (0 : Int32) → kw_X9_about_18 Q σ1 v1 (0 : Int32)))
set_option maxHeartbeats 4000000 in
set_option maxRecDepth 100000 in
theorem kb_X9_about_94 {p : Program} {l : Launch} {e : Env} {s : State} {m : MethodId} {args : Array Value} {below : List Frame} {meth : Method} {c : Code} {G : ka_G} (hI : ka_I G) (C0 : ka_C p s m args meth c cX9_about 4 "GlossRowsModel" (some .int)) (hK : ka_Kn G s) {Q : Int32 → ka_S → Prop} : ∀ (n : Nat) (σ : ka_S) (v2 : Int32) (v3 : Int32), kw_X9_about_94 Q n σ v2 v3 → ∀ (H : Heap) (locs : List Loc), ka_P G σ H → va_S (ka_A G) s.heap H locs → ∀ ls : Array Slot, lv_has ls 4 [(0, .ref (ka_a G (25, 0, 0))), (2, .int v2), (3, .int v3)] → W p l e rm_X9_about s m args below meth c H locs 0 0 (MQ below (va_Qi Q (ka_B G) (ka_A G)) args s 0 0 (ka_A G)) (F0 m 94 ls []) := by
  obtain ⟨hx, hb, -, hml, hown, hts, -⟩ := id C0
  intro n
  induction n with
  | zero =>
    intro σ v2 v3 hq
    rw [kw_X9_about_94] at hq
    exact hq.elim
  | succ n ih =>
    intro σ v2 v3 hq H locs hP hS ls hl
    rw [kw_X9_about_94] at hq
    refine lv_iload_n hx hb dX9_about_94 rfl (lv_at hl 2 rfl) ?_
    refine lv_aload_n hx hb dX9_about_95 rfl (lv_at hl 0 rfl) ?_
    refine kg_X9_now C0 hK hP (kv_s (by decide) (by decide)) kq_960 dX9_about_96 ?_
    refine kr_Si (As := [.ref (ka_a G (37, 0, 0))]) (rest := [.int v3]) C0 hK hP hS hl (km_X9_many l hI kl_37 hq) kd_X9_many kq_1077 ⟨rfl, rfl, Nat.le_of_ble_eq_true rfl, Nat.le_of_ble_eq_true rfl⟩ rfl (Nat.le_of_ble_eq_true rfl) dX9_about_99 ⟨Nat.zero_le _, Nat.zero_le _⟩ (fun r17 σ16 H locs hq hP hS => ?_)
    refine lv_icmp_ge (tgt := 122) hx hb dX9_about_102 (by decide) (fun hc => ?_) (fun hc => ?_)
    · have hq := hq.1 hc
      refine lv_iload_n hx hb dX9_about_122 rfl (lv_at hl 1 rfl) ?_
      exact kr_iret C0 hK hP hS hq dX9_about_123
    · have hq := hq.2 hc
      refine lv_iload_n hx hb dX9_about_105 rfl (lv_at hl 1 rfl) ?_
      refine lv_aload_n hx hb dX9_about_106 rfl (lv_at hl 0 rfl) ?_
      refine kg_X9_now C0 hK hP (kv_s (by decide) (by decide)) kq_960 dX9_about_107 ?_
      refine lv_iload_n hx hb dX9_about_110 rfl (lv_at hl 2 rfl) ?_
      refine kr_Si (As := [.ref (ka_a G (37, 0, 0)), .int v3]) (rest := [.int v2]) C0 hK hP hS hl (km_X9_parts l hI kl_37 hq) kd_X9_parts kq_1099 ⟨rfl, rfl, Nat.le_of_ble_eq_true rfl, Nat.le_of_ble_eq_true rfl⟩ rfl (Nat.le_of_ble_eq_true rfl) dX9_about_111 ⟨Nat.zero_le _, Nat.zero_le _⟩ (fun r19 σ18 H locs hq hP hS => ?_)
      refine lv_iadd hx hb dX9_about_114 ?_
      refine lv_topi (fun x20 ex20 => ?_)
      have hq := hq x20 ex20
      refine lv_istore_n (lv' := [(2, .int x20), (0, .ref (ka_a G (25, 0, 0))), (3, .int v3)]) hx hb dX9_about_115 rfl hl (by decide) rfl (fun ls hl => ?_)
      obtain ⟨x21, ex21⟩ : ∃ y : Int32, y = v3 + (1 : Int32) := ⟨_, rfl⟩
      have hq := hq x21 ex21
      refine lv_iinc (v := x21) (lv' := [(3, .int x21), (2, .int x20), (0, .ref (ka_a G (25, 0, 0)))]) hx hb dX9_about_116 hl (k := 2) rfl (by rw [ex21]; rfl) (by decide) rfl (fun ls hl => ?_)
      refine lv_goto (tgt := 94) hx hb dX9_about_119 (by decide) ?_
      exact ih σ18 x20 x21 hq H locs hP hS ls (lv_sub hl [2, 1, 0] rfl)
set_option maxHeartbeats 4000000 in
set_option maxRecDepth 100000 in
theorem kb_X9_about_149 {p : Program} {l : Launch} {e : Env} {s : State} {m : MethodId} {args : Array Value} {below : List Frame} {meth : Method} {c : Code} {G : ka_G} (hI : ka_I G) (C0 : ka_C p s m args meth c cX9_about 4 "GlossRowsModel" (some .int)) (hK : ka_Kn G s) {Q : Int32 → ka_S → Prop} : ∀ (n : Nat) (σ : ka_S) (v2 : Int32) (v3 : Int32), kw_X9_about_149 Q n σ v2 v3 → ∀ (H : Heap) (locs : List Loc), ka_P G σ H → va_S (ka_A G) s.heap H locs → ∀ ls : Array Slot, lv_has ls 4 [(0, .ref (ka_a G (25, 0, 0))), (2, .int v2), (3, .int v3)] → W p l e rm_X9_about s m args below meth c H locs 0 0 (MQ below (va_Qi Q (ka_B G) (ka_A G)) args s 0 0 (ka_A G)) (F0 m 149 ls []) := by
  obtain ⟨hx, hb, -, hml, hown, hts, -⟩ := id C0
  intro n
  induction n with
  | zero =>
    intro σ v2 v3 hq
    rw [kw_X9_about_149] at hq
    exact hq.elim
  | succ n ih =>
    intro σ v2 v3 hq H locs hP hS ls hl
    rw [kw_X9_about_149] at hq
    refine lv_iload_n hx hb dX9_about_149 rfl (lv_at hl 2 rfl) ?_
    refine lv_aload_n hx hb dX9_about_150 rfl (lv_at hl 0 rfl) ?_
    refine kg_X9_now C0 hK hP (kv_s (by decide) (by decide)) kq_960 dX9_about_151 ?_
    refine kr_Si (As := [.ref (ka_a G (37, 0, 0))]) (rest := [.int v3]) C0 hK hP hS hl (km_X9_many l hI kl_37 hq) kd_X9_many kq_1077 ⟨rfl, rfl, Nat.le_of_ble_eq_true rfl, Nat.le_of_ble_eq_true rfl⟩ rfl (Nat.le_of_ble_eq_true rfl) dX9_about_154 ⟨Nat.zero_le _, Nat.zero_le _⟩ (fun r23 σ22 H locs hq hP hS => ?_)
    refine lv_icmp_ge (tgt := 191) hx hb dX9_about_157 (by decide) (fun hc => ?_) (fun hc => ?_)
    · have hq := hq.1 hc
      refine lv_iload_n hx hb dX9_about_191 rfl (lv_at hl 1 rfl) ?_
      exact kr_iret C0 hK hP hS hq dX9_about_192
    · have hq := hq.2 hc
      refine lv_iload_n hx hb dX9_about_160 rfl (lv_at hl 1 rfl) ?_
      refine lv_aload_n hx hb dX9_about_161 rfl (lv_at hl 0 rfl) ?_
      refine kg_X9_widthOf C0 hK hP (kv_s (by decide) (by decide)) kq_971 dX9_about_162 ?_
      refine lv_iload_n hx hb dX9_about_165 rfl (lv_at hl 2 rfl) ?_
      obtain ⟨b24, hq⟩ := hq
      refine kr_iald C0 hK hP (kv_s (by decide) (by decide)) rfl b24 dX9_about_166 ?_
      refine lv_i2l hx hb dX9_about_167 rfl ?_
      refine lv_aload_n hx hb dX9_about_168 rfl (lv_at hl 0 rfl) ?_
      refine kg_X9_now C0 hK hP (kv_s (by decide) (by decide)) kq_960 dX9_about_169 ?_
      refine lv_iconst (v := 2) hx hb dX9_about_172 (by decide) ?_
      obtain ⟨b25, hq⟩ := hq
      refine kr_lald C0 hK hP (kv_s (by decide) (by decide)) rfl b25 dX9_about_173 ?_
      refine kr_cle (tgt := 182) C0 dX9_about_174 dX9_about_175 (by decide) (fun hc => ?_) (fun hc => ?_)
      · have hq := hq.1 hc
        refine lv_iconst (v := 0) hx hb dX9_about_182 (by decide) ?_
        refine lv_iadd hx hb dX9_about_183 ?_
        refine lv_topi (fun x26 ex26 => ?_)
        have hq := hq x26 ex26
        refine lv_istore_n (lv' := [(2, .int x26), (0, .ref (ka_a G (25, 0, 0))), (3, .int v3)]) hx hb dX9_about_184 rfl hl (by decide) rfl (fun ls hl => ?_)
        obtain ⟨x27, ex27⟩ : ∃ y : Int32, y = v3 + (1 : Int32) := ⟨_, rfl⟩
        have hq := hq x27 ex27
        refine lv_iinc (v := x27) (lv' := [(3, .int x27), (2, .int x26), (0, .ref (ka_a G (25, 0, 0)))]) hx hb dX9_about_185 hl (k := 2) rfl (by rw [ex27]; rfl) (by decide) rfl (fun ls hl => ?_)
        refine lv_goto (tgt := 149) hx hb dX9_about_188 (by decide) ?_
        exact ih σ22 x26 x27 hq H locs hP hS ls (lv_sub hl [2, 1, 0] rfl)
      · have hq := hq.2 hc
        refine lv_iconst (v := 1) hx hb dX9_about_178 (by decide) ?_
        refine lv_goto (tgt := 183) hx hb dX9_about_179 (by decide) ?_
        refine lv_iadd hx hb dX9_about_183 ?_
        refine lv_topi (fun x28 ex28 => ?_)
        have hq := hq x28 ex28
        refine lv_istore_n (lv' := [(2, .int x28), (0, .ref (ka_a G (25, 0, 0))), (3, .int v3)]) hx hb dX9_about_184 rfl hl (by decide) rfl (fun ls hl => ?_)
        obtain ⟨x29, ex29⟩ : ∃ y : Int32, y = v3 + (1 : Int32) := ⟨_, rfl⟩
        have hq := hq x29 ex29
        refine lv_iinc (v := x29) (lv' := [(3, .int x29), (2, .int x28), (0, .ref (ka_a G (25, 0, 0)))]) hx hb dX9_about_185 hl (k := 2) rfl (by rw [ex29]; rfl) (by decide) rfl (fun ls hl => ?_)
        refine lv_goto (tgt := 149) hx hb dX9_about_188 (by decide) ?_
        exact ih σ22 x28 x29 hq H locs hP hS ls (lv_sub hl [2, 1, 0] rfl)
set_option maxHeartbeats 4000000 in
set_option maxRecDepth 100000 in
theorem kb_X9_about_18 {p : Program} {l : Launch} {e : Env} {s : State} {m : MethodId} {args : Array Value} {below : List Frame} {meth : Method} {c : Code} {G : ka_G} (hI : ka_I G) (C0 : ka_C p s m args meth c cX9_about 4 "GlossRowsModel" (some .int)) (hK : ka_Kn G s) {Q : Int32 → ka_S → Prop} : ∀ (σ : ka_S) (v1 : Int32) (t1 : Int32), kw_X9_about_18 Q σ v1 t1 → ∀ (H : Heap) (locs : List Loc), ka_P G σ H → va_S (ka_A G) s.heap H locs → ∀ ls : Array Slot, lv_has ls 4 [(0, .ref (ka_a G (25, 0, 0))), (1, .int v1)] → W p l e rm_X9_about s m args below meth c H locs 0 0 (MQ below (va_Qi Q (ka_B G) (ka_A G)) args s 0 0 (ka_A G)) (F0 m 18 ls [.int t1, .ref (ka_a G (25, 0, 0))]) := by
  obtain ⟨hx, hb, -, hml, hown, hts, -⟩ := id C0
  intro σ v1 t1 hq H locs hP hS ls hl
  unfold kw_X9_about_18 at hq
  refine kr_Vi (k := (25, 0, 0)) (As := [.int t1]) (rest := []) C0 hK hP hS hl (km_X9_refused l hI hq) kd_X9_refused kq_1034 (kv_s (by decide) (by decide)) rfl rfl rfl ⟨rfl, rfl, Nat.le_of_ble_eq_true rfl, Nat.le_of_ble_eq_true rfl⟩ rfl (Nat.le_of_ble_eq_true rfl) dX9_about_18 ⟨Nat.zero_le _, Nat.zero_le _⟩ (fun r4 σ3 H locs hq hP hS => ?_)
  refine lv_if_eq (tgt := 26) hx hb dX9_about_21 (by decide) (fun hc => ?_) (fun hc => ?_)
  · have hq := hq.1 hc
    refine lv_aload_n hx hb dX9_about_26 rfl (lv_at hl 0 rfl) ?_
    refine kr_Vv (k := (25, 0, 0)) (As := []) (rest := []) C0 hK hP hS hl (km_X9_layNow l hI hq) kd_X9_layNow kq_1088 (kv_s (by decide) (by decide)) rfl rfl rfl ⟨rfl, rfl, Nat.le_of_ble_eq_true rfl, Nat.le_of_ble_eq_true rfl⟩ rfl (Nat.le_of_ble_eq_true rfl) dX9_about_27 ⟨Nat.zero_le _, Nat.zero_le _⟩ (fun σ5 H locs hq hP hS => ?_)
    refine lv_iconst (v := 0) hx hb dX9_about_30 (by decide) ?_
    refine lv_istore_n (lv' := [(2, .int (0 : Int32)), (0, .ref (ka_a G (25, 0, 0))), (1, .int v1)]) hx hb dX9_about_31 rfl hl (by decide) rfl (fun ls hl => ?_)
    refine lv_iload_n hx hb dX9_about_32 rfl (lv_at hl 2 rfl) ?_
    by_cases hsw0 : v1 = (0 : Int32)
    · have hq := hq.1 hsw0
      refine lv_tableIn (off := 51) (tgt := 84) hx hb dX9_about_33 (by rw [hsw0]; decide) (by rw [hsw0]; decide) (by rw [hsw0]; decide) (by decide) ?_
      refine lv_aload_n hx hb dX9_about_84 rfl (lv_at hl 1 rfl) ?_
      refine kg_X9_now C0 hK hP (kv_s (by decide) (by decide)) kq_960 dX9_about_85 ?_
      refine kr_Si (As := [.ref (ka_a G (37, 0, 0))]) (rest := []) C0 hK hP hS hl (km_X9_many l hI kl_37 hq) kd_X9_many kq_1077 ⟨rfl, rfl, Nat.le_of_ble_eq_true rfl, Nat.le_of_ble_eq_true rfl⟩ rfl (Nat.le_of_ble_eq_true rfl) dX9_about_88 ⟨Nat.zero_le _, Nat.zero_le _⟩ (fun r7 σ6 H locs hq hP hS => ?_)
      exact kr_iret C0 hK hP hS hq dX9_about_91
    · have hq := hq.2 hsw0
      by_cases hsw1 : v1 = (1 : Int32)
      · have hq := hq.1 hsw1
        refine lv_tableIn (off := 59) (tgt := 92) hx hb dX9_about_33 (by rw [hsw1]; decide) (by rw [hsw1]; decide) (by rw [hsw1]; decide) (by decide) ?_
        refine lv_iconst (v := 0) hx hb dX9_about_92 (by decide) ?_
        refine lv_istore_n (lv' := [(3, .int (0 : Int32)), (2, .int (0 : Int32)), (0, .ref (ka_a G (25, 0, 0))), (1, .int v1)]) hx hb dX9_about_93 rfl hl (by decide) rfl (fun ls hl => ?_)
        obtain ⟨n8, hq⟩ := hq
        exact kb_X9_about_94 hI C0 hK n8 σ5 (0 : Int32) (0 : Int32) hq H locs hP hS ls (lv_sub hl [2, 1, 0] rfl)
      · have hq := hq.2 hsw1
        by_cases hsw2 : v1 = (2 : Int32)
        · have hq := hq.1 hsw2
          refine lv_tableIn (off := 91) (tgt := 124) hx hb dX9_about_33 (by rw [hsw2]; decide) (by rw [hsw2]; decide) (by rw [hsw2]; decide) (by decide) ?_
          refine lv_aload_n hx hb dX9_about_124 rfl (lv_at hl 1 rfl) ?_
          refine kg_X9_now C0 hK hP (kv_s (by decide) (by decide)) kq_960 dX9_about_125 ?_
          refine kr_Si (As := [.ref (ka_a G (37, 0, 0))]) (rest := []) C0 hK hP hS hl (km_X9_gaps l hI kl_37 hq) kd_X9_gaps kq_1122 ⟨rfl, rfl, Nat.le_of_ble_eq_true rfl, Nat.le_of_ble_eq_true rfl⟩ rfl (Nat.le_of_ble_eq_true rfl) dX9_about_128 ⟨Nat.zero_le _, Nat.zero_le _⟩ (fun r10 σ9 H locs hq hP hS => ?_)
          exact kr_iret C0 hK hP hS hq dX9_about_131
        · have hq := hq.2 hsw2
          by_cases hsw3 : v1 = (3 : Int32)
          · have hq := hq.1 hsw3
            refine lv_tableIn (off := 99) (tgt := 132) hx hb dX9_about_33 (by rw [hsw3]; decide) (by rw [hsw3]; decide) (by rw [hsw3]; decide) (by decide) ?_
            refine lv_aload_n hx hb dX9_about_132 rfl (lv_at hl 1 rfl) ?_
            refine kg_X9_sentences C0 hK hP (kv_s (by decide) (by decide)) kq_968 dX9_about_133 ?_
            exact kr_iret C0 hK hP hS hq dX9_about_136
          · have hq := hq.2 hsw3
            by_cases hsw4 : v1 = (4 : Int32)
            · have hq := hq.1 hsw4
              refine lv_tableIn (off := 104) (tgt := 137) hx hb dX9_about_33 (by rw [hsw4]; decide) (by rw [hsw4]; decide) (by rw [hsw4]; decide) (by decide) ?_
              refine lv_aload_n hx hb dX9_about_137 rfl (lv_at hl 1 rfl) ?_
              refine kg_X9_lines C0 hK hP (kv_s (by decide) (by decide)) kq_966 dX9_about_138 ?_
              exact kr_iret C0 hK hP hS hq dX9_about_141
            · have hq := hq.2 hsw4
              by_cases hsw5 : v1 = (5 : Int32)
              · have hq := hq.1 hsw5
                refine lv_tableIn (off := 109) (tgt := 142) hx hb dX9_about_33 (by rw [hsw5]; decide) (by rw [hsw5]; decide) (by rw [hsw5]; decide) (by decide) ?_
                refine lv_aload_n hx hb dX9_about_142 rfl (lv_at hl 1 rfl) ?_
                refine kg_X9_rows C0 hK hP (kv_s (by decide) (by decide)) kq_967 dX9_about_143 ?_
                exact kr_iret C0 hK hP hS hq dX9_about_146
              · have hq := hq.2 hsw5
                by_cases hsw6 : v1 = (6 : Int32)
                · have hq := hq.1 hsw6
                  refine lv_tableIn (off := 114) (tgt := 147) hx hb dX9_about_33 (by rw [hsw6]; decide) (by rw [hsw6]; decide) (by rw [hsw6]; decide) (by decide) ?_
                  refine lv_iconst (v := 0) hx hb dX9_about_147 (by decide) ?_
                  refine lv_istore_n (lv' := [(3, .int (0 : Int32)), (2, .int (0 : Int32)), (0, .ref (ka_a G (25, 0, 0))), (1, .int v1)]) hx hb dX9_about_148 rfl hl (by decide) rfl (fun ls hl => ?_)
                  obtain ⟨n11, hq⟩ := hq
                  exact kb_X9_about_149 hI C0 hK n11 σ5 (0 : Int32) (0 : Int32) hq H locs hP hS ls (lv_sub hl [2, 1, 0] rfl)
                · have hq := hq.2 hsw6
                  by_cases hsw7 : v1 = (7 : Int32)
                  · have hq := hq.1 hsw7
                    refine lv_tableIn (off := 160) (tgt := 193) hx hb dX9_about_33 (by rw [hsw7]; decide) (by rw [hsw7]; decide) (by rw [hsw7]; decide) (by decide) ?_
                    refine lv_aload_n hx hb dX9_about_193 rfl (lv_at hl 1 rfl) ?_
                    refine kg_X9_now C0 hK hP (kv_s (by decide) (by decide)) kq_960 dX9_about_194 ?_
                    refine lv_iconst (v := 1) hx hb dX9_about_197 (by decide) ?_
                    obtain ⟨b12, hq⟩ := hq
                    refine kr_lald C0 hK hP (kv_s (by decide) (by decide)) rfl b12 dX9_about_198 ?_
                    refine lv_l2i hx hb dX9_about_199 rfl ?_
                    exact kr_iret C0 hK hP hS hq dX9_about_200
                  · have hq := hq.2 hsw7
                    by_cases hsw8 : v1 = (8 : Int32)
                    · have hq := hq.1 hsw8
                      refine lv_tableIn (off := 168) (tgt := 201) hx hb dX9_about_33 (by rw [hsw8]; decide) (by rw [hsw8]; decide) (by rw [hsw8]; decide) (by decide) ?_
                      refine lv_aload_n hx hb dX9_about_201 rfl (lv_at hl 1 rfl) ?_
                      refine kg_X9_now C0 hK hP (kv_s (by decide) (by decide)) kq_960 dX9_about_202 ?_
                      refine kr_Si (As := [.ref (ka_a G (37, 0, 0))]) (rest := []) C0 hK hP hS hl (km_X9_unlike l hI kl_37 hq) kd_X9_unlike kq_1128 ⟨rfl, rfl, Nat.le_of_ble_eq_true rfl, Nat.le_of_ble_eq_true rfl⟩ rfl (Nat.le_of_ble_eq_true rfl) dX9_about_205 ⟨Nat.zero_le _, Nat.zero_le _⟩ (fun r14 σ13 H locs hq hP hS => ?_)
                      exact kr_iret C0 hK hP hS hq dX9_about_208
                    · have hq := hq.2 hsw8
                      refine lv_tableOut (tgt := 209) hx hb dX9_about_33 (kt_0_8 (x := v1) hsw0 hsw1 hsw2 hsw3 hsw4 hsw5 hsw6 hsw7 hsw8) (by decide) ?_
                      refine lv_aload_n hx hb dX9_about_209 rfl (lv_at hl 1 rfl) ?_
                      refine kg_X9_now C0 hK hP (kv_s (by decide) (by decide)) kq_960 dX9_about_210 ?_
                      refine lv_iconst (v := 2) hx hb dX9_about_213 (by decide) ?_
                      refine lv_iload_n hx hb dX9_about_214 rfl (lv_at hl 2 rfl) ?_
                      refine lv_iadd hx hb dX9_about_215 ?_
                      refine lv_bipush (v := 9) hx hb dX9_about_216 (by decide) ?_
                      refine lv_isub hx hb dX9_about_218 ?_
                      obtain ⟨b15, hq⟩ := hq
                      refine kr_lald C0 hK hP (kv_s (by decide) (by decide)) rfl b15 dX9_about_219 ?_
                      refine lv_l2i hx hb dX9_about_220 rfl ?_
                      exact kr_iret C0 hK hP hS hq dX9_about_221
  · have hq := hq.2 hc
    refine lv_iconst (v := 0) hx hb dX9_about_24 (by decide) ?_
    exact kr_iret C0 hK hP hS hq dX9_about_25
set_option maxHeartbeats 4000000 in
set_option maxRecDepth 100000 in
theorem km_X9_about (l : Launch) {G : ka_G} (hI : ka_I G) {σ : ka_S} {v1 : Int32} {Q : Int32 → ka_S → Prop} (hq : kw_X9_about σ v1 Q) : kc_i l yX9_about (kw_ yX9_about cX9_about 4 (some .int)) rm_X9_about G [.ref (ka_a G (25, 0, 0)), .int v1] σ Q := by
  refine ka_of "GlossRowsModel" rfl (by decide) (Nat.le_of_ble_eq_true rfl) ?_
  intro p e s m below meth c C0 hK H locs hP hS ls hl
  obtain ⟨hx, hb, -, hml, hown, hts, -⟩ := id C0
  have hl : lv_has ls 4 [(0, .ref (ka_a G (25, 0, 0))), (1, .int v1)] := hl
  unfold kw_X9_about at hq
  refine lv_aload_n hx hb dX9_about_0 rfl (lv_at hl 0 rfl) ?_
  refine lv_iload_n hx hb dX9_about_1 rfl (lv_at hl 1 rfl) ?_
  refine lv_i2l hx hb dX9_about_2 rfl ?_
  refine lv_lconst (v := 0) hx hb dX9_about_3 (by decide) ?_
  refine lv_ldc2 hx hb hown (hts _ kq_1087) dX9_about_4 ?_
  refine kr_Si (As := [.long v1.toInt64, .long (0 : Int64), .long (11 : Int64)]) (rest := [.ref (ka_a G (25, 0, 0))]) C0 hK hP hS hl (km_X9_in l hI hq) kd_X9_in kq_1031 ⟨rfl, rfl, Nat.le_of_ble_eq_true rfl, Nat.le_of_ble_eq_true rfl⟩ rfl (Nat.le_of_ble_eq_true rfl) dX9_about_7 ⟨Nat.zero_le _, Nat.zero_le _⟩ (fun r2 σ1 H locs hq hP hS => ?_)
  refine lv_if_eq (tgt := 17) hx hb dX9_about_10 (by decide) (fun hc => ?_) (fun hc => ?_)
  · have hq := hq.1 hc
    refine lv_iconst (v := 1) hx hb dX9_about_17 (by decide) ?_
    exact kb_X9_about_18 hI C0 hK σ1 v1 (1 : Int32) hq H locs hP hS ls (lv_sub hl [0, 1] rfl)
  · have hq := hq.2 hc
    refine lv_iconst (v := 0) hx hb dX9_about_13 (by decide) ?_
    refine lv_goto (tgt := 18) hx hb dX9_about_14 (by decide) ?_
    exact kb_X9_about_18 hI C0 hK σ1 v1 (0 : Int32) hq H locs hP hS ls (lv_sub hl [0, 1] rfl)
/-! GlossRowsModel.word(II)I -/
def rm_X9_word : Room := { frames := 6, cells := 0, slots := 0, locals := 147 }
def kw_X9_word_30 (Q : Int32 → ka_S → Prop) (σ : ka_S) (v1 : Int32) (v2 : Int32) (t1 : Int32) : Prop := kw_X9_refused σ t1 (fun r6 σ5 => 
  (r6 = (0 : Int32) → kw_X9_layNow σ5 (fun σ7 => 
    (v2 = (0 : Int32) → kw_X9_parts σ7 (37, 0, 0) v1 (fun r9 σ8 => 
    Q r9 σ8)) ∧
    (¬ v2 = (0 : Int32) → (v2 = (1 : Int32) → vp_in v1 12 ∧
    Q (σ7.1 (29, 0, 0) v1.toNatClampNeg) σ7) ∧
    (¬ v2 = (1 : Int32) → (v2 = (2 : Int32) → vp_in v1 12 ∧
    Q (σ7.1 (27, 0, 0) v1.toNatClampNeg) σ7) ∧
    (¬ v2 = (2 : Int32) → (v2 = (3 : Int32) → vp_in v1 12 ∧
    Q (σ7.1 (28, 0, 0) v1.toNatClampNeg) σ7) ∧
    (¬ v2 = (3 : Int32) → (v2 = (4 : Int32) → vp_in v1 12 ∧
    Q (σ7.1 (30, 0, 0) v1.toNatClampNeg) σ7) ∧
    (¬ v2 = (4 : Int32) → (v2 = (5 : Int32) → kw_X9_cell σ7 v1 (1 : Int32) (fun r15 σ14 => 
    vp_in r15 253 ∧
    Q ((σ14.2 (37, 0, 0) r15.toNatClampNeg).toInt32) σ14)) ∧
    (¬ v2 = (5 : Int32) → (v2 = (6 : Int32) → kw_X9_gapsOf σ7 (37, 0, 0) v1 (fun r18 σ17 => 
    Q r18 σ17)) ∧
    (¬ v2 = (6 : Int32) → kw_X9_cell σ7 v1 (2 : Int32) (fun r20 σ19 => 
    vp_in r20 253 ∧
    Q ((σ19.2 (37, 0, 0) r20.toNatClampNeg).toInt32) σ19)))))))))) ∧
  (¬ r6 = (0 : Int32) → Q (0 : Int32) σ5))
def kw_X9_word (σ : ka_S) (v1 : Int32) (v2 : Int32) (Q : Int32 → ka_S → Prop) : Prop := kw_X9_isWord σ v1 (fun r2 σ1 => 
  (r2 = (0 : Int32) → kw_X9_word_30 Q σ1 v1 v2 (1 : Int32)) ∧
  (¬ r2 = (0 : Int32) → kw_X9_in σ1 v2.toInt64 (0 : Int64) (7 : Int64) (fun r4 σ3 => 
    (r4 = (0 : Int32) → kw_X9_word_30 Q σ3 v1 v2 (2 : Int32)) ∧
    (¬ r4 = (0 : Int32) → kw_X9_word_30 Q σ3 v1 v2 (0 : Int32)))))
set_option maxHeartbeats 4000000 in
set_option maxRecDepth 100000 in
theorem kb_X9_word_30 {p : Program} {l : Launch} {e : Env} {s : State} {m : MethodId} {args : Array Value} {below : List Frame} {meth : Method} {c : Code} {G : ka_G} (hI : ka_I G) (C0 : ka_C p s m args meth c cX9_word 3 "GlossRowsModel" (some .int)) (hK : ka_Kn G s) {Q : Int32 → ka_S → Prop} : ∀ (σ : ka_S) (v1 : Int32) (v2 : Int32) (t1 : Int32), kw_X9_word_30 Q σ v1 v2 t1 → ∀ (H : Heap) (locs : List Loc), ka_P G σ H → va_S (ka_A G) s.heap H locs → ∀ ls : Array Slot, lv_has ls 3 [(0, .ref (ka_a G (25, 0, 0))), (1, .int v1), (2, .int v2)] → W p l e rm_X9_word s m args below meth c H locs 0 0 (MQ below (va_Qi Q (ka_B G) (ka_A G)) args s 0 0 (ka_A G)) (F0 m 30 ls [.int t1, .ref (ka_a G (25, 0, 0))]) := by
  obtain ⟨hx, hb, -, hml, hown, hts, -⟩ := id C0
  intro σ v1 v2 t1 hq H locs hP hS ls hl
  unfold kw_X9_word_30 at hq
  refine kr_Vi (k := (25, 0, 0)) (As := [.int t1]) (rest := []) C0 hK hP hS hl (km_X9_refused l hI hq) kd_X9_refused kq_1034 (kv_s (by decide) (by decide)) rfl rfl rfl ⟨rfl, rfl, Nat.le_of_ble_eq_true rfl, Nat.le_of_ble_eq_true rfl⟩ rfl (Nat.le_of_ble_eq_true rfl) dX9_word_30 ⟨Nat.zero_le _, Nat.zero_le _⟩ (fun r6 σ5 H locs hq hP hS => ?_)
  refine lv_if_eq (tgt := 38) hx hb dX9_word_33 (by decide) (fun hc => ?_) (fun hc => ?_)
  · have hq := hq.1 hc
    refine lv_aload_n hx hb dX9_word_38 rfl (lv_at hl 0 rfl) ?_
    refine kr_Vv (k := (25, 0, 0)) (As := []) (rest := []) C0 hK hP hS hl (km_X9_layNow l hI hq) kd_X9_layNow kq_1088 (kv_s (by decide) (by decide)) rfl rfl rfl ⟨rfl, rfl, Nat.le_of_ble_eq_true rfl, Nat.le_of_ble_eq_true rfl⟩ rfl (Nat.le_of_ble_eq_true rfl) dX9_word_39 ⟨Nat.zero_le _, Nat.zero_le _⟩ (fun σ7 H locs hq hP hS => ?_)
    refine lv_iload_n hx hb dX9_word_42 rfl (lv_at hl 2 rfl) ?_
    by_cases hsw0 : v2 = (0 : Int32)
    · have hq := hq.1 hsw0
      refine lv_tableIn (off := 41) (tgt := 84) hx hb dX9_word_43 (by rw [hsw0]; decide) (by rw [hsw0]; decide) (by rw [hsw0]; decide) (by decide) ?_
      refine lv_aload_n hx hb dX9_word_84 rfl (lv_at hl 0 rfl) ?_
      refine kg_X9_now C0 hK hP (kv_s (by decide) (by decide)) kq_960 dX9_word_85 ?_
      refine lv_iload_n hx hb dX9_word_88 rfl (lv_at hl 1 rfl) ?_
      refine kr_Si (As := [.ref (ka_a G (37, 0, 0)), .int v1]) (rest := []) C0 hK hP hS hl (km_X9_parts l hI kl_37 hq) kd_X9_parts kq_1099 ⟨rfl, rfl, Nat.le_of_ble_eq_true rfl, Nat.le_of_ble_eq_true rfl⟩ rfl (Nat.le_of_ble_eq_true rfl) dX9_word_89 ⟨Nat.zero_le _, Nat.zero_le _⟩ (fun r9 σ8 H locs hq hP hS => ?_)
      exact kr_iret C0 hK hP hS hq dX9_word_92
    · have hq := hq.2 hsw0
      by_cases hsw1 : v2 = (1 : Int32)
      · have hq := hq.1 hsw1
        refine lv_tableIn (off := 50) (tgt := 93) hx hb dX9_word_43 (by rw [hsw1]; decide) (by rw [hsw1]; decide) (by rw [hsw1]; decide) (by decide) ?_
        refine lv_aload_n hx hb dX9_word_93 rfl (lv_at hl 0 rfl) ?_
        refine kg_X9_widthOf C0 hK hP (kv_s (by decide) (by decide)) kq_971 dX9_word_94 ?_
        refine lv_iload_n hx hb dX9_word_97 rfl (lv_at hl 1 rfl) ?_
        obtain ⟨b10, hq⟩ := hq
        refine kr_iald C0 hK hP (kv_s (by decide) (by decide)) rfl b10 dX9_word_98 ?_
        exact kr_iret C0 hK hP hS hq dX9_word_99
      · have hq := hq.2 hsw1
        by_cases hsw2 : v2 = (2 : Int32)
        · have hq := hq.1 hsw2
          refine lv_tableIn (off := 57) (tgt := 100) hx hb dX9_word_43 (by rw [hsw2]; decide) (by rw [hsw2]; decide) (by rw [hsw2]; decide) (by decide) ?_
          refine lv_aload_n hx hb dX9_word_100 rfl (lv_at hl 0 rfl) ?_
          refine kg_X9_lineOf C0 hK hP (kv_s (by decide) (by decide)) kq_969 dX9_word_101 ?_
          refine lv_iload_n hx hb dX9_word_104 rfl (lv_at hl 1 rfl) ?_
          obtain ⟨b11, hq⟩ := hq
          refine kr_iald C0 hK hP (kv_s (by decide) (by decide)) rfl b11 dX9_word_105 ?_
          exact kr_iret C0 hK hP hS hq dX9_word_106
        · have hq := hq.2 hsw2
          by_cases hsw3 : v2 = (3 : Int32)
          · have hq := hq.1 hsw3
            refine lv_tableIn (off := 64) (tgt := 107) hx hb dX9_word_43 (by rw [hsw3]; decide) (by rw [hsw3]; decide) (by rw [hsw3]; decide) (by decide) ?_
            refine lv_aload_n hx hb dX9_word_107 rfl (lv_at hl 0 rfl) ?_
            refine kg_X9_columnOf C0 hK hP (kv_s (by decide) (by decide)) kq_970 dX9_word_108 ?_
            refine lv_iload_n hx hb dX9_word_111 rfl (lv_at hl 1 rfl) ?_
            obtain ⟨b12, hq⟩ := hq
            refine kr_iald C0 hK hP (kv_s (by decide) (by decide)) rfl b12 dX9_word_112 ?_
            exact kr_iret C0 hK hP hS hq dX9_word_113
          · have hq := hq.2 hsw3
            by_cases hsw4 : v2 = (4 : Int32)
            · have hq := hq.1 hsw4
              refine lv_tableIn (off := 71) (tgt := 114) hx hb dX9_word_43 (by rw [hsw4]; decide) (by rw [hsw4]; decide) (by rw [hsw4]; decide) (by decide) ?_
              refine lv_aload_n hx hb dX9_word_114 rfl (lv_at hl 0 rfl) ?_
              refine kg_X9_sentenceOf C0 hK hP (kv_s (by decide) (by decide)) kq_972 dX9_word_115 ?_
              refine lv_iload_n hx hb dX9_word_118 rfl (lv_at hl 1 rfl) ?_
              obtain ⟨b13, hq⟩ := hq
              refine kr_iald C0 hK hP (kv_s (by decide) (by decide)) rfl b13 dX9_word_119 ?_
              exact kr_iret C0 hK hP hS hq dX9_word_120
            · have hq := hq.2 hsw4
              by_cases hsw5 : v2 = (5 : Int32)
              · have hq := hq.1 hsw5
                refine lv_tableIn (off := 78) (tgt := 121) hx hb dX9_word_43 (by rw [hsw5]; decide) (by rw [hsw5]; decide) (by rw [hsw5]; decide) (by decide) ?_
                refine lv_aload_n hx hb dX9_word_121 rfl (lv_at hl 0 rfl) ?_
                refine kg_X9_now C0 hK hP (kv_s (by decide) (by decide)) kq_960 dX9_word_122 ?_
                refine lv_iload_n hx hb dX9_word_125 rfl (lv_at hl 1 rfl) ?_
                refine lv_iconst (v := 1) hx hb dX9_word_126 (by decide) ?_
                refine kr_Si (As := [.int v1, .int (1 : Int32)]) (rest := [.ref (ka_a G (37, 0, 0))]) C0 hK hP hS hl (km_X9_cell l hI hq) kd_X9_cell kq_1102 ⟨rfl, rfl, Nat.le_of_ble_eq_true rfl, Nat.le_of_ble_eq_true rfl⟩ rfl (Nat.le_of_ble_eq_true rfl) dX9_word_127 ⟨Nat.zero_le _, Nat.zero_le _⟩ (fun r15 σ14 H locs hq hP hS => ?_)
                obtain ⟨b16, hq⟩ := hq
                refine kr_lald C0 hK hP (kv_s (by decide) (by decide)) rfl b16 dX9_word_130 ?_
                refine lv_l2i hx hb dX9_word_131 rfl ?_
                exact kr_iret C0 hK hP hS hq dX9_word_132
              · have hq := hq.2 hsw5
                by_cases hsw6 : v2 = (6 : Int32)
                · have hq := hq.1 hsw6
                  refine lv_tableIn (off := 90) (tgt := 133) hx hb dX9_word_43 (by rw [hsw6]; decide) (by rw [hsw6]; decide) (by rw [hsw6]; decide) (by decide) ?_
                  refine lv_aload_n hx hb dX9_word_133 rfl (lv_at hl 0 rfl) ?_
                  refine kg_X9_now C0 hK hP (kv_s (by decide) (by decide)) kq_960 dX9_word_134 ?_
                  refine lv_iload_n hx hb dX9_word_137 rfl (lv_at hl 1 rfl) ?_
                  refine kr_Si (As := [.ref (ka_a G (37, 0, 0)), .int v1]) (rest := []) C0 hK hP hS hl (km_X9_gapsOf l hI kl_37 hq) kd_X9_gapsOf kq_1125 ⟨rfl, rfl, Nat.le_of_ble_eq_true rfl, Nat.le_of_ble_eq_true rfl⟩ rfl (Nat.le_of_ble_eq_true rfl) dX9_word_138 ⟨Nat.zero_le _, Nat.zero_le _⟩ (fun r18 σ17 H locs hq hP hS => ?_)
                  exact kr_iret C0 hK hP hS hq dX9_word_141
                · have hq := hq.2 hsw6
                  refine lv_tableOut (tgt := 142) hx hb dX9_word_43 (kt_0_6 (x := v2) hsw0 hsw1 hsw2 hsw3 hsw4 hsw5 hsw6) (by decide) ?_
                  refine lv_aload_n hx hb dX9_word_142 rfl (lv_at hl 0 rfl) ?_
                  refine kg_X9_now C0 hK hP (kv_s (by decide) (by decide)) kq_960 dX9_word_143 ?_
                  refine lv_iload_n hx hb dX9_word_146 rfl (lv_at hl 1 rfl) ?_
                  refine lv_iconst (v := 2) hx hb dX9_word_147 (by decide) ?_
                  refine kr_Si (As := [.int v1, .int (2 : Int32)]) (rest := [.ref (ka_a G (37, 0, 0))]) C0 hK hP hS hl (km_X9_cell l hI hq) kd_X9_cell kq_1102 ⟨rfl, rfl, Nat.le_of_ble_eq_true rfl, Nat.le_of_ble_eq_true rfl⟩ rfl (Nat.le_of_ble_eq_true rfl) dX9_word_148 ⟨Nat.zero_le _, Nat.zero_le _⟩ (fun r20 σ19 H locs hq hP hS => ?_)
                  obtain ⟨b21, hq⟩ := hq
                  refine kr_lald C0 hK hP (kv_s (by decide) (by decide)) rfl b21 dX9_word_151 ?_
                  refine lv_l2i hx hb dX9_word_152 rfl ?_
                  exact kr_iret C0 hK hP hS hq dX9_word_153
  · have hq := hq.2 hc
    refine lv_iconst (v := 0) hx hb dX9_word_36 (by decide) ?_
    exact kr_iret C0 hK hP hS hq dX9_word_37
set_option maxHeartbeats 4000000 in
set_option maxRecDepth 100000 in
theorem km_X9_word (l : Launch) {G : ka_G} (hI : ka_I G) {σ : ka_S} {v1 : Int32} {v2 : Int32} {Q : Int32 → ka_S → Prop} (hq : kw_X9_word σ v1 v2 Q) : kc_i l yX9_word (kw_ yX9_word cX9_word 3 (some .int)) rm_X9_word G [.ref (ka_a G (25, 0, 0)), .int v1, .int v2] σ Q := by
  refine ka_of "GlossRowsModel" rfl (by decide) (Nat.le_of_ble_eq_true rfl) ?_
  intro p e s m below meth c C0 hK H locs hP hS ls hl
  obtain ⟨hx, hb, -, hml, hown, hts, -⟩ := id C0
  have hl : lv_has ls 3 [(0, .ref (ka_a G (25, 0, 0))), (1, .int v1), (2, .int v2)] := hl
  unfold kw_X9_word at hq
  refine lv_aload_n hx hb dX9_word_0 rfl (lv_at hl 0 rfl) ?_
  refine lv_aload_n hx hb dX9_word_1 rfl (lv_at hl 0 rfl) ?_
  refine lv_iload_n hx hb dX9_word_2 rfl (lv_at hl 1 rfl) ?_
  refine kr_Vi (k := (25, 0, 0)) (As := [.int v1]) (rest := [.ref (ka_a G (25, 0, 0))]) C0 hK hP hS hl (km_X9_isWord l hI hq) kd_X9_isWord kq_1138 (kv_s (by decide) (by decide)) rfl rfl rfl ⟨rfl, rfl, Nat.le_of_ble_eq_true rfl, Nat.le_of_ble_eq_true rfl⟩ rfl (Nat.le_of_ble_eq_true rfl) dX9_word_3 ⟨Nat.zero_le _, Nat.zero_le _⟩ (fun r2 σ1 H locs hq hP hS => ?_)
  refine lv_if_ne (tgt := 13) hx hb dX9_word_6 (by decide) (fun hc => ?_) (fun hc => ?_)
  · have hq := hq.2 hc
    refine lv_iload_n hx hb dX9_word_13 rfl (lv_at hl 2 rfl) ?_
    refine lv_i2l hx hb dX9_word_14 rfl ?_
    refine lv_lconst (v := 0) hx hb dX9_word_15 (by decide) ?_
    refine lv_ldc2 hx hb hown (hts _ kq_1145) dX9_word_16 ?_
    refine kr_Si (As := [.long v2.toInt64, .long (0 : Int64), .long (7 : Int64)]) (rest := [.ref (ka_a G (25, 0, 0))]) C0 hK hP hS hl (km_X9_in l hI hq) kd_X9_in kq_1031 ⟨rfl, rfl, Nat.le_of_ble_eq_true rfl, Nat.le_of_ble_eq_true rfl⟩ rfl (Nat.le_of_ble_eq_true rfl) dX9_word_19 ⟨Nat.zero_le _, Nat.zero_le _⟩ (fun r4 σ3 H locs hq hP hS => ?_)
    refine lv_if_ne (tgt := 29) hx hb dX9_word_22 (by decide) (fun hc => ?_) (fun hc => ?_)
    · have hq := hq.2 hc
      refine lv_iconst (v := 0) hx hb dX9_word_29 (by decide) ?_
      exact kb_X9_word_30 hI C0 hK σ3 v1 v2 (0 : Int32) hq H locs hP hS ls (lv_sub hl [0, 1, 2] rfl)
    · have hq := hq.1 hc
      refine lv_iconst (v := 2) hx hb dX9_word_25 (by decide) ?_
      refine lv_goto (tgt := 30) hx hb dX9_word_26 (by decide) ?_
      exact kb_X9_word_30 hI C0 hK σ3 v1 v2 (2 : Int32) hq H locs hP hS ls (lv_sub hl [0, 1, 2] rfl)
  · have hq := hq.1 hc
    refine lv_iconst (v := 1) hx hb dX9_word_9 (by decide) ?_
    refine lv_goto (tgt := 30) hx hb dX9_word_10 (by decide) ?_
    exact kb_X9_word_30 hI C0 hK σ1 v1 v2 (1 : Int32) hq H locs hP hS ls (lv_sub hl [0, 1, 2] rfl)
/-! GlossRowsModel.isPart(II)Z -/
def rm_X9_isPart : Room := { frames := 3, cells := 0, slots := 0, locals := 68 }
def kw_X9_isPart (σ : ka_S) (v1 : Int32) (v2 : Int32) (Q : Int32 → ka_S → Prop) : Prop := kw_X9_isPartOf σ (37, 0, 0) v1 v2 (fun r2 σ1 => 
  (r2 = 0 ∨ r2 = 1) ∧
  Q r2 σ1)
set_option maxHeartbeats 4000000 in
set_option maxRecDepth 100000 in
theorem km_X9_isPart (l : Launch) {G : ka_G} (hI : ka_I G) {σ : ka_S} {v1 : Int32} {v2 : Int32} {Q : Int32 → ka_S → Prop} (hq : kw_X9_isPart σ v1 v2 Q) : kc_i l yX9_isPart (kw_ yX9_isPart cX9_isPart 3 (some .boolean)) rm_X9_isPart G [.ref (ka_a G (25, 0, 0)), .int v1, .int v2] σ Q := by
  refine ka_of "GlossRowsModel" rfl (by decide) (Nat.le_of_ble_eq_true rfl) ?_
  intro p e s m below meth c C0 hK H locs hP hS ls hl
  obtain ⟨hx, hb, -, hml, hown, hts, -⟩ := id C0
  have hl : lv_has ls 3 [(0, .ref (ka_a G (25, 0, 0))), (1, .int v1), (2, .int v2)] := hl
  unfold kw_X9_isPart at hq
  refine lv_aload_n hx hb dX9_isPart_0 rfl (lv_at hl 0 rfl) ?_
  refine kg_X9_now C0 hK hP (kv_s (by decide) (by decide)) kq_960 dX9_isPart_1 ?_
  refine lv_iload_n hx hb dX9_isPart_4 rfl (lv_at hl 1 rfl) ?_
  refine lv_iload_n hx hb dX9_isPart_5 rfl (lv_at hl 2 rfl) ?_
  refine kr_Si (As := [.ref (ka_a G (37, 0, 0)), .int v1, .int v2]) (rest := []) C0 hK hP hS hl (km_X9_isPartOf l hI kl_37 hq) kd_X9_isPartOf kq_1154 ⟨rfl, rfl, Nat.le_of_ble_eq_true rfl, Nat.le_of_ble_eq_true rfl⟩ rfl (Nat.le_of_ble_eq_true rfl) dX9_isPart_6 ⟨Nat.zero_le _, Nat.zero_le _⟩ (fun r2 σ1 H locs hq hP hS => ?_)
  obtain ⟨hz, hq⟩ := hq
  exact kr_zret C0 hK hP hS (kz_n hz) hq dX9_isPart_9
/-! GlossRowsModel.part(III)I -/
def rm_X9_part : Room := { frames := 4, cells := 0, slots := 0, locals := 90 }
def kw_X9_part_31 (Q : Int32 → ka_S → Prop) (σ : ka_S) (v1 : Int32) (v2 : Int32) (v3 : Int32) (t1 : Int32) : Prop := kw_X9_refused σ t1 (fun r6 σ5 => 
  (r6 = (0 : Int32) → (v3 = (0 : Int32) → kw_X9_partAt σ5 v1 v2 (fun r8 σ7 => 
    vp_in r8 253 ∧
    kw_X9_lettersOf σ7 (σ7.2 (37, 0, 0) r8.toNatClampNeg) (fun r11 σ10 => 
    Q r11 σ10))) ∧
    (¬ v3 = (0 : Int32) → (v3 = (1 : Int32) → kw_X9_glossAt σ5 v1 v2 (fun r13 σ12 => 
    vp_in r13 253 ∧
    kw_X9_lettersOf σ12 (σ12.2 (37, 0, 0) r13.toNatClampNeg) (fun r16 σ15 => 
    Q r16 σ15))) ∧
    (¬ v3 = (1 : Int32) → (v3 = (2 : Int32) → (v2 = (0 : Int32) → Q (-9 : Int32) σ5) ∧
    (¬ v2 = (0 : Int32) → kw_X9_mark σ5 v1 v2 (fun r18 σ17 => 
      vp_in r18 253 ∧
      Q ((σ17.2 (37, 0, 0) r18.toNatClampNeg).toInt32) σ17))) ∧
    (¬ v3 = (2 : Int32) → kw_X9_partAt σ5 v1 v2 (fun r21 σ20 => 
    vp_in r21 253 ∧
    kw_X9_entryOf σ20 (37, 0, 0) (σ20.2 (37, 0, 0) r21.toNatClampNeg) (fun r24 σ23 => 
    Q r24 σ23)))))) ∧
  (¬ r6 = (0 : Int32) → Q (0 : Int32) σ5))
def kw_X9_part (σ : ka_S) (v1 : Int32) (v2 : Int32) (v3 : Int32) (Q : Int32 → ka_S → Prop) : Prop := kw_X9_isPart σ v1 v2 (fun r2 σ1 => 
  (r2 = (0 : Int32) → kw_X9_part_31 Q σ1 v1 v2 v3 (1 : Int32)) ∧
  (¬ r2 = (0 : Int32) → kw_X9_in σ1 v3.toInt64 (0 : Int64) (3 : Int64) (fun r4 σ3 => 
    (r4 = (0 : Int32) → kw_X9_part_31 Q σ3 v1 v2 v3 (2 : Int32)) ∧
    (¬ r4 = (0 : Int32) → kw_X9_part_31 Q σ3 v1 v2 v3 (0 : Int32)))))
set_option maxHeartbeats 4000000 in
set_option maxRecDepth 100000 in
theorem kb_X9_part_31 {p : Program} {l : Launch} {e : Env} {s : State} {m : MethodId} {args : Array Value} {below : List Frame} {meth : Method} {c : Code} {G : ka_G} (hI : ka_I G) (C0 : ka_C p s m args meth c cX9_part 4 "GlossRowsModel" (some .int)) (hK : ka_Kn G s) {Q : Int32 → ka_S → Prop} : ∀ (σ : ka_S) (v1 : Int32) (v2 : Int32) (v3 : Int32) (t1 : Int32), kw_X9_part_31 Q σ v1 v2 v3 t1 → ∀ (H : Heap) (locs : List Loc), ka_P G σ H → va_S (ka_A G) s.heap H locs → ∀ ls : Array Slot, lv_has ls 4 [(0, .ref (ka_a G (25, 0, 0))), (1, .int v1), (2, .int v2), (3, .int v3)] → W p l e rm_X9_part s m args below meth c H locs 0 0 (MQ below (va_Qi Q (ka_B G) (ka_A G)) args s 0 0 (ka_A G)) (F0 m 31 ls [.int t1, .ref (ka_a G (25, 0, 0))]) := by
  obtain ⟨hx, hb, -, hml, hown, hts, -⟩ := id C0
  intro σ v1 v2 v3 t1 hq H locs hP hS ls hl
  unfold kw_X9_part_31 at hq
  refine kr_Vi (k := (25, 0, 0)) (As := [.int t1]) (rest := []) C0 hK hP hS hl (km_X9_refused l hI hq) kd_X9_refused kq_1034 (kv_s (by decide) (by decide)) rfl rfl rfl ⟨rfl, rfl, Nat.le_of_ble_eq_true rfl, Nat.le_of_ble_eq_true rfl⟩ rfl (Nat.le_of_ble_eq_true rfl) dX9_part_31 ⟨Nat.zero_le _, Nat.zero_le _⟩ (fun r6 σ5 H locs hq hP hS => ?_)
  refine lv_if_eq (tgt := 39) hx hb dX9_part_34 (by decide) (fun hc => ?_) (fun hc => ?_)
  · have hq := hq.1 hc
    refine lv_iload_n hx hb dX9_part_39 rfl (lv_at hl 3 rfl) ?_
    by_cases hsw0 : v3 = (0 : Int32)
    · have hq := hq.1 hsw0
      refine lv_tableIn (off := 28) (tgt := 68) hx hb dX9_part_40 (by rw [hsw0]; decide) (by rw [hsw0]; decide) (by rw [hsw0]; decide) (by decide) ?_
      refine lv_aload_n hx hb dX9_part_68 rfl (lv_at hl 0 rfl) ?_
      refine kg_X9_now C0 hK hP (kv_s (by decide) (by decide)) kq_960 dX9_part_69 ?_
      refine lv_iload_n hx hb dX9_part_72 rfl (lv_at hl 1 rfl) ?_
      refine lv_iload_n hx hb dX9_part_73 rfl (lv_at hl 2 rfl) ?_
      refine kr_Si (As := [.int v1, .int v2]) (rest := [.ref (ka_a G (37, 0, 0))]) C0 hK hP hS hl (km_X9_partAt l hI hq) kd_X9_partAt kq_1105 ⟨rfl, rfl, Nat.le_of_ble_eq_true rfl, Nat.le_of_ble_eq_true rfl⟩ rfl (Nat.le_of_ble_eq_true rfl) dX9_part_74 ⟨Nat.zero_le _, Nat.zero_le _⟩ (fun r8 σ7 H locs hq hP hS => ?_)
      obtain ⟨b9, hq⟩ := hq
      refine kr_lald C0 hK hP (kv_s (by decide) (by decide)) rfl b9 dX9_part_77 ?_
      refine kr_Si (As := [.long (σ7.2 (37, 0, 0) r8.toNatClampNeg)]) (rest := []) C0 hK hP hS hl (km_X9_lettersOf l hI hq) kd_X9_lettersOf kq_1108 ⟨rfl, rfl, Nat.le_of_ble_eq_true rfl, Nat.le_of_ble_eq_true rfl⟩ rfl (Nat.le_of_ble_eq_true rfl) dX9_part_78 ⟨Nat.zero_le _, Nat.zero_le _⟩ (fun r11 σ10 H locs hq hP hS => ?_)
      exact kr_iret C0 hK hP hS hq dX9_part_81
    · have hq := hq.2 hsw0
      by_cases hsw1 : v3 = (1 : Int32)
      · have hq := hq.1 hsw1
        refine lv_tableIn (off := 42) (tgt := 82) hx hb dX9_part_40 (by rw [hsw1]; decide) (by rw [hsw1]; decide) (by rw [hsw1]; decide) (by decide) ?_
        refine lv_aload_n hx hb dX9_part_82 rfl (lv_at hl 0 rfl) ?_
        refine kg_X9_now C0 hK hP (kv_s (by decide) (by decide)) kq_960 dX9_part_83 ?_
        refine lv_iload_n hx hb dX9_part_86 rfl (lv_at hl 1 rfl) ?_
        refine lv_iload_n hx hb dX9_part_87 rfl (lv_at hl 2 rfl) ?_
        refine kr_Si (As := [.int v1, .int v2]) (rest := [.ref (ka_a G (37, 0, 0))]) C0 hK hP hS hl (km_X9_glossAt l hI hq) kd_X9_glossAt kq_1115 ⟨rfl, rfl, Nat.le_of_ble_eq_true rfl, Nat.le_of_ble_eq_true rfl⟩ rfl (Nat.le_of_ble_eq_true rfl) dX9_part_88 ⟨Nat.zero_le _, Nat.zero_le _⟩ (fun r13 σ12 H locs hq hP hS => ?_)
        obtain ⟨b14, hq⟩ := hq
        refine kr_lald C0 hK hP (kv_s (by decide) (by decide)) rfl b14 dX9_part_91 ?_
        refine kr_Si (As := [.long (σ12.2 (37, 0, 0) r13.toNatClampNeg)]) (rest := []) C0 hK hP hS hl (km_X9_lettersOf l hI hq) kd_X9_lettersOf kq_1108 ⟨rfl, rfl, Nat.le_of_ble_eq_true rfl, Nat.le_of_ble_eq_true rfl⟩ rfl (Nat.le_of_ble_eq_true rfl) dX9_part_92 ⟨Nat.zero_le _, Nat.zero_le _⟩ (fun r16 σ15 H locs hq hP hS => ?_)
        exact kr_iret C0 hK hP hS hq dX9_part_95
      · have hq := hq.2 hsw1
        by_cases hsw2 : v3 = (2 : Int32)
        · have hq := hq.1 hsw2
          refine lv_tableIn (off := 56) (tgt := 96) hx hb dX9_part_40 (by rw [hsw2]; decide) (by rw [hsw2]; decide) (by rw [hsw2]; decide) (by decide) ?_
          refine lv_iload_n hx hb dX9_part_96 rfl (lv_at hl 2 rfl) ?_
          refine lv_if_ne (tgt := 105) hx hb dX9_part_97 (by decide) (fun hc => ?_) (fun hc => ?_)
          · have hq := hq.2 hc
            refine lv_aload_n hx hb dX9_part_105 rfl (lv_at hl 0 rfl) ?_
            refine kg_X9_now C0 hK hP (kv_s (by decide) (by decide)) kq_960 dX9_part_106 ?_
            refine lv_iload_n hx hb dX9_part_109 rfl (lv_at hl 1 rfl) ?_
            refine lv_iload_n hx hb dX9_part_110 rfl (lv_at hl 2 rfl) ?_
            refine kr_Si (As := [.int v1, .int v2]) (rest := [.ref (ka_a G (37, 0, 0))]) C0 hK hP hS hl (km_X9_mark l hI hq) kd_X9_mark kq_1158 ⟨rfl, rfl, Nat.le_of_ble_eq_true rfl, Nat.le_of_ble_eq_true rfl⟩ rfl (Nat.le_of_ble_eq_true rfl) dX9_part_111 ⟨Nat.zero_le _, Nat.zero_le _⟩ (fun r18 σ17 H locs hq hP hS => ?_)
            obtain ⟨b19, hq⟩ := hq
            refine kr_lald C0 hK hP (kv_s (by decide) (by decide)) rfl b19 dX9_part_114 ?_
            refine lv_l2i hx hb dX9_part_115 rfl ?_
            exact kr_iret C0 hK hP hS hq dX9_part_116
          · have hq := hq.1 hc
            refine lv_bipush (v := -9) hx hb dX9_part_100 (by decide) ?_
            refine lv_goto (tgt := 116) hx hb dX9_part_102 (by decide) ?_
            exact kr_iret C0 hK hP hS hq dX9_part_116
        · have hq := hq.2 hsw2
          refine lv_tableOut (tgt := 117) hx hb dX9_part_40 (kt_0_2 (x := v3) hsw0 hsw1 hsw2) (by decide) ?_
          refine lv_aload_n hx hb dX9_part_117 rfl (lv_at hl 0 rfl) ?_
          refine kg_X9_now C0 hK hP (kv_s (by decide) (by decide)) kq_960 dX9_part_118 ?_
          refine lv_aload_n hx hb dX9_part_121 rfl (lv_at hl 0 rfl) ?_
          refine kg_X9_now C0 hK hP (kv_s (by decide) (by decide)) kq_960 dX9_part_122 ?_
          refine lv_iload_n hx hb dX9_part_125 rfl (lv_at hl 1 rfl) ?_
          refine lv_iload_n hx hb dX9_part_126 rfl (lv_at hl 2 rfl) ?_
          refine kr_Si (As := [.int v1, .int v2]) (rest := [.ref (ka_a G (37, 0, 0)), .ref (ka_a G (37, 0, 0))]) C0 hK hP hS hl (km_X9_partAt l hI hq) kd_X9_partAt kq_1105 ⟨rfl, rfl, Nat.le_of_ble_eq_true rfl, Nat.le_of_ble_eq_true rfl⟩ rfl (Nat.le_of_ble_eq_true rfl) dX9_part_127 ⟨Nat.zero_le _, Nat.zero_le _⟩ (fun r21 σ20 H locs hq hP hS => ?_)
          obtain ⟨b22, hq⟩ := hq
          refine kr_lald C0 hK hP (kv_s (by decide) (by decide)) rfl b22 dX9_part_130 ?_
          refine kr_Si (As := [.ref (ka_a G (37, 0, 0)), .long (σ20.2 (37, 0, 0) r21.toNatClampNeg)]) (rest := []) C0 hK hP hS hl (km_X9_entryOf l hI kl_37 hq) kd_X9_entryOf kq_1131 ⟨rfl, rfl, Nat.le_of_ble_eq_true rfl, Nat.le_of_ble_eq_true rfl⟩ rfl (Nat.le_of_ble_eq_true rfl) dX9_part_131 ⟨Nat.zero_le _, Nat.zero_le _⟩ (fun r24 σ23 H locs hq hP hS => ?_)
          exact kr_iret C0 hK hP hS hq dX9_part_134
  · have hq := hq.2 hc
    refine lv_iconst (v := 0) hx hb dX9_part_37 (by decide) ?_
    exact kr_iret C0 hK hP hS hq dX9_part_38
set_option maxHeartbeats 4000000 in
set_option maxRecDepth 100000 in
theorem km_X9_part (l : Launch) {G : ka_G} (hI : ka_I G) {σ : ka_S} {v1 : Int32} {v2 : Int32} {v3 : Int32} {Q : Int32 → ka_S → Prop} (hq : kw_X9_part σ v1 v2 v3 Q) : kc_i l yX9_part (kw_ yX9_part cX9_part 4 (some .int)) rm_X9_part G [.ref (ka_a G (25, 0, 0)), .int v1, .int v2, .int v3] σ Q := by
  refine ka_of "GlossRowsModel" rfl (by decide) (Nat.le_of_ble_eq_true rfl) ?_
  intro p e s m below meth c C0 hK H locs hP hS ls hl
  obtain ⟨hx, hb, -, hml, hown, hts, -⟩ := id C0
  have hl : lv_has ls 4 [(0, .ref (ka_a G (25, 0, 0))), (1, .int v1), (2, .int v2), (3, .int v3)] := hl
  unfold kw_X9_part at hq
  refine lv_aload_n hx hb dX9_part_0 rfl (lv_at hl 0 rfl) ?_
  refine lv_aload_n hx hb dX9_part_1 rfl (lv_at hl 0 rfl) ?_
  refine lv_iload_n hx hb dX9_part_2 rfl (lv_at hl 1 rfl) ?_
  refine lv_iload_n hx hb dX9_part_3 rfl (lv_at hl 2 rfl) ?_
  refine kr_Vi (k := (25, 0, 0)) (As := [.int v1, .int v2]) (rest := [.ref (ka_a G (25, 0, 0))]) C0 hK hP hS hl (km_X9_isPart l hI hq) kd_X9_isPart kq_1150 (kv_s (by decide) (by decide)) rfl rfl rfl ⟨rfl, rfl, Nat.le_of_ble_eq_true rfl, Nat.le_of_ble_eq_true rfl⟩ rfl (Nat.le_of_ble_eq_true rfl) dX9_part_4 ⟨Nat.zero_le _, Nat.zero_le _⟩ (fun r2 σ1 H locs hq hP hS => ?_)
  refine lv_if_ne (tgt := 14) hx hb dX9_part_7 (by decide) (fun hc => ?_) (fun hc => ?_)
  · have hq := hq.2 hc
    refine lv_iload_n hx hb dX9_part_14 rfl (lv_at hl 3 rfl) ?_
    refine lv_i2l hx hb dX9_part_15 rfl ?_
    refine lv_lconst (v := 0) hx hb dX9_part_16 (by decide) ?_
    refine lv_ldc2 hx hb hown (hts _ kq_1157) dX9_part_17 ?_
    refine kr_Si (As := [.long v3.toInt64, .long (0 : Int64), .long (3 : Int64)]) (rest := [.ref (ka_a G (25, 0, 0))]) C0 hK hP hS hl (km_X9_in l hI hq) kd_X9_in kq_1031 ⟨rfl, rfl, Nat.le_of_ble_eq_true rfl, Nat.le_of_ble_eq_true rfl⟩ rfl (Nat.le_of_ble_eq_true rfl) dX9_part_20 ⟨Nat.zero_le _, Nat.zero_le _⟩ (fun r4 σ3 H locs hq hP hS => ?_)
    refine lv_if_ne (tgt := 30) hx hb dX9_part_23 (by decide) (fun hc => ?_) (fun hc => ?_)
    · have hq := hq.2 hc
      refine lv_iconst (v := 0) hx hb dX9_part_30 (by decide) ?_
      exact kb_X9_part_31 hI C0 hK σ3 v1 v2 v3 (0 : Int32) hq H locs hP hS ls (lv_sub hl [0, 1, 2, 3] rfl)
    · have hq := hq.1 hc
      refine lv_iconst (v := 2) hx hb dX9_part_26 (by decide) ?_
      refine lv_goto (tgt := 31) hx hb dX9_part_27 (by decide) ?_
      exact kb_X9_part_31 hI C0 hK σ3 v1 v2 v3 (2 : Int32) hq H locs hP hS ls (lv_sub hl [0, 1, 2, 3] rfl)
  · have hq := hq.1 hc
    refine lv_iconst (v := 1) hx hb dX9_part_10 (by decide) ?_
    refine lv_goto (tgt := 31) hx hb dX9_part_11 (by decide) ?_
    exact kb_X9_part_31 hI C0 hK σ1 v1 v2 v3 (1 : Int32) hq H locs hP hS ls (lv_sub hl [0, 1, 2, 3] rfl)
/-! GlossRowsModel.letter(IIZI)I -/
def rm_X9_letter : Room := { frames := 4, cells := 0, slots := 0, locals := 90 }
def kw_X9_letter_59 (Q : Int32 → ka_S → Prop) (σ : ka_S) (v4 : Int32) (t0 : Int64) : Prop := kw_X9_letterOf σ t0 v4 (fun r12 σ11 => 
  Q r12 σ11)
def kw_X9_letter_24 (Q : Int32 → ka_S → Prop) (σ : ka_S) (v1 : Int32) (v2 : Int32) (v3 : Int32) (v4 : Int32) (t1 : Int32) : Prop := kw_X9_refused σ t1 (fun r4 σ3 => 
  (r4 = (0 : Int32) → (v3 = (0 : Int32) → kw_X9_partAt σ3 v1 v2 (fun r6 σ5 => 
      vp_in r6 253 ∧
      kw_X9_letter_59 Q σ5 v4 (σ5.2 (37, 0, 0) r6.toNatClampNeg))) ∧
    (¬ v3 = (0 : Int32) → kw_X9_glossAt σ3 v1 v2 (fun r9 σ8 => 
      vp_in r9 253 ∧
      kw_X9_letter_59 Q σ8 v4 (σ8.2 (37, 0, 0) r9.toNatClampNeg)))) ∧
  (¬ r4 = (0 : Int32) → Q (0 : Int32) σ3))
def kw_X9_letter (σ : ka_S) (v1 : Int32) (v2 : Int32) (v3 : Int32) (v4 : Int32) (Q : Int32 → ka_S → Prop) : Prop := kw_X9_isPart σ v1 v2 (fun r2 σ1 => 
  (r2 = (0 : Int32) → kw_X9_letter_24 Q σ1 v1 v2 v3 v4 (1 : Int32)) ∧
  (¬ r2 = (0 : Int32) → ((0 : Int32) ≤ v4 → kw_X9_letter_24 Q σ1 v1 v2 v3 v4 (0 : Int32)) ∧
    (¬ (0 : Int32) ≤ v4 → kw_X9_letter_24 Q σ1 v1 v2 v3 v4 (2 : Int32))))
set_option maxHeartbeats 4000000 in
set_option maxRecDepth 100000 in
theorem kb_X9_letter_59 {p : Program} {l : Launch} {e : Env} {s : State} {m : MethodId} {args : Array Value} {below : List Frame} {meth : Method} {c : Code} {G : ka_G} (hI : ka_I G) (C0 : ka_C p s m args meth c cX9_letter 5 "GlossRowsModel" (some .int)) (hK : ka_Kn G s) {Q : Int32 → ka_S → Prop} : ∀ (σ : ka_S) (v4 : Int32) (t0 : Int64), kw_X9_letter_59 Q σ v4 t0 → ∀ (H : Heap) (locs : List Loc), ka_P G σ H → va_S (ka_A G) s.heap H locs → ∀ ls : Array Slot, lv_has ls 5 [(4, .int v4)] → W p l e rm_X9_letter s m args below meth c H locs 0 0 (MQ below (va_Qi Q (ka_B G) (ka_A G)) args s 0 0 (ka_A G)) (F0 m 59 ls [.long t0]) := by
  obtain ⟨hx, hb, -, hml, hown, hts, -⟩ := id C0
  intro σ v4 t0 hq H locs hP hS ls hl
  unfold kw_X9_letter_59 at hq
  refine lv_iload hx hb dX9_letter_59 (lv_at hl 0 rfl) ?_
  refine kr_Si (As := [.long t0, .int v4]) (rest := []) C0 hK hP hS hl (km_X9_letterOf l hI hq) kd_X9_letterOf kq_1165 ⟨rfl, rfl, Nat.le_of_ble_eq_true rfl, Nat.le_of_ble_eq_true rfl⟩ rfl (Nat.le_of_ble_eq_true rfl) dX9_letter_61 ⟨Nat.zero_le _, Nat.zero_le _⟩ (fun r12 σ11 H locs hq hP hS => ?_)
  exact kr_iret C0 hK hP hS hq dX9_letter_64
set_option maxHeartbeats 4000000 in
set_option maxRecDepth 100000 in
theorem kb_X9_letter_24 {p : Program} {l : Launch} {e : Env} {s : State} {m : MethodId} {args : Array Value} {below : List Frame} {meth : Method} {c : Code} {G : ka_G} (hI : ka_I G) (C0 : ka_C p s m args meth c cX9_letter 5 "GlossRowsModel" (some .int)) (hK : ka_Kn G s) {Q : Int32 → ka_S → Prop} : ∀ (σ : ka_S) (v1 : Int32) (v2 : Int32) (v3 : Int32) (v4 : Int32) (t1 : Int32), kw_X9_letter_24 Q σ v1 v2 v3 v4 t1 → ∀ (H : Heap) (locs : List Loc), ka_P G σ H → va_S (ka_A G) s.heap H locs → ∀ ls : Array Slot, lv_has ls 5 [(0, .ref (ka_a G (25, 0, 0))), (1, .int v1), (2, .int v2), (3, .int v3), (4, .int v4)] → W p l e rm_X9_letter s m args below meth c H locs 0 0 (MQ below (va_Qi Q (ka_B G) (ka_A G)) args s 0 0 (ka_A G)) (F0 m 24 ls [.int t1, .ref (ka_a G (25, 0, 0))]) := by
  obtain ⟨hx, hb, -, hml, hown, hts, -⟩ := id C0
  intro σ v1 v2 v3 v4 t1 hq H locs hP hS ls hl
  unfold kw_X9_letter_24 at hq
  refine kr_Vi (k := (25, 0, 0)) (As := [.int t1]) (rest := []) C0 hK hP hS hl (km_X9_refused l hI hq) kd_X9_refused kq_1034 (kv_s (by decide) (by decide)) rfl rfl rfl ⟨rfl, rfl, Nat.le_of_ble_eq_true rfl, Nat.le_of_ble_eq_true rfl⟩ rfl (Nat.le_of_ble_eq_true rfl) dX9_letter_24 ⟨Nat.zero_le _, Nat.zero_le _⟩ (fun r4 σ3 H locs hq hP hS => ?_)
  refine lv_if_eq (tgt := 32) hx hb dX9_letter_27 (by decide) (fun hc => ?_) (fun hc => ?_)
  · have hq := hq.1 hc
    refine lv_iload_n hx hb dX9_letter_32 rfl (lv_at hl 3 rfl) ?_
    refine lv_if_eq (tgt := 49) hx hb dX9_letter_33 (by decide) (fun hc => ?_) (fun hc => ?_)
    · have hq := hq.1 hc
      refine lv_aload_n hx hb dX9_letter_49 rfl (lv_at hl 0 rfl) ?_
      refine kg_X9_now C0 hK hP (kv_s (by decide) (by decide)) kq_960 dX9_letter_50 ?_
      refine lv_iload_n hx hb dX9_letter_53 rfl (lv_at hl 1 rfl) ?_
      refine lv_iload_n hx hb dX9_letter_54 rfl (lv_at hl 2 rfl) ?_
      refine kr_Si (As := [.int v1, .int v2]) (rest := [.ref (ka_a G (37, 0, 0))]) C0 hK hP hS hl (km_X9_partAt l hI hq) kd_X9_partAt kq_1105 ⟨rfl, rfl, Nat.le_of_ble_eq_true rfl, Nat.le_of_ble_eq_true rfl⟩ rfl (Nat.le_of_ble_eq_true rfl) dX9_letter_55 ⟨Nat.zero_le _, Nat.zero_le _⟩ (fun r6 σ5 H locs hq hP hS => ?_)
      obtain ⟨b7, hq⟩ := hq
      refine kr_lald C0 hK hP (kv_s (by decide) (by decide)) rfl b7 dX9_letter_58 ?_
      exact kb_X9_letter_59 hI C0 hK σ5 v4 (σ5.2 (37, 0, 0) r6.toNatClampNeg) hq H locs hP hS ls (lv_sub hl [4] rfl)
    · have hq := hq.2 hc
      refine lv_aload_n hx hb dX9_letter_36 rfl (lv_at hl 0 rfl) ?_
      refine kg_X9_now C0 hK hP (kv_s (by decide) (by decide)) kq_960 dX9_letter_37 ?_
      refine lv_iload_n hx hb dX9_letter_40 rfl (lv_at hl 1 rfl) ?_
      refine lv_iload_n hx hb dX9_letter_41 rfl (lv_at hl 2 rfl) ?_
      refine kr_Si (As := [.int v1, .int v2]) (rest := [.ref (ka_a G (37, 0, 0))]) C0 hK hP hS hl (km_X9_glossAt l hI hq) kd_X9_glossAt kq_1115 ⟨rfl, rfl, Nat.le_of_ble_eq_true rfl, Nat.le_of_ble_eq_true rfl⟩ rfl (Nat.le_of_ble_eq_true rfl) dX9_letter_42 ⟨Nat.zero_le _, Nat.zero_le _⟩ (fun r9 σ8 H locs hq hP hS => ?_)
      obtain ⟨b10, hq⟩ := hq
      refine kr_lald C0 hK hP (kv_s (by decide) (by decide)) rfl b10 dX9_letter_45 ?_
      refine lv_goto (tgt := 59) hx hb dX9_letter_46 (by decide) ?_
      exact kb_X9_letter_59 hI C0 hK σ8 v4 (σ8.2 (37, 0, 0) r9.toNatClampNeg) hq H locs hP hS ls (lv_sub hl [4] rfl)
  · have hq := hq.2 hc
    refine lv_iconst (v := 0) hx hb dX9_letter_30 (by decide) ?_
    exact kr_iret C0 hK hP hS hq dX9_letter_31
set_option maxHeartbeats 4000000 in
set_option maxRecDepth 100000 in
theorem km_X9_letter (l : Launch) {G : ka_G} (hI : ka_I G) {σ : ka_S} {v1 : Int32} {v2 : Int32} {v3 : Int32} {v4 : Int32} {Q : Int32 → ka_S → Prop} (hq : kw_X9_letter σ v1 v2 v3 v4 Q) : kc_i l yX9_letter (kw_ yX9_letter cX9_letter 5 (some .int)) rm_X9_letter G [.ref (ka_a G (25, 0, 0)), .int v1, .int v2, .int v3, .int v4] σ Q := by
  refine ka_of "GlossRowsModel" rfl (by decide) (Nat.le_of_ble_eq_true rfl) ?_
  intro p e s m below meth c C0 hK H locs hP hS ls hl
  obtain ⟨hx, hb, -, hml, hown, hts, -⟩ := id C0
  have hl : lv_has ls 5 [(0, .ref (ka_a G (25, 0, 0))), (1, .int v1), (2, .int v2), (3, .int v3), (4, .int v4)] := hl
  unfold kw_X9_letter at hq
  refine lv_aload_n hx hb dX9_letter_0 rfl (lv_at hl 0 rfl) ?_
  refine lv_aload_n hx hb dX9_letter_1 rfl (lv_at hl 0 rfl) ?_
  refine lv_iload_n hx hb dX9_letter_2 rfl (lv_at hl 1 rfl) ?_
  refine lv_iload_n hx hb dX9_letter_3 rfl (lv_at hl 2 rfl) ?_
  refine kr_Vi (k := (25, 0, 0)) (As := [.int v1, .int v2]) (rest := [.ref (ka_a G (25, 0, 0))]) C0 hK hP hS hl (km_X9_isPart l hI hq) kd_X9_isPart kq_1150 (kv_s (by decide) (by decide)) rfl rfl rfl ⟨rfl, rfl, Nat.le_of_ble_eq_true rfl, Nat.le_of_ble_eq_true rfl⟩ rfl (Nat.le_of_ble_eq_true rfl) dX9_letter_4 ⟨Nat.zero_le _, Nat.zero_le _⟩ (fun r2 σ1 H locs hq hP hS => ?_)
  refine lv_if_ne (tgt := 14) hx hb dX9_letter_7 (by decide) (fun hc => ?_) (fun hc => ?_)
  · have hq := hq.2 hc
    refine lv_iload hx hb dX9_letter_14 (lv_at hl 4 rfl) ?_
    refine lv_if_ge (tgt := 23) hx hb dX9_letter_16 (by decide) (fun hc => ?_) (fun hc => ?_)
    · have hq := hq.1 hc
      refine lv_iconst (v := 0) hx hb dX9_letter_23 (by decide) ?_
      exact kb_X9_letter_24 hI C0 hK σ1 v1 v2 v3 v4 (0 : Int32) hq H locs hP hS ls (lv_sub hl [0, 1, 2, 3, 4] rfl)
    · have hq := hq.2 hc
      refine lv_iconst (v := 2) hx hb dX9_letter_19 (by decide) ?_
      refine lv_goto (tgt := 24) hx hb dX9_letter_20 (by decide) ?_
      exact kb_X9_letter_24 hI C0 hK σ1 v1 v2 v3 v4 (2 : Int32) hq H locs hP hS ls (lv_sub hl [0, 1, 2, 3, 4] rfl)
  · have hq := hq.1 hc
    refine lv_iconst (v := 1) hx hb dX9_letter_10 (by decide) ?_
    refine lv_goto (tgt := 24) hx hb dX9_letter_11 (by decide) ?_
    exact kb_X9_letter_24 hI C0 hK σ1 v1 v2 v3 v4 (1 : Int32) hq H locs hP hS ls (lv_sub hl [0, 1, 2, 3, 4] rfl)
/-! GlossRowsModel.isEntry(I)Z -/
def rm_X9_isEntry : Room := { frames := 1, cells := 0, slots := 0, locals := 25 }
def kw_X9_isEntry (σ : ka_S) (v1 : Int32) (Q : Int32 → ka_S → Prop) : Prop := vp_in (1 : Int32) 253 ∧
  kw_X9_in σ v1.toInt64 (0 : Int64) ((σ.2 (37, 0, 0) (1 : Int32).toNatClampNeg) - (1 : Int64)) (fun r3 σ2 => 
  (r3 = 0 ∨ r3 = 1) ∧
  Q r3 σ2)
set_option maxHeartbeats 4000000 in
set_option maxRecDepth 100000 in
theorem km_X9_isEntry (l : Launch) {G : ka_G} (hI : ka_I G) {σ : ka_S} {v1 : Int32} {Q : Int32 → ka_S → Prop} (hq : kw_X9_isEntry σ v1 Q) : kc_i l yX9_isEntry (kw_ yX9_isEntry cX9_isEntry 2 (some .boolean)) rm_X9_isEntry G [.ref (ka_a G (25, 0, 0)), .int v1] σ Q := by
  refine ka_of "GlossRowsModel" rfl (by decide) (Nat.le_of_ble_eq_true rfl) ?_
  intro p e s m below meth c C0 hK H locs hP hS ls hl
  obtain ⟨hx, hb, -, hml, hown, hts, -⟩ := id C0
  have hl : lv_has ls 2 [(0, .ref (ka_a G (25, 0, 0))), (1, .int v1)] := hl
  unfold kw_X9_isEntry at hq
  refine lv_iload_n hx hb dX9_isEntry_0 rfl (lv_at hl 1 rfl) ?_
  refine lv_i2l hx hb dX9_isEntry_1 rfl ?_
  refine lv_lconst (v := 0) hx hb dX9_isEntry_2 (by decide) ?_
  refine lv_aload_n hx hb dX9_isEntry_3 rfl (lv_at hl 0 rfl) ?_
  refine kg_X9_now C0 hK hP (kv_s (by decide) (by decide)) kq_960 dX9_isEntry_4 ?_
  refine lv_iconst (v := 1) hx hb dX9_isEntry_7 (by decide) ?_
  obtain ⟨b1, hq⟩ := hq
  refine kr_lald C0 hK hP (kv_s (by decide) (by decide)) rfl b1 dX9_isEntry_8 ?_
  refine lv_lconst (v := 1) hx hb dX9_isEntry_9 (by decide) ?_
  refine lv_lsub hx hb dX9_isEntry_10 ?_
  refine kr_Si (As := [.long v1.toInt64, .long (0 : Int64), .long ((σ.2 (37, 0, 0) (1 : Int32).toNatClampNeg) - (1 : Int64))]) (rest := []) C0 hK hP hS hl (km_X9_in l hI hq) kd_X9_in kq_1031 ⟨rfl, rfl, Nat.le_of_ble_eq_true rfl, Nat.le_of_ble_eq_true rfl⟩ rfl (Nat.le_of_ble_eq_true rfl) dX9_isEntry_11 ⟨Nat.zero_le _, Nat.zero_le _⟩ (fun r3 σ2 H locs hq hP hS => ?_)
  obtain ⟨hz, hq⟩ := hq
  exact kr_zret C0 hK hP hS (kz_n hz) hq dX9_isEntry_14
/-! GlossRowsModel.entry(IZI)I -/
def rm_X9_entry : Room := { frames := 2, cells := 0, slots := 0, locals := 46 }
def kw_X9_entry_50 (Q : Int32 → ka_S → Prop) (σ : ka_S) (v3 : Int32) (t1 : Int32) (t2 : Int32) : Prop := vp_in (t1 + t2) 253 ∧
  kw_X9_letterOf σ (σ.2 (37, 0, 0) (t1 + t2).toNatClampNeg) v3 (fun r7 σ6 => 
  Q r7 σ6)
def kw_X9_entry_22 (Q : Int32 → ka_S → Prop) (σ : ka_S) (v1 : Int32) (v2 : Int32) (v3 : Int32) (t1 : Int32) : Prop := kw_X9_refused σ t1 (fun r4 σ3 => 
  (r4 = (0 : Int32) → (v2 = (0 : Int32) → kw_X9_entry_50 Q σ3 v3 ((221 : Int32) + ((2 : Int32) * v1)) (0 : Int32)) ∧
    (¬ v2 = (0 : Int32) → kw_X9_entry_50 Q σ3 v3 ((221 : Int32) + ((2 : Int32) * v1)) (1 : Int32))) ∧
  (¬ r4 = (0 : Int32) → Q (0 : Int32) σ3))
def kw_X9_entry (σ : ka_S) (v1 : Int32) (v2 : Int32) (v3 : Int32) (Q : Int32 → ka_S → Prop) : Prop := kw_X9_isEntry σ v1 (fun r2 σ1 => 
  (r2 = (0 : Int32) → kw_X9_entry_22 Q σ1 v1 v2 v3 (1 : Int32)) ∧
  (¬ r2 = (0 : Int32) → ((0 : Int32) ≤ v3 → kw_X9_entry_22 Q σ1 v1 v2 v3 (0 : Int32)) ∧
    (¬ (0 : Int32) ≤ v3 → kw_X9_entry_22 Q σ1 v1 v2 v3 (2 : Int32))))
set_option maxHeartbeats 4000000 in
set_option maxRecDepth 100000 in
theorem kb_X9_entry_50 {p : Program} {l : Launch} {e : Env} {s : State} {m : MethodId} {args : Array Value} {below : List Frame} {meth : Method} {c : Code} {G : ka_G} (hI : ka_I G) (C0 : ka_C p s m args meth c cX9_entry 4 "GlossRowsModel" (some .int)) (hK : ka_Kn G s) {Q : Int32 → ka_S → Prop} : ∀ (σ : ka_S) (v3 : Int32) (t1 : Int32) (t2 : Int32), kw_X9_entry_50 Q σ v3 t1 t2 → ∀ (H : Heap) (locs : List Loc), ka_P G σ H → va_S (ka_A G) s.heap H locs → ∀ ls : Array Slot, lv_has ls 4 [(3, .int v3)] → W p l e rm_X9_entry s m args below meth c H locs 0 0 (MQ below (va_Qi Q (ka_B G) (ka_A G)) args s 0 0 (ka_A G)) (F0 m 50 ls [.int t2, .int t1, .ref (ka_a G (37, 0, 0))]) := by
  obtain ⟨hx, hb, -, hml, hown, hts, -⟩ := id C0
  intro σ v3 t1 t2 hq H locs hP hS ls hl
  unfold kw_X9_entry_50 at hq
  refine lv_iadd hx hb dX9_entry_50 ?_
  obtain ⟨b5, hq⟩ := hq
  refine kr_lald C0 hK hP (kv_s (by decide) (by decide)) rfl b5 dX9_entry_51 ?_
  refine lv_iload_n hx hb dX9_entry_52 rfl (lv_at hl 0 rfl) ?_
  refine kr_Si (As := [.long (σ.2 (37, 0, 0) (t1 + t2).toNatClampNeg), .int v3]) (rest := []) C0 hK hP hS hl (km_X9_letterOf l hI hq) kd_X9_letterOf kq_1165 ⟨rfl, rfl, Nat.le_of_ble_eq_true rfl, Nat.le_of_ble_eq_true rfl⟩ rfl (Nat.le_of_ble_eq_true rfl) dX9_entry_53 ⟨Nat.zero_le _, Nat.zero_le _⟩ (fun r7 σ6 H locs hq hP hS => ?_)
  exact kr_iret C0 hK hP hS hq dX9_entry_56
set_option maxHeartbeats 4000000 in
set_option maxRecDepth 100000 in
theorem kb_X9_entry_22 {p : Program} {l : Launch} {e : Env} {s : State} {m : MethodId} {args : Array Value} {below : List Frame} {meth : Method} {c : Code} {G : ka_G} (hI : ka_I G) (C0 : ka_C p s m args meth c cX9_entry 4 "GlossRowsModel" (some .int)) (hK : ka_Kn G s) {Q : Int32 → ka_S → Prop} : ∀ (σ : ka_S) (v1 : Int32) (v2 : Int32) (v3 : Int32) (t1 : Int32), kw_X9_entry_22 Q σ v1 v2 v3 t1 → ∀ (H : Heap) (locs : List Loc), ka_P G σ H → va_S (ka_A G) s.heap H locs → ∀ ls : Array Slot, lv_has ls 4 [(0, .ref (ka_a G (25, 0, 0))), (1, .int v1), (2, .int v2), (3, .int v3)] → W p l e rm_X9_entry s m args below meth c H locs 0 0 (MQ below (va_Qi Q (ka_B G) (ka_A G)) args s 0 0 (ka_A G)) (F0 m 22 ls [.int t1, .ref (ka_a G (25, 0, 0))]) := by
  obtain ⟨hx, hb, -, hml, hown, hts, -⟩ := id C0
  intro σ v1 v2 v3 t1 hq H locs hP hS ls hl
  unfold kw_X9_entry_22 at hq
  refine kr_Vi (k := (25, 0, 0)) (As := [.int t1]) (rest := []) C0 hK hP hS hl (km_X9_refused l hI hq) kd_X9_refused kq_1034 (kv_s (by decide) (by decide)) rfl rfl rfl ⟨rfl, rfl, Nat.le_of_ble_eq_true rfl, Nat.le_of_ble_eq_true rfl⟩ rfl (Nat.le_of_ble_eq_true rfl) dX9_entry_22 ⟨Nat.zero_le _, Nat.zero_le _⟩ (fun r4 σ3 H locs hq hP hS => ?_)
  refine lv_if_eq (tgt := 30) hx hb dX9_entry_25 (by decide) (fun hc => ?_) (fun hc => ?_)
  · have hq := hq.1 hc
    refine lv_aload_n hx hb dX9_entry_30 rfl (lv_at hl 0 rfl) ?_
    refine kg_X9_now C0 hK hP (kv_s (by decide) (by decide)) kq_960 dX9_entry_31 ?_
    refine lv_sipush (v := 221) hx hb dX9_entry_34 (by decide) ?_
    refine lv_iconst (v := 2) hx hb dX9_entry_37 (by decide) ?_
    refine lv_iload_n hx hb dX9_entry_38 rfl (lv_at hl 1 rfl) ?_
    refine lv_imul hx hb dX9_entry_39 ?_
    refine lv_iadd hx hb dX9_entry_40 ?_
    refine lv_iload_n hx hb dX9_entry_41 rfl (lv_at hl 2 rfl) ?_
    refine lv_if_eq (tgt := 49) hx hb dX9_entry_42 (by decide) (fun hc => ?_) (fun hc => ?_)
    · have hq := hq.1 hc
      refine lv_iconst (v := 0) hx hb dX9_entry_49 (by decide) ?_
      exact kb_X9_entry_50 hI C0 hK σ3 v3 ((221 : Int32) + ((2 : Int32) * v1)) (0 : Int32) hq H locs hP hS ls (lv_sub hl [3] rfl)
    · have hq := hq.2 hc
      refine lv_iconst (v := 1) hx hb dX9_entry_45 (by decide) ?_
      refine lv_goto (tgt := 50) hx hb dX9_entry_46 (by decide) ?_
      exact kb_X9_entry_50 hI C0 hK σ3 v3 ((221 : Int32) + ((2 : Int32) * v1)) (1 : Int32) hq H locs hP hS ls (lv_sub hl [3] rfl)
  · have hq := hq.2 hc
    refine lv_iconst (v := 0) hx hb dX9_entry_28 (by decide) ?_
    exact kr_iret C0 hK hP hS hq dX9_entry_29
set_option maxHeartbeats 4000000 in
set_option maxRecDepth 100000 in
theorem km_X9_entry (l : Launch) {G : ka_G} (hI : ka_I G) {σ : ka_S} {v1 : Int32} {v2 : Int32} {v3 : Int32} {Q : Int32 → ka_S → Prop} (hq : kw_X9_entry σ v1 v2 v3 Q) : kc_i l yX9_entry (kw_ yX9_entry cX9_entry 4 (some .int)) rm_X9_entry G [.ref (ka_a G (25, 0, 0)), .int v1, .int v2, .int v3] σ Q := by
  refine ka_of "GlossRowsModel" rfl (by decide) (Nat.le_of_ble_eq_true rfl) ?_
  intro p e s m below meth c C0 hK H locs hP hS ls hl
  obtain ⟨hx, hb, -, hml, hown, hts, -⟩ := id C0
  have hl : lv_has ls 4 [(0, .ref (ka_a G (25, 0, 0))), (1, .int v1), (2, .int v2), (3, .int v3)] := hl
  unfold kw_X9_entry at hq
  refine lv_aload_n hx hb dX9_entry_0 rfl (lv_at hl 0 rfl) ?_
  refine lv_aload_n hx hb dX9_entry_1 rfl (lv_at hl 0 rfl) ?_
  refine lv_iload_n hx hb dX9_entry_2 rfl (lv_at hl 1 rfl) ?_
  refine kr_Vi (k := (25, 0, 0)) (As := [.int v1]) (rest := [.ref (ka_a G (25, 0, 0))]) C0 hK hP hS hl (km_X9_isEntry l hI hq) kd_X9_isEntry kq_1172 (kv_s (by decide) (by decide)) rfl rfl rfl ⟨rfl, rfl, Nat.le_of_ble_eq_true rfl, Nat.le_of_ble_eq_true rfl⟩ rfl (Nat.le_of_ble_eq_true rfl) dX9_entry_3 ⟨Nat.zero_le _, Nat.zero_le _⟩ (fun r2 σ1 H locs hq hP hS => ?_)
  refine lv_if_ne (tgt := 13) hx hb dX9_entry_6 (by decide) (fun hc => ?_) (fun hc => ?_)
  · have hq := hq.2 hc
    refine lv_iload_n hx hb dX9_entry_13 rfl (lv_at hl 3 rfl) ?_
    refine lv_if_ge (tgt := 21) hx hb dX9_entry_14 (by decide) (fun hc => ?_) (fun hc => ?_)
    · have hq := hq.1 hc
      refine lv_iconst (v := 0) hx hb dX9_entry_21 (by decide) ?_
      exact kb_X9_entry_22 hI C0 hK σ1 v1 v2 v3 (0 : Int32) hq H locs hP hS ls (lv_sub hl [0, 1, 2, 3] rfl)
    · have hq := hq.2 hc
      refine lv_iconst (v := 2) hx hb dX9_entry_17 (by decide) ?_
      refine lv_goto (tgt := 22) hx hb dX9_entry_18 (by decide) ?_
      exact kb_X9_entry_22 hI C0 hK σ1 v1 v2 v3 (2 : Int32) hq H locs hP hS ls (lv_sub hl [0, 1, 2, 3] rfl)
  · have hq := hq.1 hc
    refine lv_iconst (v := 1) hx hb dX9_entry_9 (by decide) ?_
    refine lv_goto (tgt := 22) hx hb dX9_entry_10 (by decide) ?_
    exact kb_X9_entry_22 hI C0 hK σ1 v1 v2 v3 (1 : Int32) hq H locs hP hS ls (lv_sub hl [0, 1, 2, 3] rfl)
/-! GlossRowsModel.lengthOfRow(I)I -/
def rm_X9_lengthOfRow : Room := { frames := 1, cells := 0, slots := 0, locals := 21 }
def kw_X9_lengthOfRow (σ : ka_S) (v1 : Int32) (Q : Int32 → ka_S → Prop) : Prop := vp_in v1 72 ∧
  ((2 : Int32) ≤ (σ.1 (32, 0, 0) v1.toNatClampNeg) → vp_in v1 72 ∧
    kw_X9_cell σ (σ.1 (33, 0, 0) v1.toNatClampNeg) (2 : Int32) (fun r4 σ3 => 
    vp_in r4 253 ∧
    vp_in v1 72 ∧
    ∀ x7 : Int32, x7 = (((σ3.2 (37, 0, 0) r4.toNatClampNeg).toInt32) - (σ3.1 (34, 0, 0) v1.toNatClampNeg)) → 
    vp_in (2 : Int32) 253 ∧
    ((σ3.2 (37, 0, 0) (2 : Int32).toNatClampNeg) ≤ x7.toInt64 → vp_in (2 : Int32) 253 ∧
      Q ((σ3.2 (37, 0, 0) (2 : Int32).toNatClampNeg).toInt32) σ3) ∧
    (¬ (σ3.2 (37, 0, 0) (2 : Int32).toNatClampNeg) ≤ x7.toInt64 → Q x7 σ3))) ∧
  (¬ (2 : Int32) ≤ (σ.1 (32, 0, 0) v1.toNatClampNeg) → vp_in v1 72 ∧
    vp_in (σ.1 (33, 0, 0) v1.toNatClampNeg) 12 ∧
    Q (σ.1 (31, 0, 0) (σ.1 (33, 0, 0) v1.toNatClampNeg).toNatClampNeg) σ)
set_option maxHeartbeats 4000000 in
set_option maxRecDepth 100000 in
theorem km_X9_lengthOfRow (l : Launch) {G : ka_G} (hI : ka_I G) {σ : ka_S} {v1 : Int32} {Q : Int32 → ka_S → Prop} (hq : kw_X9_lengthOfRow σ v1 Q) : kc_i l yX9_lengthOfRow (kw_ yX9_lengthOfRow cX9_lengthOfRow 3 (some .int)) rm_X9_lengthOfRow G [.ref (ka_a G (25, 0, 0)), .int v1] σ Q := by
  refine ka_of "GlossRowsModel" rfl (by decide) (Nat.le_of_ble_eq_true rfl) ?_
  intro p e s m below meth c C0 hK H locs hP hS ls hl
  obtain ⟨hx, hb, -, hml, hown, hts, -⟩ := id C0
  have hl : lv_has ls 3 [(0, .ref (ka_a G (25, 0, 0))), (1, .int v1)] := hl
  unfold kw_X9_lengthOfRow at hq
  refine lv_aload_n hx hb dX9_lengthOfRow_0 rfl (lv_at hl 0 rfl) ?_
  refine kg_X9_rowKind C0 hK hP (kv_s (by decide) (by decide)) kq_974 dX9_lengthOfRow_1 ?_
  refine lv_iload_n hx hb dX9_lengthOfRow_4 rfl (lv_at hl 1 rfl) ?_
  obtain ⟨b1, hq⟩ := hq
  refine kr_iald C0 hK hP (kv_s (by decide) (by decide)) rfl b1 dX9_lengthOfRow_5 ?_
  refine lv_iconst (v := 2) hx hb dX9_lengthOfRow_6 (by decide) ?_
  refine lv_icmp_ge (tgt := 22) hx hb dX9_lengthOfRow_7 (by decide) (fun hc => ?_) (fun hc => ?_)
  · have hq := hq.1 hc
    refine lv_aload_n hx hb dX9_lengthOfRow_22 rfl (lv_at hl 0 rfl) ?_
    refine kg_X9_now C0 hK hP (kv_s (by decide) (by decide)) kq_960 dX9_lengthOfRow_23 ?_
    refine lv_aload_n hx hb dX9_lengthOfRow_26 rfl (lv_at hl 0 rfl) ?_
    refine kg_X9_rowOf C0 hK hP (kv_s (by decide) (by decide)) kq_975 dX9_lengthOfRow_27 ?_
    refine lv_iload_n hx hb dX9_lengthOfRow_30 rfl (lv_at hl 1 rfl) ?_
    obtain ⟨b2, hq⟩ := hq
    refine kr_iald C0 hK hP (kv_s (by decide) (by decide)) rfl b2 dX9_lengthOfRow_31 ?_
    refine lv_iconst (v := 2) hx hb dX9_lengthOfRow_32 (by decide) ?_
    refine kr_Si (As := [.int (σ.1 (33, 0, 0) v1.toNatClampNeg), .int (2 : Int32)]) (rest := [.ref (ka_a G (37, 0, 0))]) C0 hK hP hS hl (km_X9_cell l hI hq) kd_X9_cell kq_1102 ⟨rfl, rfl, Nat.le_of_ble_eq_true rfl, Nat.le_of_ble_eq_true rfl⟩ rfl (Nat.le_of_ble_eq_true rfl) dX9_lengthOfRow_33 ⟨Nat.zero_le _, Nat.zero_le _⟩ (fun r4 σ3 H locs hq hP hS => ?_)
    obtain ⟨b5, hq⟩ := hq
    refine kr_lald C0 hK hP (kv_s (by decide) (by decide)) rfl b5 dX9_lengthOfRow_36 ?_
    refine lv_l2i hx hb dX9_lengthOfRow_37 rfl ?_
    refine lv_aload_n hx hb dX9_lengthOfRow_38 rfl (lv_at hl 0 rfl) ?_
    refine kg_X9_rowFrom C0 hK hP (kv_s (by decide) (by decide)) kq_976 dX9_lengthOfRow_39 ?_
    refine lv_iload_n hx hb dX9_lengthOfRow_42 rfl (lv_at hl 1 rfl) ?_
    obtain ⟨b6, hq⟩ := hq
    refine kr_iald C0 hK hP (kv_s (by decide) (by decide)) rfl b6 dX9_lengthOfRow_43 ?_
    refine lv_isub hx hb dX9_lengthOfRow_44 ?_
    refine lv_topi (fun x7 ex7 => ?_)
    have hq := hq x7 ex7
    refine lv_istore_n (lv' := [(2, .int x7), (0, .ref (ka_a G (25, 0, 0))), (1, .int v1)]) hx hb dX9_lengthOfRow_45 rfl hl (by decide) rfl (fun ls hl => ?_)
    refine lv_iload_n hx hb dX9_lengthOfRow_46 rfl (lv_at hl 0 rfl) ?_
    refine lv_i2l hx hb dX9_lengthOfRow_47 rfl ?_
    refine lv_aload_n hx hb dX9_lengthOfRow_48 rfl (lv_at hl 1 rfl) ?_
    refine kg_X9_now C0 hK hP (kv_s (by decide) (by decide)) kq_960 dX9_lengthOfRow_49 ?_
    refine lv_iconst (v := 2) hx hb dX9_lengthOfRow_52 (by decide) ?_
    obtain ⟨b8, hq⟩ := hq
    refine kr_lald C0 hK hP (kv_s (by decide) (by decide)) rfl b8 dX9_lengthOfRow_53 ?_
    refine kr_cge (tgt := 62) C0 dX9_lengthOfRow_54 dX9_lengthOfRow_55 (by decide) (fun hc => ?_) (fun hc => ?_)
    · have hq := hq.1 hc
      refine lv_aload_n hx hb dX9_lengthOfRow_62 rfl (lv_at hl 1 rfl) ?_
      refine kg_X9_now C0 hK hP (kv_s (by decide) (by decide)) kq_960 dX9_lengthOfRow_63 ?_
      refine lv_iconst (v := 2) hx hb dX9_lengthOfRow_66 (by decide) ?_
      obtain ⟨b9, hq⟩ := hq
      refine kr_lald C0 hK hP (kv_s (by decide) (by decide)) rfl b9 dX9_lengthOfRow_67 ?_
      refine lv_l2i hx hb dX9_lengthOfRow_68 rfl ?_
      exact kr_iret C0 hK hP hS hq dX9_lengthOfRow_69
    · have hq := hq.2 hc
      refine lv_iload_n hx hb dX9_lengthOfRow_58 rfl (lv_at hl 0 rfl) ?_
      refine lv_goto (tgt := 69) hx hb dX9_lengthOfRow_59 (by decide) ?_
      exact kr_iret C0 hK hP hS hq dX9_lengthOfRow_69
  · have hq := hq.2 hc
    refine lv_aload_n hx hb dX9_lengthOfRow_10 rfl (lv_at hl 0 rfl) ?_
    refine kg_X9_lengthOf C0 hK hP (kv_s (by decide) (by decide)) kq_973 dX9_lengthOfRow_11 ?_
    refine lv_aload_n hx hb dX9_lengthOfRow_14 rfl (lv_at hl 0 rfl) ?_
    refine kg_X9_rowOf C0 hK hP (kv_s (by decide) (by decide)) kq_975 dX9_lengthOfRow_15 ?_
    refine lv_iload_n hx hb dX9_lengthOfRow_18 rfl (lv_at hl 1 rfl) ?_
    obtain ⟨b10, hq⟩ := hq
    refine kr_iald C0 hK hP (kv_s (by decide) (by decide)) rfl b10 dX9_lengthOfRow_19 ?_
    obtain ⟨b11, hq⟩ := hq
    refine kr_iald C0 hK hP (kv_s (by decide) (by decide)) rfl b11 dX9_lengthOfRow_20 ?_
    exact kr_iret C0 hK hP hS hq dX9_lengthOfRow_21
/-! GlossRowsModel.sentenceOfRow(I)I -/
def rm_X9_sentenceOfRow : Room := { frames := 0, cells := 0, slots := 0, locals := 0 }
def kw_X9_sentenceOfRow_52 (Q : Int32 → ka_S → Prop) (σ : ka_S) (v2 : Int32) : Prop := vp_in v2 12 ∧
  Q (σ.1 (30, 0, 0) v2.toNatClampNeg) σ
def kw_X9_sentenceOfRow_21 (Q : Int32 → ka_S → Prop) : Nat → ka_S → Int32 → Int32 → Prop
  | 0, _, _, _ => False
  | n + 1, σ, v1, v2 => vp_in v1 72 ∧
    ((2 : Int32) ≤ (σ.1 (32, 0, 0) v1.toNatClampNeg) → kw_X9_sentenceOfRow_52 Q σ v2) ∧
    (¬ (2 : Int32) ≤ (σ.1 (32, 0, 0) v1.toNatClampNeg) → vp_in v2 12 ∧
      vp_in v1 72 ∧
      ((σ.1 (27, 0, 0) v2.toNatClampNeg) = (σ.1 (33, 0, 0) v1.toNatClampNeg) → kw_X9_sentenceOfRow_52 Q σ v2) ∧
      (¬ (σ.1 (27, 0, 0) v2.toNatClampNeg) = (σ.1 (33, 0, 0) v1.toNatClampNeg) → ∀ x9 : Int32, x9 = v2 + (1 : Int32) →
        (kw_X9_sentenceOfRow_21 Q n) σ v1 x9))
def kw_X9_sentenceOfRow (σ : ka_S) (v1 : Int32) (Q : Int32 → ka_S → Prop) : Prop := vp_in v1 72 ∧
  ((σ.1 (32, 0, 0) v1.toNatClampNeg) = (2 : Int32) → vp_in v1 72 ∧
    ∀ x4 : Int32, x4 = (σ.1 (33, 0, 0) v1.toNatClampNeg) → 
    ∃ n5 : Nat, kw_X9_sentenceOfRow_21 Q n5 σ v1 x4) ∧
  (¬ (σ.1 (32, 0, 0) v1.toNatClampNeg) = (2 : Int32) → ∃ n2 : Nat, kw_X9_sentenceOfRow_21 Q n2 σ v1 (0 : Int32))
set_option maxHeartbeats 4000000 in
set_option maxRecDepth 100000 in
theorem kb_X9_sentenceOfRow_52 {p : Program} {l : Launch} {e : Env} {s : State} {m : MethodId} {args : Array Value} {below : List Frame} {meth : Method} {c : Code} {G : ka_G} (hI : ka_I G) (C0 : ka_C p s m args meth c cX9_sentenceOfRow 3 "GlossRowsModel" (some .int)) (hK : ka_Kn G s) {Q : Int32 → ka_S → Prop} : ∀ (σ : ka_S) (v2 : Int32), kw_X9_sentenceOfRow_52 Q σ v2 → ∀ (H : Heap) (locs : List Loc), ka_P G σ H → va_S (ka_A G) s.heap H locs → ∀ ls : Array Slot, lv_has ls 3 [(0, .ref (ka_a G (25, 0, 0))), (2, .int v2)] → W p l e rm_X9_sentenceOfRow s m args below meth c H locs 0 0 (MQ below (va_Qi Q (ka_B G) (ka_A G)) args s 0 0 (ka_A G)) (F0 m 52 ls []) := by
  obtain ⟨hx, hb, -, hml, hown, hts, -⟩ := id C0
  intro σ v2 hq H locs hP hS ls hl
  unfold kw_X9_sentenceOfRow_52 at hq
  refine lv_aload_n hx hb dX9_sentenceOfRow_52 rfl (lv_at hl 0 rfl) ?_
  refine kg_X9_sentenceOf C0 hK hP (kv_s (by decide) (by decide)) kq_972 dX9_sentenceOfRow_53 ?_
  refine lv_iload_n hx hb dX9_sentenceOfRow_56 rfl (lv_at hl 1 rfl) ?_
  obtain ⟨b10, hq⟩ := hq
  refine kr_iald C0 hK hP (kv_s (by decide) (by decide)) rfl b10 dX9_sentenceOfRow_57 ?_
  exact kr_iret C0 hK hP hS hq dX9_sentenceOfRow_58
set_option maxHeartbeats 4000000 in
set_option maxRecDepth 100000 in
theorem kb_X9_sentenceOfRow_21 {p : Program} {l : Launch} {e : Env} {s : State} {m : MethodId} {args : Array Value} {below : List Frame} {meth : Method} {c : Code} {G : ka_G} (hI : ka_I G) (C0 : ka_C p s m args meth c cX9_sentenceOfRow 3 "GlossRowsModel" (some .int)) (hK : ka_Kn G s) {Q : Int32 → ka_S → Prop} : ∀ (n : Nat) (σ : ka_S) (v1 : Int32) (v2 : Int32), kw_X9_sentenceOfRow_21 Q n σ v1 v2 → ∀ (H : Heap) (locs : List Loc), ka_P G σ H → va_S (ka_A G) s.heap H locs → ∀ ls : Array Slot, lv_has ls 3 [(0, .ref (ka_a G (25, 0, 0))), (1, .int v1), (2, .int v2)] → W p l e rm_X9_sentenceOfRow s m args below meth c H locs 0 0 (MQ below (va_Qi Q (ka_B G) (ka_A G)) args s 0 0 (ka_A G)) (F0 m 21 ls []) := by
  obtain ⟨hx, hb, -, hml, hown, hts, -⟩ := id C0
  intro n
  induction n with
  | zero =>
    intro σ v1 v2 hq
    rw [kw_X9_sentenceOfRow_21] at hq
    exact hq.elim
  | succ n ih =>
    intro σ v1 v2 hq H locs hP hS ls hl
    rw [kw_X9_sentenceOfRow_21] at hq
    refine lv_aload_n hx hb dX9_sentenceOfRow_21 rfl (lv_at hl 0 rfl) ?_
    refine kg_X9_rowKind C0 hK hP (kv_s (by decide) (by decide)) kq_974 dX9_sentenceOfRow_22 ?_
    refine lv_iload_n hx hb dX9_sentenceOfRow_25 rfl (lv_at hl 1 rfl) ?_
    obtain ⟨b6, hq⟩ := hq
    refine kr_iald C0 hK hP (kv_s (by decide) (by decide)) rfl b6 dX9_sentenceOfRow_26 ?_
    refine lv_iconst (v := 2) hx hb dX9_sentenceOfRow_27 (by decide) ?_
    refine lv_icmp_ge (tgt := 52) hx hb dX9_sentenceOfRow_28 (by decide) (fun hc => ?_) (fun hc => ?_)
    · have hq := hq.1 hc
      exact kb_X9_sentenceOfRow_52 hI C0 hK σ v2 hq H locs hP hS ls (lv_sub hl [0, 2] rfl)
    · have hq := hq.2 hc
      refine lv_aload_n hx hb dX9_sentenceOfRow_31 rfl (lv_at hl 0 rfl) ?_
      refine kg_X9_lineOf C0 hK hP (kv_s (by decide) (by decide)) kq_969 dX9_sentenceOfRow_32 ?_
      refine lv_iload_n hx hb dX9_sentenceOfRow_35 rfl (lv_at hl 2 rfl) ?_
      obtain ⟨b7, hq⟩ := hq
      refine kr_iald C0 hK hP (kv_s (by decide) (by decide)) rfl b7 dX9_sentenceOfRow_36 ?_
      refine lv_aload_n hx hb dX9_sentenceOfRow_37 rfl (lv_at hl 0 rfl) ?_
      refine kg_X9_rowOf C0 hK hP (kv_s (by decide) (by decide)) kq_975 dX9_sentenceOfRow_38 ?_
      refine lv_iload_n hx hb dX9_sentenceOfRow_41 rfl (lv_at hl 1 rfl) ?_
      obtain ⟨b8, hq⟩ := hq
      refine kr_iald C0 hK hP (kv_s (by decide) (by decide)) rfl b8 dX9_sentenceOfRow_42 ?_
      refine lv_icmp_eq (tgt := 52) hx hb dX9_sentenceOfRow_43 (by decide) (fun hc => ?_) (fun hc => ?_)
      · have hq := hq.1 hc
        exact kb_X9_sentenceOfRow_52 hI C0 hK σ v2 hq H locs hP hS ls (lv_sub hl [0, 2] rfl)
      · have hq := hq.2 hc
        obtain ⟨x9, ex9⟩ : ∃ y : Int32, y = v2 + (1 : Int32) := ⟨_, rfl⟩
        have hq := hq x9 ex9
        refine lv_iinc (v := x9) (lv' := [(2, .int x9), (0, .ref (ka_a G (25, 0, 0))), (1, .int v1)]) hx hb dX9_sentenceOfRow_46 hl (k := 2) rfl (by rw [ex9]; rfl) (by decide) rfl (fun ls hl => ?_)
        refine lv_goto (tgt := 21) hx hb dX9_sentenceOfRow_49 (by decide) ?_
        exact ih σ v1 x9 hq H locs hP hS ls (lv_sub hl [1, 2, 0] rfl)
set_option maxHeartbeats 4000000 in
set_option maxRecDepth 100000 in
theorem km_X9_sentenceOfRow (l : Launch) {G : ka_G} (hI : ka_I G) {σ : ka_S} {v1 : Int32} {Q : Int32 → ka_S → Prop} (hq : kw_X9_sentenceOfRow σ v1 Q) : kc_i l yX9_sentenceOfRow (kw_ yX9_sentenceOfRow cX9_sentenceOfRow 3 (some .int)) rm_X9_sentenceOfRow G [.ref (ka_a G (25, 0, 0)), .int v1] σ Q := by
  refine ka_of "GlossRowsModel" rfl (by decide) (Nat.le_of_ble_eq_true rfl) ?_
  intro p e s m below meth c C0 hK H locs hP hS ls hl
  obtain ⟨hx, hb, -, hml, hown, hts, -⟩ := id C0
  have hl : lv_has ls 3 [(0, .ref (ka_a G (25, 0, 0))), (1, .int v1)] := hl
  unfold kw_X9_sentenceOfRow at hq
  refine lv_aload_n hx hb dX9_sentenceOfRow_0 rfl (lv_at hl 0 rfl) ?_
  refine kg_X9_rowKind C0 hK hP (kv_s (by decide) (by decide)) kq_974 dX9_sentenceOfRow_1 ?_
  refine lv_iload_n hx hb dX9_sentenceOfRow_4 rfl (lv_at hl 1 rfl) ?_
  obtain ⟨b1, hq⟩ := hq
  refine kr_iald C0 hK hP (kv_s (by decide) (by decide)) rfl b1 dX9_sentenceOfRow_5 ?_
  refine lv_iconst (v := 2) hx hb dX9_sentenceOfRow_6 (by decide) ?_
  refine lv_icmp_ne (tgt := 19) hx hb dX9_sentenceOfRow_7 (by decide) (fun hc => ?_) (fun hc => ?_)
  · have hq := hq.2 hc
    refine lv_iconst (v := 0) hx hb dX9_sentenceOfRow_19 (by decide) ?_
    refine lv_istore_n (lv' := [(2, .int (0 : Int32)), (0, .ref (ka_a G (25, 0, 0))), (1, .int v1)]) hx hb dX9_sentenceOfRow_20 rfl hl (by decide) rfl (fun ls hl => ?_)
    obtain ⟨n2, hq⟩ := hq
    exact kb_X9_sentenceOfRow_21 hI C0 hK n2 σ v1 (0 : Int32) hq H locs hP hS ls (lv_sub hl [1, 2, 0] rfl)
  · have hq := hq.1 hc
    refine lv_aload_n hx hb dX9_sentenceOfRow_10 rfl (lv_at hl 0 rfl) ?_
    refine kg_X9_rowOf C0 hK hP (kv_s (by decide) (by decide)) kq_975 dX9_sentenceOfRow_11 ?_
    refine lv_iload_n hx hb dX9_sentenceOfRow_14 rfl (lv_at hl 1 rfl) ?_
    obtain ⟨b3, hq⟩ := hq
    refine kr_iald C0 hK hP (kv_s (by decide) (by decide)) rfl b3 dX9_sentenceOfRow_15 ?_
    refine lv_goto (tgt := 20) hx hb dX9_sentenceOfRow_16 (by decide) ?_
    refine lv_topi (fun x4 ex4 => ?_)
    have hq := hq x4 ex4
    refine lv_istore_n (lv' := [(2, .int x4), (0, .ref (ka_a G (25, 0, 0))), (1, .int v1)]) hx hb dX9_sentenceOfRow_20 rfl hl (by decide) rfl (fun ls hl => ?_)
    obtain ⟨n5, hq⟩ := hq
    exact kb_X9_sentenceOfRow_21 hI C0 hK n5 σ v1 x4 hq H locs hP hS ls (lv_sub hl [1, 2, 0] rfl)
