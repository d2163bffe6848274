/-! law: tells(LGlossRows;II)Z -/
def rm_L_tells : Room := { frames := 8, cells := 0, slots := 0, locals := 144 }
def kw_L_tells_135 (K23 : ka_S → Int32 → Int32 → Int32 → Int32 → Int32 → Prop) (K93 : ka_S → Int32 → Int32 → Int32 → Int32 → Int32 → Int32 → Int32 → Int32 → Prop) (Q : Int32 → ka_S → Prop) (σ : ka_S) (v1 : Int32) (v2 : Int32) (v3 : Int32) (v5 : Int32) (v6 : Int32) (v7 : Int32) (v8 : Int32) : Prop := kw0_L_append σ ((97 : Int32) + (((v2 >>> ((v8 + v5) &&& 31)) &&& (1023 : Int32)) - ((v2 >>> ((v8 + v5) &&& 31)) &&& (1023 : Int32)) / (4 : Int32) * (4 : Int32))) (fun r20 σ21 =>
  (r20 ≤ (0 : Int64) → ∀ x22 : Int32, x22 = v8 + (1 : Int32) →
    K93 σ21 v1 v2 v3 (0 : Int32) v5 v6 v7 x22) ∧
  (¬ r20 ≤ (0 : Int64) → (((v2 >>> (((2 : Int32) * v8) &&& 31)) &&& (1 : Int32)) = (0 : Int32) → ∀ x23 : Int32, x23 = v8 + (1 : Int32) →
      K93 σ21 v1 v2 v3 (1 : Int32) v5 v6 v7 x23) ∧
    (¬ ((v2 >>> (((2 : Int32) * v8) &&& 31)) &&& (1 : Int32)) = (0 : Int32) → kw0_L_append σ21 (98 : Int32) (fun r24 σ25 =>
      (r24 ≤ (0 : Int64) → ∀ x26 : Int32, x26 = v8 + (1 : Int32) →
        K93 σ25 v1 v2 v3 (0 : Int32) v5 v6 v7 x26) ∧
      (¬ r24 ≤ (0 : Int64) → ∀ x27 : Int32, x27 = v8 + (1 : Int32) →
        K93 σ25 v1 v2 v3 (1 : Int32) v5 v6 v7 x27)))))
set_option maxHeartbeats 4000000 in
set_option maxRecDepth 100000 in
theorem kb_L_tells_135 {p : Program} {l : Launch} {e : Env} {s : State} {m : MethodId} {below : List Frame} {meth : Method} {c : Code} {G : ka_G} {args : Array Value} (hl0 : l.stackTraces = false) (hI : ka_I G) (C0 : ka_C p s m args meth c cL_tells 9 "GlossRowsLaw" (some .boolean)) (hK : ka_Kn G s) (hT : ka_T9 (ka_A G) s) (hN : kl_Nc s) {Q : Int32 → ka_S → Prop} {K23 : ka_S → Int32 → Int32 → Int32 → Int32 → Int32 → Prop} {R23 : Nat} {K93 : ka_S → Int32 → Int32 → Int32 → Int32 → Int32 → Int32 → Int32 → Int32 → Prop} {R93 : Nat} (hk23 : ∀ (σ : ka_S) (v1 : Int32) (v2 : Int32) (v3 : Int32) (v4 : Int32) (v5 : Int32), K23 σ v1 v2 v3 v4 v5 → ∀ (cl : Nat), cl + R23 ≤ 0 → ∀ (H : Heap) (locs : List Loc), ka_P G σ H → va_S (ka_A G) s.heap H locs → ∀ ls : Array Slot, lv_has ls 9 [(0, .ref (ka_a G (22, 0, 0))), (1, .int v1), (2, .int v2), (3, .int v3), (4, .int v4), (5, .int v5)] → W p l e rm_L_tells s m args below meth c H locs cl (6 * cl) (MQ below (va_Qi Q (ka_B G) (ka_A G)) args s 0 0 (ka_A G)) (F0 m 23 ls [])) (hk93 : ∀ (σ : ka_S) (v1 : Int32) (v2 : Int32) (v3 : Int32) (v4 : Int32) (v5 : Int32) (v6 : Int32) (v7 : Int32) (v8 : Int32), K93 σ v1 v2 v3 v4 v5 v6 v7 v8 → ∀ (cl : Nat), cl + R93 ≤ 0 → ∀ (H : Heap) (locs : List Loc), ka_P G σ H → va_S (ka_A G) s.heap H locs → ∀ ls : Array Slot, lv_has ls 9 [(0, .ref (ka_a G (22, 0, 0))), (1, .int v1), (2, .int v2), (3, .int v3), (4, .int v4), (5, .int v5), (6, .int v6), (7, .int v7), (8, .int v8)] → W p l e rm_L_tells s m args below meth c H locs cl (6 * cl) (MQ below (va_Qi Q (ka_B G) (ka_A G)) args s 0 0 (ka_A G)) (F0 m 93 ls [])) : ∀ (σ : ka_S) (v1 : Int32) (v2 : Int32) (v3 : Int32) (v5 : Int32) (v6 : Int32) (v7 : Int32) (v8 : Int32), kw_L_tells_135 K23 K93 Q σ v1 v2 v3 v5 v6 v7 v8 → ∀ (cl : Nat), cl + 0 + R93 ≤ 0 → ∀ (H : Heap) (locs : List Loc), ka_P G σ H → va_S (ka_A G) s.heap H locs → ∀ ls : Array Slot, lv_has ls 9 [(0, .ref (ka_a G (22, 0, 0))), (1, .int v1), (2, .int v2), (3, .int v3), (5, .int v5), (6, .int v6), (7, .int v7), (8, .int v8)] → W p l e rm_L_tells s m args below meth c H locs cl (6 * cl) (MQ below (va_Qi Q (ka_B G) (ka_A G)) args s 0 0 (ka_A G)) (F0 m 135 ls []) := by
  obtain ⟨hx, hb, -, hml, hown, hts, -⟩ := id C0
  intro σ v1 v2 v3 v5 v6 v7 v8 hq cl hcl H locs hP hS ls hl
  unfold kw_L_tells_135 at hq
  refine lv_aload_n hx hb dL_tells_135 rfl (lv_at hl 0 rfl) ?_
  refine lv_bipush (v := 97) hx hb dL_tells_136 (by decide) ?_
  refine lv_iload_n hx hb dL_tells_138 rfl (lv_at hl 2 rfl) ?_
  refine lv_iload hx hb dL_tells_139 (lv_at hl 7 rfl) ?_
  refine lv_iload hx hb dL_tells_141 (lv_at hl 4 rfl) ?_
  refine lv_iadd hx hb dL_tells_143 ?_
  refine lv_ishr hx hb dL_tells_144 ?_
  refine lv_sipush (v := 1023) hx hb dL_tells_145 (by decide) ?_
  refine lv_iand hx hb dL_tells_148 ?_
  refine lv_iconst (v := 4) hx hb dL_tells_149 (by decide) ?_
  refine lv_irem hx hb dL_tells_150 (by decide) ?_
  refine lv_iadd hx hb dL_tells_151 ?_
  refine kj_Wl (As := [.ref (ka_a G (22, 0, 0)), .int ((97 : Int32) + (((v2 >>> ((v8 + v5) &&& 31)) &&& (1023 : Int32)) - ((v2 >>> ((v8 + v5) &&& 31)) &&& (1023 : Int32)) / (4 : Int32) * (4 : Int32)))]) (rest := []) C0 hK hT hN hP hS (fun _ h => h) hl (km0_L_append l hl0 hI hq) kd_L_append kq_840 ⟨rfl, rfl, Nat.le_of_ble_eq_true rfl, Nat.le_of_ble_eq_true rfl⟩ rfl (Nat.le_of_ble_eq_true rfl) dL_tells_152 ⟨by show _ ≤ 0; omega, by show _ ≤ 0; omega⟩ (fun r20 σ21 H locs hq hP hkp hS => ?_)
  refine lv_lconst (v := 0) hx hb dL_tells_155 (by decide) ?_
  refine kr_cle (tgt := 186) C0 dL_tells_156 dL_tells_157 (by decide) (fun hc => ?_) (fun hc => ?_)
  · have hq := hq.1 hc
    refine lv_iconst (v := 0) hx hb dL_tells_186 (by decide) ?_
    refine lv_istore (lv' := [(4, .int (0 : Int32)), (0, .ref (ka_a G (22, 0, 0))), (1, .int v1), (2, .int v2), (3, .int v3), (5, .int v5), (6, .int v6), (7, .int v7), (8, .int v8)]) hx hb dL_tells_187 hl (by decide) rfl (fun ls hl => ?_)
    obtain ⟨x22, ex22⟩ : ∃ y : Int32, y = v8 + (1 : Int32) := ⟨_, rfl⟩
    have hq := hq x22 ex22
    refine lv_iinc (v := x22) (lv' := [(8, .int x22), (4, .int (0 : Int32)), (0, .ref (ka_a G (22, 0, 0))), (1, .int v1), (2, .int v2), (3, .int v3), (5, .int v5), (6, .int v6), (7, .int v7)]) hx hb dL_tells_189 hl (k := 8) rfl (by rw [ex22]; rfl) (by decide) rfl (fun ls hl => ?_)
    refine lv_goto (tgt := 93) hx hb dL_tells_192 (by decide) ?_
    refine W.widen (k := (cl + 0)) (n := 6 * (cl + 0)) (by omega) (by omega) ?_
    exact hk93 σ21 v1 v2 v3 (0 : Int32) v5 v6 v7 x22 hq (cl + 0) (by omega) H locs hP hS ls (lv_sub hl [2, 3, 4, 5, 1, 6, 7, 8, 0] rfl)
  · have hq := hq.2 hc
    refine lv_iload_n hx hb dL_tells_160 rfl (lv_at hl 2 rfl) ?_
    refine lv_iconst (v := 2) hx hb dL_tells_161 (by decide) ?_
    refine lv_iload hx hb dL_tells_162 (lv_at hl 7 rfl) ?_
    refine lv_imul hx hb dL_tells_164 ?_
    refine lv_ishr hx hb dL_tells_165 ?_
    refine lv_iconst (v := 1) hx hb dL_tells_166 (by decide) ?_
    refine lv_iand hx hb dL_tells_167 ?_
    refine lv_if_eq (tgt := 182) hx hb dL_tells_168 (by decide) (fun hc => ?_) (fun hc => ?_)
    · have hq := hq.1 hc
      refine lv_iconst (v := 1) hx hb dL_tells_182 (by decide) ?_
      refine lv_goto (tgt := 187) hx hb dL_tells_183 (by decide) ?_
      refine lv_istore (lv' := [(4, .int (1 : Int32)), (0, .ref (ka_a G (22, 0, 0))), (1, .int v1), (2, .int v2), (3, .int v3), (5, .int v5), (6, .int v6), (7, .int v7), (8, .int v8)]) hx hb dL_tells_187 hl (by decide) rfl (fun ls hl => ?_)
      obtain ⟨x23, ex23⟩ : ∃ y : Int32, y = v8 + (1 : Int32) := ⟨_, rfl⟩
      have hq := hq x23 ex23
      refine lv_iinc (v := x23) (lv' := [(8, .int x23), (4, .int (1 : Int32)), (0, .ref (ka_a G (22, 0, 0))), (1, .int v1), (2, .int v2), (3, .int v3), (5, .int v5), (6, .int v6), (7, .int v7)]) hx hb dL_tells_189 hl (k := 8) rfl (by rw [ex23]; rfl) (by decide) rfl (fun ls hl => ?_)
      refine lv_goto (tgt := 93) hx hb dL_tells_192 (by decide) ?_
      refine W.widen (k := (cl + 0)) (n := 6 * (cl + 0)) (by omega) (by omega) ?_
      exact hk93 σ21 v1 v2 v3 (1 : Int32) v5 v6 v7 x23 hq (cl + 0) (by omega) H locs hP hS ls (lv_sub hl [2, 3, 4, 5, 1, 6, 7, 8, 0] rfl)
    · have hq := hq.2 hc
      refine lv_aload_n hx hb dL_tells_171 rfl (lv_at hl 0 rfl) ?_
      refine lv_bipush (v := 98) hx hb dL_tells_172 (by decide) ?_
      refine kj_Wl (As := [.ref (ka_a G (22, 0, 0)), .int (98 : Int32)]) (rest := []) C0 hK hT hN hP hS (fun _ h => h) hl (km0_L_append l hl0 hI hq) kd_L_append kq_840 ⟨rfl, rfl, Nat.le_of_ble_eq_true rfl, Nat.le_of_ble_eq_true rfl⟩ rfl (Nat.le_of_ble_eq_true rfl) dL_tells_174 ⟨by show _ ≤ 0; omega, by show _ ≤ 0; omega⟩ (fun r24 σ25 H locs hq hP hkp hS => ?_)
      refine lv_lconst (v := 0) hx hb dL_tells_177 (by decide) ?_
      refine kr_cle (tgt := 186) C0 dL_tells_178 dL_tells_179 (by decide) (fun hc => ?_) (fun hc => ?_)
      · have hq := hq.1 hc
        refine lv_iconst (v := 0) hx hb dL_tells_186 (by decide) ?_
        refine lv_istore (lv' := [(4, .int (0 : Int32)), (0, .ref (ka_a G (22, 0, 0))), (1, .int v1), (2, .int v2), (3, .int v3), (5, .int v5), (6, .int v6), (7, .int v7), (8, .int v8)]) hx hb dL_tells_187 hl (by decide) rfl (fun ls hl => ?_)
        obtain ⟨x26, ex26⟩ : ∃ y : Int32, y = v8 + (1 : Int32) := ⟨_, rfl⟩
        have hq := hq x26 ex26
        refine lv_iinc (v := x26) (lv' := [(8, .int x26), (4, .int (0 : Int32)), (0, .ref (ka_a G (22, 0, 0))), (1, .int v1), (2, .int v2), (3, .int v3), (5, .int v5), (6, .int v6), (7, .int v7)]) hx hb dL_tells_189 hl (k := 8) rfl (by rw [ex26]; rfl) (by decide) rfl (fun ls hl => ?_)
        refine lv_goto (tgt := 93) hx hb dL_tells_192 (by decide) ?_
        refine W.widen (k := (cl + 0)) (n := 6 * (cl + 0)) (by omega) (by omega) ?_
        exact hk93 σ25 v1 v2 v3 (0 : Int32) v5 v6 v7 x26 hq (cl + 0) (by omega) H locs hP hS ls (lv_sub hl [2, 3, 4, 5, 1, 6, 7, 8, 0] rfl)
      · have hq := hq.2 hc
        refine lv_iconst (v := 1) hx hb dL_tells_182 (by decide) ?_
        refine lv_goto (tgt := 187) hx hb dL_tells_183 (by decide) ?_
        refine lv_istore (lv' := [(4, .int (1 : Int32)), (0, .ref (ka_a G (22, 0, 0))), (1, .int v1), (2, .int v2), (3, .int v3), (5, .int v5), (6, .int v6), (7, .int v7), (8, .int v8)]) hx hb dL_tells_187 hl (by decide) rfl (fun ls hl => ?_)
        obtain ⟨x27, ex27⟩ : ∃ y : Int32, y = v8 + (1 : Int32) := ⟨_, rfl⟩
        have hq := hq x27 ex27
        refine lv_iinc (v := x27) (lv' := [(8, .int x27), (4, .int (1 : Int32)), (0, .ref (ka_a G (22, 0, 0))), (1, .int v1), (2, .int v2), (3, .int v3), (5, .int v5), (6, .int v6), (7, .int v7)]) hx hb dL_tells_189 hl (k := 8) rfl (by rw [ex27]; rfl) (by decide) rfl (fun ls hl => ?_)
        refine lv_goto (tgt := 93) hx hb dL_tells_192 (by decide) ?_
        refine W.widen (k := (cl + 0)) (n := 6 * (cl + 0)) (by omega) (by omega) ?_
        exact hk93 σ25 v1 v2 v3 (1 : Int32) v5 v6 v7 x27 hq (cl + 0) (by omega) H locs hP hS ls (lv_sub hl [2, 3, 4, 5, 1, 6, 7, 8, 0] rfl)
def kw_L_tells_127 (K23 : ka_S → Int32 → Int32 → Int32 → Int32 → Int32 → Prop) (K93 : ka_S → Int32 → Int32 → Int32 → Int32 → Int32 → Int32 → Int32 → Int32 → Prop) (Q : Int32 → ka_S → Prop) (σ : ka_S) (v1 : Int32) (v2 : Int32) (v3 : Int32) (v5 : Int32) (v6 : Int32) (v7 : Int32) (v8 : Int32) (t1 : Int32) : Prop := kw0_L_append σ t1 (fun r28 σ29 =>
  (r28 ≤ (0 : Int64) → ∀ x30 : Int32, x30 = v8 + (1 : Int32) →
    K93 σ29 v1 v2 v3 (0 : Int32) v5 v6 v7 x30) ∧
  (¬ r28 ≤ (0 : Int64) → kw_L_tells_135 K23 K93 Q σ29 v1 v2 v3 v5 v6 v7 v8))
set_option maxHeartbeats 4000000 in
set_option maxRecDepth 100000 in
theorem kb_L_tells_127 {p : Program} {l : Launch} {e : Env} {s : State} {m : MethodId} {below : List Frame} {meth : Method} {c : Code} {G : ka_G} {args : Array Value} (hl0 : l.stackTraces = false) (hI : ka_I G) (C0 : ka_C p s m args meth c cL_tells 9 "GlossRowsLaw" (some .boolean)) (hK : ka_Kn G s) (hT : ka_T9 (ka_A G) s) (hN : kl_Nc s) {Q : Int32 → ka_S → Prop} {K23 : ka_S → Int32 → Int32 → Int32 → Int32 → Int32 → Prop} {R23 : Nat} {K93 : ka_S → Int32 → Int32 → Int32 → Int32 → Int32 → Int32 → Int32 → Int32 → Prop} {R93 : Nat} (hk23 : ∀ (σ : ka_S) (v1 : Int32) (v2 : Int32) (v3 : Int32) (v4 : Int32) (v5 : Int32), K23 σ v1 v2 v3 v4 v5 → ∀ (cl : Nat), cl + R23 ≤ 0 → ∀ (H : Heap) (locs : List Loc), ka_P G σ H → va_S (ka_A G) s.heap H locs → ∀ ls : Array Slot, lv_has ls 9 [(0, .ref (ka_a G (22, 0, 0))), (1, .int v1), (2, .int v2), (3, .int v3), (4, .int v4), (5, .int v5)] → W p l e rm_L_tells s m args below meth c H locs cl (6 * cl) (MQ below (va_Qi Q (ka_B G) (ka_A G)) args s 0 0 (ka_A G)) (F0 m 23 ls [])) (hk93 : ∀ (σ : ka_S) (v1 : Int32) (v2 : Int32) (v3 : Int32) (v4 : Int32) (v5 : Int32) (v6 : Int32) (v7 : Int32) (v8 : Int32), K93 σ v1 v2 v3 v4 v5 v6 v7 v8 → ∀ (cl : Nat), cl + R93 ≤ 0 → ∀ (H : Heap) (locs : List Loc), ka_P G σ H → va_S (ka_A G) s.heap H locs → ∀ ls : Array Slot, lv_has ls 9 [(0, .ref (ka_a G (22, 0, 0))), (1, .int v1), (2, .int v2), (3, .int v3), (4, .int v4), (5, .int v5), (6, .int v6), (7, .int v7), (8, .int v8)] → W p l e rm_L_tells s m args below meth c H locs cl (6 * cl) (MQ below (va_Qi Q (ka_B G) (ka_A G)) args s 0 0 (ka_A G)) (F0 m 93 ls [])) : ∀ (σ : ka_S) (v1 : Int32) (v2 : Int32) (v3 : Int32) (v5 : Int32) (v6 : Int32) (v7 : Int32) (v8 : Int32) (t1 : Int32), kw_L_tells_127 K23 K93 Q σ v1 v2 v3 v5 v6 v7 v8 t1 → ∀ (cl : Nat), cl + 0 + R93 ≤ 0 → ∀ (H : Heap) (locs : List Loc), ka_P G σ H → va_S (ka_A G) s.heap H locs → ∀ ls : Array Slot, lv_has ls 9 [(0, .ref (ka_a G (22, 0, 0))), (1, .int v1), (2, .int v2), (3, .int v3), (5, .int v5), (6, .int v6), (7, .int v7), (8, .int v8)] → W p l e rm_L_tells s m args below meth c H locs cl (6 * cl) (MQ below (va_Qi Q (ka_B G) (ka_A G)) args s 0 0 (ka_A G)) (F0 m 127 ls [.int t1, .ref (ka_a G (22, 0, 0))]) := by
  obtain ⟨hx, hb, -, hml, hown, hts, -⟩ := id C0
  intro σ v1 v2 v3 v5 v6 v7 v8 t1 hq cl hcl H locs hP hS ls hl
  unfold kw_L_tells_127 at hq
  refine kj_Wl (As := [.ref (ka_a G (22, 0, 0)), .int t1]) (rest := []) C0 hK hT hN hP hS (fun _ h => h) hl (km0_L_append l hl0 hI hq) kd_L_append kq_840 ⟨rfl, rfl, Nat.le_of_ble_eq_true rfl, Nat.le_of_ble_eq_true rfl⟩ rfl (Nat.le_of_ble_eq_true rfl) dL_tells_127 ⟨by show _ ≤ 0; omega, by show _ ≤ 0; omega⟩ (fun r28 σ29 H locs hq hP hkp hS => ?_)
  refine lv_lconst (v := 0) hx hb dL_tells_130 (by decide) ?_
  refine kr_cle (tgt := 186) C0 dL_tells_131 dL_tells_132 (by decide) (fun hc => ?_) (fun hc => ?_)
  · have hq := hq.1 hc
    refine lv_iconst (v := 0) hx hb dL_tells_186 (by decide) ?_
    refine lv_istore (lv' := [(4, .int (0 : Int32)), (0, .ref (ka_a G (22, 0, 0))), (1, .int v1), (2, .int v2), (3, .int v3), (5, .int v5), (6, .int v6), (7, .int v7), (8, .int v8)]) hx hb dL_tells_187 hl (by decide) rfl (fun ls hl => ?_)
    obtain ⟨x30, ex30⟩ : ∃ y : Int32, y = v8 + (1 : Int32) := ⟨_, rfl⟩
    have hq := hq x30 ex30
    refine lv_iinc (v := x30) (lv' := [(8, .int x30), (4, .int (0 : Int32)), (0, .ref (ka_a G (22, 0, 0))), (1, .int v1), (2, .int v2), (3, .int v3), (5, .int v5), (6, .int v6), (7, .int v7)]) hx hb dL_tells_189 hl (k := 8) rfl (by rw [ex30]; rfl) (by decide) rfl (fun ls hl => ?_)
    refine lv_goto (tgt := 93) hx hb dL_tells_192 (by decide) ?_
    refine W.widen (k := (cl + 0)) (n := 6 * (cl + 0)) (by omega) (by omega) ?_
    exact hk93 σ29 v1 v2 v3 (0 : Int32) v5 v6 v7 x30 hq (cl + 0) (by omega) H locs hP hS ls (lv_sub hl [2, 3, 4, 5, 1, 6, 7, 8, 0] rfl)
  · have hq := hq.2 hc
    refine W.widen (k := (cl + 0)) (n := 6 * (cl + 0)) (by omega) (by omega) ?_
    exact kb_L_tells_135 (R23 := R23) (R93 := R93) hl0 hI C0 hK hT hN hk23 hk93 σ29 v1 v2 v3 v5 v6 v7 v8 hq (cl + 0) (by omega) H locs hP hS ls (lv_sub hl [0, 1, 2, 3, 4, 5, 6, 7] rfl)
def kw_L_tells_273 (K23 : ka_S → Int32 → Int32 → Int32 → Int32 → Int32 → Prop) (K226 : ka_S → Int32 → Int32 → Int32 → Int32 → Int32 → Int32 → Int32 → Int32 → Prop) (Q : Int32 → ka_S → Prop) (σ : ka_S) (v1 : Int32) (v2 : Int32) (v3 : Int32) (v5 : Int32) (v6 : Int32) (v7 : Int32) (v8 : Int32) : Prop := (((v1 >>> ((((2 : Int32) * v8) + v5) &&& 31)) &&& (1 : Int32)) = (0 : Int32) → ∀ x34 : Int32, x34 = v8 + (1 : Int32) →
    K226 σ v1 v2 v3 (1 : Int32) v5 v6 v7 x34) ∧
  (¬ ((v1 >>> ((((2 : Int32) * v8) + v5) &&& 31)) &&& (1 : Int32)) = (0 : Int32) → kw0_L_append σ ((120 : Int32) + (((v2 >>> (v8 &&& 31)) &&& (255 : Int32)) - ((v2 >>> (v8 &&& 31)) &&& (255 : Int32)) / (3 : Int32) * (3 : Int32))) (fun r35 σ36 =>
    (r35 ≤ (0 : Int64) → ∀ x37 : Int32, x37 = v8 + (1 : Int32) →
      K226 σ36 v1 v2 v3 (0 : Int32) v5 v6 v7 x37) ∧
    (¬ r35 ≤ (0 : Int64) → ∀ x38 : Int32, x38 = v8 + (1 : Int32) →
      K226 σ36 v1 v2 v3 (1 : Int32) v5 v6 v7 x38)))
set_option maxHeartbeats 4000000 in
set_option maxRecDepth 100000 in
theorem kb_L_tells_273 {p : Program} {l : Launch} {e : Env} {s : State} {m : MethodId} {below : List Frame} {meth : Method} {c : Code} {G : ka_G} {args : Array Value} (hl0 : l.stackTraces = false) (hI : ka_I G) (C0 : ka_C p s m args meth c cL_tells 9 "GlossRowsLaw" (some .boolean)) (hK : ka_Kn G s) (hT : ka_T9 (ka_A G) s) (hN : kl_Nc s) {Q : Int32 → ka_S → Prop} {K23 : ka_S → Int32 → Int32 → Int32 → Int32 → Int32 → Prop} {R23 : Nat} {K226 : ka_S → Int32 → Int32 → Int32 → Int32 → Int32 → Int32 → Int32 → Int32 → Prop} {R226 : Nat} (hk23 : ∀ (σ : ka_S) (v1 : Int32) (v2 : Int32) (v3 : Int32) (v4 : Int32) (v5 : Int32), K23 σ v1 v2 v3 v4 v5 → ∀ (cl : Nat), cl + R23 ≤ 0 → ∀ (H : Heap) (locs : List Loc), ka_P G σ H → va_S (ka_A G) s.heap H locs → ∀ ls : Array Slot, lv_has ls 9 [(0, .ref (ka_a G (22, 0, 0))), (1, .int v1), (2, .int v2), (3, .int v3), (4, .int v4), (5, .int v5)] → W p l e rm_L_tells s m args below meth c H locs cl (6 * cl) (MQ below (va_Qi Q (ka_B G) (ka_A G)) args s 0 0 (ka_A G)) (F0 m 23 ls [])) (hk226 : ∀ (σ : ka_S) (v1 : Int32) (v2 : Int32) (v3 : Int32) (v4 : Int32) (v5 : Int32) (v6 : Int32) (v7 : Int32) (v8 : Int32), K226 σ v1 v2 v3 v4 v5 v6 v7 v8 → ∀ (cl : Nat), cl + R226 ≤ 0 → ∀ (H : Heap) (locs : List Loc), ka_P G σ H → va_S (ka_A G) s.heap H locs → ∀ ls : Array Slot, lv_has ls 9 [(0, .ref (ka_a G (22, 0, 0))), (1, .int v1), (2, .int v2), (3, .int v3), (4, .int v4), (5, .int v5), (6, .int v6), (7, .int v7), (8, .int v8)] → W p l e rm_L_tells s m args below meth c H locs cl (6 * cl) (MQ below (va_Qi Q (ka_B G) (ka_A G)) args s 0 0 (ka_A G)) (F0 m 226 ls [])) : ∀ (σ : ka_S) (v1 : Int32) (v2 : Int32) (v3 : Int32) (v5 : Int32) (v6 : Int32) (v7 : Int32) (v8 : Int32), kw_L_tells_273 K23 K226 Q σ v1 v2 v3 v5 v6 v7 v8 → ∀ (cl : Nat), cl + 0 + R226 ≤ 0 → ∀ (H : Heap) (locs : List Loc), ka_P G σ H → va_S (ka_A G) s.heap H locs → ∀ ls : Array Slot, lv_has ls 9 [(0, .ref (ka_a G (22, 0, 0))), (1, .int v1), (2, .int v2), (3, .int v3), (5, .int v5), (6, .int v6), (7, .int v7), (8, .int v8)] → W p l e rm_L_tells s m args below meth c H locs cl (6 * cl) (MQ below (va_Qi Q (ka_B G) (ka_A G)) args s 0 0 (ka_A G)) (F0 m 273 ls []) := by
  obtain ⟨hx, hb, -, hml, hown, hts, -⟩ := id C0
  intro σ v1 v2 v3 v5 v6 v7 v8 hq cl hcl H locs hP hS ls hl
  unfold kw_L_tells_273 at hq
  refine lv_iload_n hx hb dL_tells_273 rfl (lv_at hl 1 rfl) ?_
  refine lv_iconst (v := 2) hx hb dL_tells_274 (by decide) ?_
  refine lv_iload hx hb dL_tells_275 (lv_at hl 7 rfl) ?_
  refine lv_imul hx hb dL_tells_277 ?_
  refine lv_iload hx hb dL_tells_278 (lv_at hl 4 rfl) ?_
  refine lv_iadd hx hb dL_tells_280 ?_
  refine lv_ishr hx hb dL_tells_281 ?_
  refine lv_iconst (v := 1) hx hb dL_tells_282 (by decide) ?_
  refine lv_iand hx hb dL_tells_283 ?_
  refine lv_if_eq (tgt := 309) hx hb dL_tells_284 (by decide) (fun hc => ?_) (fun hc => ?_)
  · have hq := hq.1 hc
    refine lv_iconst (v := 1) hx hb dL_tells_309 (by decide) ?_
    refine lv_goto (tgt := 314) hx hb dL_tells_310 (by decide) ?_
    refine lv_istore (lv' := [(4, .int (1 : Int32)), (0, .ref (ka_a G (22, 0, 0))), (1, .int v1), (2, .int v2), (3, .int v3), (5, .int v5), (6, .int v6), (7, .int v7), (8, .int v8)]) hx hb dL_tells_314 hl (by decide) rfl (fun ls hl => ?_)
    obtain ⟨x34, ex34⟩ : ∃ y : Int32, y = v8 + (1 : Int32) := ⟨_, rfl⟩
    have hq := hq x34 ex34
    refine lv_iinc (v := x34) (lv' := [(8, .int x34), (4, .int (1 : Int32)), (0, .ref (ka_a G (22, 0, 0))), (1, .int v1), (2, .int v2), (3, .int v3), (5, .int v5), (6, .int v6), (7, .int v7)]) hx hb dL_tells_316 hl (k := 8) rfl (by rw [ex34]; rfl) (by decide) rfl (fun ls hl => ?_)
    refine lv_goto (tgt := 226) hx hb dL_tells_319 (by decide) ?_
    refine W.widen (k := (cl + 0)) (n := 6 * (cl + 0)) (by omega) (by omega) ?_
    exact hk226 σ v1 v2 v3 (1 : Int32) v5 v6 v7 x34 hq (cl + 0) (by omega) H locs hP hS ls (lv_sub hl [2, 3, 4, 5, 1, 6, 7, 8, 0] rfl)
  · have hq := hq.2 hc
    refine lv_aload_n hx hb dL_tells_287 rfl (lv_at hl 0 rfl) ?_
    refine lv_bipush (v := 120) hx hb dL_tells_288 (by decide) ?_
    refine lv_iload_n hx hb dL_tells_290 rfl (lv_at hl 2 rfl) ?_
    refine lv_iload hx hb dL_tells_291 (lv_at hl 7 rfl) ?_
    refine lv_ishr hx hb dL_tells_293 ?_
    refine lv_sipush (v := 255) hx hb dL_tells_294 (by decide) ?_
    refine lv_iand hx hb dL_tells_297 ?_
    refine lv_iconst (v := 3) hx hb dL_tells_298 (by decide) ?_
    refine lv_irem hx hb dL_tells_299 (by decide) ?_
    refine lv_iadd hx hb dL_tells_300 ?_
    refine kj_Wl (As := [.ref (ka_a G (22, 0, 0)), .int ((120 : Int32) + (((v2 >>> (v8 &&& 31)) &&& (255 : Int32)) - ((v2 >>> (v8 &&& 31)) &&& (255 : Int32)) / (3 : Int32) * (3 : Int32)))]) (rest := []) C0 hK hT hN hP hS (fun _ h => h) hl (km0_L_append l hl0 hI hq) kd_L_append kq_840 ⟨rfl, rfl, Nat.le_of_ble_eq_true rfl, Nat.le_of_ble_eq_true rfl⟩ rfl (Nat.le_of_ble_eq_true rfl) dL_tells_301 ⟨by show _ ≤ 0; omega, by show _ ≤ 0; omega⟩ (fun r35 σ36 H locs hq hP hkp hS => ?_)
    refine lv_lconst (v := 0) hx hb dL_tells_304 (by decide) ?_
    refine kr_cle (tgt := 313) C0 dL_tells_305 dL_tells_306 (by decide) (fun hc => ?_) (fun hc => ?_)
    · have hq := hq.1 hc
      refine lv_iconst (v := 0) hx hb dL_tells_313 (by decide) ?_
      refine lv_istore (lv' := [(4, .int (0 : Int32)), (0, .ref (ka_a G (22, 0, 0))), (1, .int v1), (2, .int v2), (3, .int v3), (5, .int v5), (6, .int v6), (7, .int v7), (8, .int v8)]) hx hb dL_tells_314 hl (by decide) rfl (fun ls hl => ?_)
      obtain ⟨x37, ex37⟩ : ∃ y : Int32, y = v8 + (1 : Int32) := ⟨_, rfl⟩
      have hq := hq x37 ex37
      refine lv_iinc (v := x37) (lv' := [(8, .int x37), (4, .int (0 : Int32)), (0, .ref (ka_a G (22, 0, 0))), (1, .int v1), (2, .int v2), (3, .int v3), (5, .int v5), (6, .int v6), (7, .int v7)]) hx hb dL_tells_316 hl (k := 8) rfl (by rw [ex37]; rfl) (by decide) rfl (fun ls hl => ?_)
      refine lv_goto (tgt := 226) hx hb dL_tells_319 (by decide) ?_
      refine W.widen (k := (cl + 0)) (n := 6 * (cl + 0)) (by omega) (by omega) ?_
      exact hk226 σ36 v1 v2 v3 (0 : Int32) v5 v6 v7 x37 hq (cl + 0) (by omega) H locs hP hS ls (lv_sub hl [2, 3, 4, 5, 1, 6, 7, 8, 0] rfl)
    · have hq := hq.2 hc
      refine lv_iconst (v := 1) hx hb dL_tells_309 (by decide) ?_
      refine lv_goto (tgt := 314) hx hb dL_tells_310 (by decide) ?_
      refine lv_istore (lv' := [(4, .int (1 : Int32)), (0, .ref (ka_a G (22, 0, 0))), (1, .int v1), (2, .int v2), (3, .int v3), (5, .int v5), (6, .int v6), (7, .int v7), (8, .int v8)]) hx hb dL_tells_314 hl (by decide) rfl (fun ls hl => ?_)
      obtain ⟨x38, ex38⟩ : ∃ y : Int32, y = v8 + (1 : Int32) := ⟨_, rfl⟩
      have hq := hq x38 ex38
      refine lv_iinc (v := x38) (lv' := [(8, .int x38), (4, .int (1 : Int32)), (0, .ref (ka_a G (22, 0, 0))), (1, .int v1), (2, .int v2), (3, .int v3), (5, .int v5), (6, .int v6), (7, .int v7)]) hx hb dL_tells_316 hl (k := 8) rfl (by rw [ex38]; rfl) (by decide) rfl (fun ls hl => ?_)
      refine lv_goto (tgt := 226) hx hb dL_tells_319 (by decide) ?_
      refine W.widen (k := (cl + 0)) (n := 6 * (cl + 0)) (by omega) (by omega) ?_
      exact hk226 σ36 v1 v2 v3 (1 : Int32) v5 v6 v7 x38 hq (cl + 0) (by omega) H locs hP hS ls (lv_sub hl [2, 3, 4, 5, 1, 6, 7, 8, 0] rfl)
def kw_L_tells_265 (K23 : ka_S → Int32 → Int32 → Int32 → Int32 → Int32 → Prop) (K226 : ka_S → Int32 → Int32 → Int32 → Int32 → Int32 → Int32 → Int32 → Int32 → Prop) (Q : Int32 → ka_S → Prop) (σ : ka_S) (v1 : Int32) (v2 : Int32) (v3 : Int32) (v5 : Int32) (v6 : Int32) (v7 : Int32) (v8 : Int32) (t1 : Int32) : Prop := kw0_L_append σ t1 (fun r39 σ40 =>
  (r39 ≤ (0 : Int64) → ∀ x41 : Int32, x41 = v8 + (1 : Int32) →
    K226 σ40 v1 v2 v3 (0 : Int32) v5 v6 v7 x41) ∧
  (¬ r39 ≤ (0 : Int64) → kw_L_tells_273 K23 K226 Q σ40 v1 v2 v3 v5 v6 v7 v8))
set_option maxHeartbeats 4000000 in
set_option maxRecDepth 100000 in
theorem kb_L_tells_265 {p : Program} {l : Launch} {e : Env} {s : State} {m : MethodId} {below : List Frame} {meth : Method} {c : Code} {G : ka_G} {args : Array Value} (hl0 : l.stackTraces = false) (hI : ka_I G) (C0 : ka_C p s m args meth c cL_tells 9 "GlossRowsLaw" (some .boolean)) (hK : ka_Kn G s) (hT : ka_T9 (ka_A G) s) (hN : kl_Nc s) {Q : Int32 → ka_S → Prop} {K23 : ka_S → Int32 → Int32 → Int32 → Int32 → Int32 → Prop} {R23 : Nat} {K226 : ka_S → Int32 → Int32 → Int32 → Int32 → Int32 → Int32 → Int32 → Int32 → Prop} {R226 : Nat} (hk23 : ∀ (σ : ka_S) (v1 : Int32) (v2 : Int32) (v3 : Int32) (v4 : Int32) (v5 : Int32), K23 σ v1 v2 v3 v4 v5 → ∀ (cl : Nat), cl + R23 ≤ 0 → ∀ (H : Heap) (locs : List Loc), ka_P G σ H → va_S (ka_A G) s.heap H locs → ∀ ls : Array Slot, lv_has ls 9 [(0, .ref (ka_a G (22, 0, 0))), (1, .int v1), (2, .int v2), (3, .int v3), (4, .int v4), (5, .int v5)] → W p l e rm_L_tells s m args below meth c H locs cl (6 * cl) (MQ below (va_Qi Q (ka_B G) (ka_A G)) args s 0 0 (ka_A G)) (F0 m 23 ls [])) (hk226 : ∀ (σ : ka_S) (v1 : Int32) (v2 : Int32) (v3 : Int32) (v4 : Int32) (v5 : Int32) (v6 : Int32) (v7 : Int32) (v8 : Int32), K226 σ v1 v2 v3 v4 v5 v6 v7 v8 → ∀ (cl : Nat), cl + R226 ≤ 0 → ∀ (H : Heap) (locs : List Loc), ka_P G σ H → va_S (ka_A G) s.heap H locs → ∀ ls : Array Slot, lv_has ls 9 [(0, .ref (ka_a G (22, 0, 0))), (1, .int v1), (2, .int v2), (3, .int v3), (4, .int v4), (5, .int v5), (6, .int v6), (7, .int v7), (8, .int v8)] → W p l e rm_L_tells s m args below meth c H locs cl (6 * cl) (MQ below (va_Qi Q (ka_B G) (ka_A G)) args s 0 0 (ka_A G)) (F0 m 226 ls [])) : ∀ (σ : ka_S) (v1 : Int32) (v2 : Int32) (v3 : Int32) (v5 : Int32) (v6 : Int32) (v7 : Int32) (v8 : Int32) (t1 : Int32), kw_L_tells_265 K23 K226 Q σ v1 v2 v3 v5 v6 v7 v8 t1 → ∀ (cl : Nat), cl + 0 + R226 ≤ 0 → ∀ (H : Heap) (locs : List Loc), ka_P G σ H → va_S (ka_A G) s.heap H locs → ∀ ls : Array Slot, lv_has ls 9 [(0, .ref (ka_a G (22, 0, 0))), (1, .int v1), (2, .int v2), (3, .int v3), (5, .int v5), (6, .int v6), (7, .int v7), (8, .int v8)] → W p l e rm_L_tells s m args below meth c H locs cl (6 * cl) (MQ below (va_Qi Q (ka_B G) (ka_A G)) args s 0 0 (ka_A G)) (F0 m 265 ls [.int t1, .ref (ka_a G (22, 0, 0))]) := by
  obtain ⟨hx, hb, -, hml, hown, hts, -⟩ := id C0
  intro σ v1 v2 v3 v5 v6 v7 v8 t1 hq cl hcl H locs hP hS ls hl
  unfold kw_L_tells_265 at hq
  refine kj_Wl (As := [.ref (ka_a G (22, 0, 0)), .int t1]) (rest := []) C0 hK hT hN hP hS (fun _ h => h) hl (km0_L_append l hl0 hI hq) kd_L_append kq_840 ⟨rfl, rfl, Nat.le_of_ble_eq_true rfl, Nat.le_of_ble_eq_true rfl⟩ rfl (Nat.le_of_ble_eq_true rfl) dL_tells_265 ⟨by show _ ≤ 0; omega, by show _ ≤ 0; omega⟩ (fun r39 σ40 H locs hq hP hkp hS => ?_)
  refine lv_lconst (v := 0) hx hb dL_tells_268 (by decide) ?_
  refine kr_cle (tgt := 313) C0 dL_tells_269 dL_tells_270 (by decide) (fun hc => ?_) (fun hc => ?_)
  · have hq := hq.1 hc
    refine lv_iconst (v := 0) hx hb dL_tells_313 (by decide) ?_
    refine lv_istore (lv' := [(4, .int (0 : Int32)), (0, .ref (ka_a G (22, 0, 0))), (1, .int v1), (2, .int v2), (3, .int v3), (5, .int v5), (6, .int v6), (7, .int v7), (8, .int v8)]) hx hb dL_tells_314 hl (by decide) rfl (fun ls hl => ?_)
    obtain ⟨x41, ex41⟩ : ∃ y : Int32, y = v8 + (1 : Int32) := ⟨_, rfl⟩
    have hq := hq x41 ex41
    refine lv_iinc (v := x41) (lv' := [(8, .int x41), (4, .int (0 : Int32)), (0, .ref (ka_a G (22, 0, 0))), (1, .int v1), (2, .int v2), (3, .int v3), (5, .int v5), (6, .int v6), (7, .int v7)]) hx hb dL_tells_316 hl (k := 8) rfl (by rw [ex41]; rfl) (by decide) rfl (fun ls hl => ?_)
    refine lv_goto (tgt := 226) hx hb dL_tells_319 (by decide) ?_
    refine W.widen (k := (cl + 0)) (n := 6 * (cl + 0)) (by omega) (by omega) ?_
    exact hk226 σ40 v1 v2 v3 (0 : Int32) v5 v6 v7 x41 hq (cl + 0) (by omega) H locs hP hS ls (lv_sub hl [2, 3, 4, 5, 1, 6, 7, 8, 0] rfl)
  · have hq := hq.2 hc
    refine W.widen (k := (cl + 0)) (n := 6 * (cl + 0)) (by omega) (by omega) ?_
    exact kb_L_tells_273 (R23 := R23) (R226 := R226) hl0 hI C0 hK hT hN hk23 hk226 σ40 v1 v2 v3 v5 v6 v7 v8 hq (cl + 0) (by omega) H locs hP hS ls (lv_sub hl [0, 1, 2, 3, 4, 5, 6, 7] rfl)
def kw_L_tells_226 (K23 : ka_S → Int32 → Int32 → Int32 → Int32 → Int32 → Prop) (Q : Int32 → ka_S → Prop) : Nat → ka_S → Int32 → Int32 → Int32 → Int32 → Int32 → Int32 → Int32 → Int32 → Prop
  | 0, _, _, _, _, _, _, _, _, _ => False
  | n + 1, σ, v1, v2, v3, v4, v5, v6, v7, v8 => (v6 ≤ v8 → ∀ x31 : Int32, x31 = v5 + (1 : Int32) →
      K23 σ v1 v2 v3 v4 x31) ∧
    (¬ v6 ≤ v8 → (v4 = (0 : Int32) → ∀ x32 : Int32, x32 = v5 + (1 : Int32) →
        K23 σ v1 v2 v3 v4 x32) ∧
      (¬ v4 = (0 : Int32) → (v7 = (0 : Int32) → ∀ x33 : Int32, x33 = v5 + (1 : Int32) →
          K23 σ v1 v2 v3 v4 x33) ∧
        (¬ v7 = (0 : Int32) → (v8 = (0 : Int32) → kw_L_tells_273 K23 (kw_L_tells_226 K23 Q n) Q σ v1 v2 v3 v5 v6 v7 v8) ∧
          (¬ v8 = (0 : Int32) → (((v1 >>> (v8 &&& 31)) &&& (1 : Int32)) = (0 : Int32) → kw_L_tells_265 K23 (kw_L_tells_226 K23 Q n) Q σ v1 v2 v3 v5 v6 v7 v8 (45 : Int32)) ∧
            (¬ ((v1 >>> (v8 &&& 31)) &&& (1 : Int32)) = (0 : Int32) → kw_L_tells_265 K23 (kw_L_tells_226 K23 Q n) Q σ v1 v2 v3 v5 v6 v7 v8 (61 : Int32))))))
set_option maxHeartbeats 4000000 in
set_option maxRecDepth 100000 in
theorem kb_L_tells_226 {p : Program} {l : Launch} {e : Env} {s : State} {m : MethodId} {below : List Frame} {meth : Method} {c : Code} {G : ka_G} {args : Array Value} (hl0 : l.stackTraces = false) (hI : ka_I G) (C0 : ka_C p s m args meth c cL_tells 9 "GlossRowsLaw" (some .boolean)) (hK : ka_Kn G s) (hT : ka_T9 (ka_A G) s) (hN : kl_Nc s) {Q : Int32 → ka_S → Prop} {K23 : ka_S → Int32 → Int32 → Int32 → Int32 → Int32 → Prop} {R23 : Nat} (hk23 : ∀ (σ : ka_S) (v1 : Int32) (v2 : Int32) (v3 : Int32) (v4 : Int32) (v5 : Int32), K23 σ v1 v2 v3 v4 v5 → ∀ (cl : Nat), cl + R23 ≤ 0 → ∀ (H : Heap) (locs : List Loc), ka_P G σ H → va_S (ka_A G) s.heap H locs → ∀ ls : Array Slot, lv_has ls 9 [(0, .ref (ka_a G (22, 0, 0))), (1, .int v1), (2, .int v2), (3, .int v3), (4, .int v4), (5, .int v5)] → W p l e rm_L_tells s m args below meth c H locs cl (6 * cl) (MQ below (va_Qi Q (ka_B G) (ka_A G)) args s 0 0 (ka_A G)) (F0 m 23 ls [])) : ∀ (n : Nat) (σ : ka_S) (v1 : Int32) (v2 : Int32) (v3 : Int32) (v4 : Int32) (v5 : Int32) (v6 : Int32) (v7 : Int32) (v8 : Int32), kw_L_tells_226 K23 Q n σ v1 v2 v3 v4 v5 v6 v7 v8 → ∀ (cl : Nat), cl + 0 + R23 ≤ 0 → ∀ (H : Heap) (locs : List Loc), ka_P G σ H → va_S (ka_A G) s.heap H locs → ∀ ls : Array Slot, lv_has ls 9 [(0, .ref (ka_a G (22, 0, 0))), (1, .int v1), (2, .int v2), (3, .int v3), (4, .int v4), (5, .int v5), (6, .int v6), (7, .int v7), (8, .int v8)] → W p l e rm_L_tells s m args below meth c H locs cl (6 * cl) (MQ below (va_Qi Q (ka_B G) (ka_A G)) args s 0 0 (ka_A G)) (F0 m 226 ls []) := by
  obtain ⟨hx, hb, -, hml, hown, hts, -⟩ := id C0
  intro n
  induction n with
  | zero =>
    intro σ v1 v2 v3 v4 v5 v6 v7 v8 hq
    rw [kw_L_tells_226] at hq
    exact hq.elim
  | succ n ih =>
    have ih9 : ∀ (σ : ka_S) (v1 : Int32) (v2 : Int32) (v3 : Int32) (v4 : Int32) (v5 : Int32) (v6 : Int32) (v7 : Int32) (v8 : Int32), kw_L_tells_226 K23 Q n σ v1 v2 v3 v4 v5 v6 v7 v8 → ∀ (cl : Nat), cl + (0 + R23) ≤ 0 → ∀ (H : Heap) (locs : List Loc), ka_P G σ H → va_S (ka_A G) s.heap H locs → ∀ ls : Array Slot, lv_has ls 9 [(0, .ref (ka_a G (22, 0, 0))), (1, .int v1), (2, .int v2), (3, .int v3), (4, .int v4), (5, .int v5), (6, .int v6), (7, .int v7), (8, .int v8)] → W p l e rm_L_tells s m args below meth c H locs cl (6 * cl) (MQ below (va_Qi Q (ka_B G) (ka_A G)) args s 0 0 (ka_A G)) (F0 m 226 ls []) := fun σ v1 v2 v3 v4 v5 v6 v7 v8 hq cl h9 => ih σ v1 v2 v3 v4 v5 v6 v7 v8 hq cl (by omega)
    intro σ v1 v2 v3 v4 v5 v6 v7 v8 hq cl hcl H locs hP hS ls hl
    rw [kw_L_tells_226] at hq
    refine lv_iload hx hb dL_tells_226 (lv_at hl 8 rfl) ?_
    refine lv_iload hx hb dL_tells_228 (lv_at hl 6 rfl) ?_
    refine lv_icmp_ge (tgt := 322) hx hb dL_tells_230 (by decide) (fun hc => ?_) (fun hc => ?_)
    · have hq := hq.1 hc
      obtain ⟨x31, ex31⟩ : ∃ y : Int32, y = v5 + (1 : Int32) := ⟨_, rfl⟩
      have hq := hq x31 ex31
      refine lv_iinc (v := x31) (lv' := [(5, .int x31), (0, .ref (ka_a G (22, 0, 0))), (1, .int v1), (2, .int v2), (3, .int v3), (4, .int v4), (6, .int v6), (7, .int v7), (8, .int v8)]) hx hb dL_tells_322 hl (k := 5) rfl (by rw [ex31]; rfl) (by decide) rfl (fun ls hl => ?_)
      refine lv_goto (tgt := 23) hx hb dL_tells_325 (by decide) ?_
      refine W.widen (k := (cl + 0)) (n := 6 * (cl + 0)) (by omega) (by omega) ?_
      exact hk23 σ v1 v2 v3 v4 x31 hq (cl + 0) (by omega) H locs hP hS ls (lv_sub hl [1, 2, 3, 4, 5, 0] rfl)
    · have hq := hq.2 hc
      refine lv_iload hx hb dL_tells_233 (lv_at hl 4 rfl) ?_
      refine lv_if_eq (tgt := 322) hx hb dL_tells_235 (by decide) (fun hc => ?_) (fun hc => ?_)
      · have hq := hq.1 hc
        obtain ⟨x32, ex32⟩ : ∃ y : Int32, y = v5 + (1 : Int32) := ⟨_, rfl⟩
        have hq := hq x32 ex32
        refine lv_iinc (v := x32) (lv' := [(5, .int x32), (0, .ref (ka_a G (22, 0, 0))), (1, .int v1), (2, .int v2), (3, .int v3), (4, .int v4), (6, .int v6), (7, .int v7), (8, .int v8)]) hx hb dL_tells_322 hl (k := 5) rfl (by rw [ex32]; rfl) (by decide) rfl (fun ls hl => ?_)
        refine lv_goto (tgt := 23) hx hb dL_tells_325 (by decide) ?_
        refine W.widen (k := (cl + 0)) (n := 6 * (cl + 0)) (by omega) (by omega) ?_
        exact hk23 σ v1 v2 v3 v4 x32 hq (cl + 0) (by omega) H locs hP hS ls (lv_sub hl [1, 2, 3, 4, 5, 0] rfl)
      · have hq := hq.2 hc
        refine lv_iload hx hb dL_tells_238 (lv_at hl 7 rfl) ?_
        refine lv_if_eq (tgt := 322) hx hb dL_tells_240 (by decide) (fun hc => ?_) (fun hc => ?_)
        · have hq := hq.1 hc
          obtain ⟨x33, ex33⟩ : ∃ y : Int32, y = v5 + (1 : Int32) := ⟨_, rfl⟩
          have hq := hq x33 ex33
          refine lv_iinc (v := x33) (lv' := [(5, .int x33), (0, .ref (ka_a G (22, 0, 0))), (1, .int v1), (2, .int v2), (3, .int v3), (4, .int v4), (6, .int v6), (7, .int v7), (8, .int v8)]) hx hb dL_tells_322 hl (k := 5) rfl (by rw [ex33]; rfl) (by decide) rfl (fun ls hl => ?_)
          refine lv_goto (tgt := 23) hx hb dL_tells_325 (by decide) ?_
          refine W.widen (k := (cl + 0)) (n := 6 * (cl + 0)) (by omega) (by omega) ?_
          exact hk23 σ v1 v2 v3 v4 x33 hq (cl + 0) (by omega) H locs hP hS ls (lv_sub hl [1, 2, 3, 4, 5, 0] rfl)
        · have hq := hq.2 hc
          refine lv_iload hx hb dL_tells_243 (lv_at hl 8 rfl) ?_
          refine lv_if_eq (tgt := 273) hx hb dL_tells_245 (by decide) (fun hc => ?_) (fun hc => ?_)
          · have hq := hq.1 hc
            refine W.widen (k := (cl + 0)) (n := 6 * (cl + 0)) (by omega) (by omega) ?_
            exact kb_L_tells_273 (R23 := R23) (R226 := (0 + R23)) hl0 hI C0 hK hT hN hk23 ih9 σ v1 v2 v3 v5 v6 v7 v8 hq (cl + 0) (by omega) H locs hP hS ls (lv_sub hl [0, 1, 2, 3, 5, 6, 7, 8] rfl)
          · have hq := hq.2 hc
            refine lv_aload_n hx hb dL_tells_248 rfl (lv_at hl 0 rfl) ?_
            refine lv_iload_n hx hb dL_tells_249 rfl (lv_at hl 1 rfl) ?_
            refine lv_iload hx hb dL_tells_250 (lv_at hl 8 rfl) ?_
            refine lv_ishr hx hb dL_tells_252 ?_
            refine lv_iconst (v := 1) hx hb dL_tells_253 (by decide) ?_
            refine lv_iand hx hb dL_tells_254 ?_
            refine lv_if_ne (tgt := 263) hx hb dL_tells_255 (by decide) (fun hc => ?_) (fun hc => ?_)
            · have hq := hq.2 hc
              refine lv_bipush (v := 61) hx hb dL_tells_263 (by decide) ?_
              refine W.widen (k := (cl + 0)) (n := 6 * (cl + 0)) (by omega) (by omega) ?_
              exact kb_L_tells_265 (R23 := R23) (R226 := (0 + R23)) hl0 hI C0 hK hT hN hk23 ih9 σ v1 v2 v3 v5 v6 v7 v8 (61 : Int32) hq (cl + 0) (by omega) H locs hP hS ls (lv_sub hl [0, 1, 2, 3, 5, 6, 7, 8] rfl)
            · have hq := hq.1 hc
              refine lv_bipush (v := 45) hx hb dL_tells_258 (by decide) ?_
              refine lv_goto (tgt := 265) hx hb dL_tells_260 (by decide) ?_
              refine W.widen (k := (cl + 0)) (n := 6 * (cl + 0)) (by omega) (by omega) ?_
              exact kb_L_tells_265 (R23 := R23) (R226 := (0 + R23)) hl0 hI C0 hK hT hN hk23 ih9 σ v1 v2 v3 v5 v6 v7 v8 (45 : Int32) hq (cl + 0) (by omega) H locs hP hS ls (lv_sub hl [0, 1, 2, 3, 5, 6, 7, 8] rfl)
def kw_L_tells_195 (K23 : ka_S → Int32 → Int32 → Int32 → Int32 → Int32 → Prop) (Q : Int32 → ka_S → Prop) (σ : ka_S) (v1 : Int32) (v2 : Int32) (v3 : Int32) (v4 : Int32) (v5 : Int32) (v6 : Int32) (v7 : Int32) : Prop := (v4 = (0 : Int32) → ∃ n14 : Nat, kw_L_tells_226 K23 Q n14 σ v1 v2 v3 (0 : Int32) v5 v6 v7 (0 : Int32)) ∧
  (¬ v4 = (0 : Int32) → (v7 = (0 : Int32) → ∃ n15 : Nat, kw_L_tells_226 K23 Q n15 σ v1 v2 v3 (1 : Int32) v5 v6 v7 (0 : Int32)) ∧
    (¬ v7 = (0 : Int32) → kw0_L_append σ (58 : Int32) (fun r16 σ17 =>
      (r16 ≤ (0 : Int64) → ∃ n18 : Nat, kw_L_tells_226 K23 Q n18 σ17 v1 v2 v3 (0 : Int32) v5 v6 v7 (0 : Int32)) ∧
      (¬ r16 ≤ (0 : Int64) → ∃ n19 : Nat, kw_L_tells_226 K23 Q n19 σ17 v1 v2 v3 (1 : Int32) v5 v6 v7 (0 : Int32)))))
set_option maxHeartbeats 4000000 in
set_option maxRecDepth 100000 in
theorem kb_L_tells_195 {p : Program} {l : Launch} {e : Env} {s : State} {m : MethodId} {below : List Frame} {meth : Method} {c : Code} {G : ka_G} {args : Array Value} (hl0 : l.stackTraces = false) (hI : ka_I G) (C0 : ka_C p s m args meth c cL_tells 9 "GlossRowsLaw" (some .boolean)) (hK : ka_Kn G s) (hT : ka_T9 (ka_A G) s) (hN : kl_Nc s) {Q : Int32 → ka_S → Prop} {K23 : ka_S → Int32 → Int32 → Int32 → Int32 → Int32 → Prop} {R23 : Nat} (hk23 : ∀ (σ : ka_S) (v1 : Int32) (v2 : Int32) (v3 : Int32) (v4 : Int32) (v5 : Int32), K23 σ v1 v2 v3 v4 v5 → ∀ (cl : Nat), cl + R23 ≤ 0 → ∀ (H : Heap) (locs : List Loc), ka_P G σ H → va_S (ka_A G) s.heap H locs → ∀ ls : Array Slot, lv_has ls 9 [(0, .ref (ka_a G (22, 0, 0))), (1, .int v1), (2, .int v2), (3, .int v3), (4, .int v4), (5, .int v5)] → W p l e rm_L_tells s m args below meth c H locs cl (6 * cl) (MQ below (va_Qi Q (ka_B G) (ka_A G)) args s 0 0 (ka_A G)) (F0 m 23 ls [])) : ∀ (σ : ka_S) (v1 : Int32) (v2 : Int32) (v3 : Int32) (v4 : Int32) (v5 : Int32) (v6 : Int32) (v7 : Int32), kw_L_tells_195 K23 Q σ v1 v2 v3 v4 v5 v6 v7 → ∀ (cl : Nat), cl + 0 + R23 ≤ 0 → ∀ (H : Heap) (locs : List Loc), ka_P G σ H → va_S (ka_A G) s.heap H locs → ∀ ls : Array Slot, lv_has ls 9 [(0, .ref (ka_a G (22, 0, 0))), (1, .int v1), (2, .int v2), (3, .int v3), (4, .int v4), (5, .int v5), (6, .int v6), (7, .int v7)] → W p l e rm_L_tells s m args below meth c H locs cl (6 * cl) (MQ below (va_Qi Q (ka_B G) (ka_A G)) args s 0 0 (ka_A G)) (F0 m 195 ls []) := by
  obtain ⟨hx, hb, -, hml, hown, hts, -⟩ := id C0
  intro σ v1 v2 v3 v4 v5 v6 v7 hq cl hcl H locs hP hS ls hl
  unfold kw_L_tells_195 at hq
  refine lv_iload hx hb dL_tells_195 (lv_at hl 4 rfl) ?_
  refine lv_if_eq (tgt := 220) hx hb dL_tells_197 (by decide) (fun hc => ?_) (fun hc => ?_)
  · have hq := hq.1 hc
    refine lv_iconst (v := 0) hx hb dL_tells_220 (by decide) ?_
    refine lv_istore (lv' := [(4, .int (0 : Int32)), (0, .ref (ka_a G (22, 0, 0))), (1, .int v1), (2, .int v2), (3, .int v3), (5, .int v5), (6, .int v6), (7, .int v7)]) hx hb dL_tells_221 hl (by decide) rfl (fun ls hl => ?_)
    refine lv_iconst (v := 0) hx hb dL_tells_223 (by decide) ?_
    refine lv_istore (lv' := [(8, .int (0 : Int32)), (4, .int (0 : Int32)), (0, .ref (ka_a G (22, 0, 0))), (1, .int v1), (2, .int v2), (3, .int v3), (5, .int v5), (6, .int v6), (7, .int v7)]) hx hb dL_tells_224 hl (by decide) rfl (fun ls hl => ?_)
    obtain ⟨n14, hq⟩ := hq
    refine W.widen (k := (cl + 0)) (n := 6 * (cl + 0)) (by omega) (by omega) ?_
    exact kb_L_tells_226 (R23 := R23) hl0 hI C0 hK hT hN hk23 n14 σ v1 v2 v3 (0 : Int32) v5 v6 v7 (0 : Int32) hq (cl + 0) (by omega) H locs hP hS ls (lv_sub hl [2, 3, 4, 5, 1, 6, 7, 8, 0] rfl)
  · have hq := hq.2 hc
    refine lv_iload hx hb dL_tells_200 (lv_at hl 7 rfl) ?_
    refine lv_if_eq (tgt := 216) hx hb dL_tells_202 (by decide) (fun hc => ?_) (fun hc => ?_)
    · have hq := hq.1 hc
      refine lv_iconst (v := 1) hx hb dL_tells_216 (by decide) ?_
      refine lv_goto (tgt := 221) hx hb dL_tells_217 (by decide) ?_
      refine lv_istore (lv' := [(4, .int (1 : Int32)), (0, .ref (ka_a G (22, 0, 0))), (1, .int v1), (2, .int v2), (3, .int v3), (5, .int v5), (6, .int v6), (7, .int v7)]) hx hb dL_tells_221 hl (by decide) rfl (fun ls hl => ?_)
      refine lv_iconst (v := 0) hx hb dL_tells_223 (by decide) ?_
      refine lv_istore (lv' := [(8, .int (0 : Int32)), (4, .int (1 : Int32)), (0, .ref (ka_a G (22, 0, 0))), (1, .int v1), (2, .int v2), (3, .int v3), (5, .int v5), (6, .int v6), (7, .int v7)]) hx hb dL_tells_224 hl (by decide) rfl (fun ls hl => ?_)
      obtain ⟨n15, hq⟩ := hq
      refine W.widen (k := (cl + 0)) (n := 6 * (cl + 0)) (by omega) (by omega) ?_
      exact kb_L_tells_226 (R23 := R23) hl0 hI C0 hK hT hN hk23 n15 σ v1 v2 v3 (1 : Int32) v5 v6 v7 (0 : Int32) hq (cl + 0) (by omega) H locs hP hS ls (lv_sub hl [2, 3, 4, 5, 1, 6, 7, 8, 0] rfl)
    · have hq := hq.2 hc
      refine lv_aload_n hx hb dL_tells_205 rfl (lv_at hl 0 rfl) ?_
      refine lv_bipush (v := 58) hx hb dL_tells_206 (by decide) ?_
      refine kj_Wl (As := [.ref (ka_a G (22, 0, 0)), .int (58 : Int32)]) (rest := []) C0 hK hT hN hP hS (fun _ h => h) hl (km0_L_append l hl0 hI hq) kd_L_append kq_840 ⟨rfl, rfl, Nat.le_of_ble_eq_true rfl, Nat.le_of_ble_eq_true rfl⟩ rfl (Nat.le_of_ble_eq_true rfl) dL_tells_208 ⟨by show _ ≤ 0; omega, by show _ ≤ 0; omega⟩ (fun r16 σ17 H locs hq hP hkp hS => ?_)
      refine lv_lconst (v := 0) hx hb dL_tells_211 (by decide) ?_
      refine kr_cle (tgt := 220) C0 dL_tells_212 dL_tells_213 (by decide) (fun hc => ?_) (fun hc => ?_)
      · have hq := hq.1 hc
        refine lv_iconst (v := 0) hx hb dL_tells_220 (by decide) ?_
        refine lv_istore (lv' := [(4, .int (0 : Int32)), (0, .ref (ka_a G (22, 0, 0))), (1, .int v1), (2, .int v2), (3, .int v3), (5, .int v5), (6, .int v6), (7, .int v7)]) hx hb dL_tells_221 hl (by decide) rfl (fun ls hl => ?_)
        refine lv_iconst (v := 0) hx hb dL_tells_223 (by decide) ?_
        refine lv_istore (lv' := [(8, .int (0 : Int32)), (4, .int (0 : Int32)), (0, .ref (ka_a G (22, 0, 0))), (1, .int v1), (2, .int v2), (3, .int v3), (5, .int v5), (6, .int v6), (7, .int v7)]) hx hb dL_tells_224 hl (by decide) rfl (fun ls hl => ?_)
        obtain ⟨n18, hq⟩ := hq
        refine W.widen (k := (cl + 0)) (n := 6 * (cl + 0)) (by omega) (by omega) ?_
        exact kb_L_tells_226 (R23 := R23) hl0 hI C0 hK hT hN hk23 n18 σ17 v1 v2 v3 (0 : Int32) v5 v6 v7 (0 : Int32) hq (cl + 0) (by omega) H locs hP hS ls (lv_sub hl [2, 3, 4, 5, 1, 6, 7, 8, 0] rfl)
      · have hq := hq.2 hc
        refine lv_iconst (v := 1) hx hb dL_tells_216 (by decide) ?_
        refine lv_goto (tgt := 221) hx hb dL_tells_217 (by decide) ?_
        refine lv_istore (lv' := [(4, .int (1 : Int32)), (0, .ref (ka_a G (22, 0, 0))), (1, .int v1), (2, .int v2), (3, .int v3), (5, .int v5), (6, .int v6), (7, .int v7)]) hx hb dL_tells_221 hl (by decide) rfl (fun ls hl => ?_)
        refine lv_iconst (v := 0) hx hb dL_tells_223 (by decide) ?_
        refine lv_istore (lv' := [(8, .int (0 : Int32)), (4, .int (1 : Int32)), (0, .ref (ka_a G (22, 0, 0))), (1, .int v1), (2, .int v2), (3, .int v3), (5, .int v5), (6, .int v6), (7, .int v7)]) hx hb dL_tells_224 hl (by decide) rfl (fun ls hl => ?_)
        obtain ⟨n19, hq⟩ := hq
        refine W.widen (k := (cl + 0)) (n := 6 * (cl + 0)) (by omega) (by omega) ?_
        exact kb_L_tells_226 (R23 := R23) hl0 hI C0 hK hT hN hk23 n19 σ17 v1 v2 v3 (1 : Int32) v5 v6 v7 (0 : Int32) hq (cl + 0) (by omega) H locs hP hS ls (lv_sub hl [2, 3, 4, 5, 1, 6, 7, 8, 0] rfl)
def kw_L_tells_93 (K23 : ka_S → Int32 → Int32 → Int32 → Int32 → Int32 → Prop) (Q : Int32 → ka_S → Prop) : Nat → ka_S → Int32 → Int32 → Int32 → Int32 → Int32 → Int32 → Int32 → Int32 → Prop
  | 0, _, _, _, _, _, _, _, _, _ => False
  | n + 1, σ, v1, v2, v3, v4, v5, v6, v7, v8 => (v6 ≤ v8 → kw_L_tells_195 K23 Q σ v1 v2 v3 v4 v5 v6 v7) ∧
    (¬ v6 ≤ v8 → (v4 = (0 : Int32) → kw_L_tells_195 K23 Q σ v1 v2 v3 v4 v5 v6 v7) ∧
      (¬ v4 = (0 : Int32) → (v8 = (0 : Int32) → kw_L_tells_135 K23 (kw_L_tells_93 K23 Q n) Q σ v1 v2 v3 v5 v6 v7 v8) ∧
        (¬ v8 = (0 : Int32) → (((v1 >>> (v8 &&& 31)) &&& (1 : Int32)) = (0 : Int32) → kw_L_tells_127 K23 (kw_L_tells_93 K23 Q n) Q σ v1 v2 v3 v5 v6 v7 v8 (45 : Int32)) ∧
          (¬ ((v1 >>> (v8 &&& 31)) &&& (1 : Int32)) = (0 : Int32) → kw_L_tells_127 K23 (kw_L_tells_93 K23 Q n) Q σ v1 v2 v3 v5 v6 v7 v8 (61 : Int32)))))
set_option maxHeartbeats 4000000 in
set_option maxRecDepth 100000 in
theorem kb_L_tells_93 {p : Program} {l : Launch} {e : Env} {s : State} {m : MethodId} {below : List Frame} {meth : Method} {c : Code} {G : ka_G} {args : Array Value} (hl0 : l.stackTraces = false) (hI : ka_I G) (C0 : ka_C p s m args meth c cL_tells 9 "GlossRowsLaw" (some .boolean)) (hK : ka_Kn G s) (hT : ka_T9 (ka_A G) s) (hN : kl_Nc s) {Q : Int32 → ka_S → Prop} {K23 : ka_S → Int32 → Int32 → Int32 → Int32 → Int32 → Prop} {R23 : Nat} (hk23 : ∀ (σ : ka_S) (v1 : Int32) (v2 : Int32) (v3 : Int32) (v4 : Int32) (v5 : Int32), K23 σ v1 v2 v3 v4 v5 → ∀ (cl : Nat), cl + R23 ≤ 0 → ∀ (H : Heap) (locs : List Loc), ka_P G σ H → va_S (ka_A G) s.heap H locs → ∀ ls : Array Slot, lv_has ls 9 [(0, .ref (ka_a G (22, 0, 0))), (1, .int v1), (2, .int v2), (3, .int v3), (4, .int v4), (5, .int v5)] → W p l e rm_L_tells s m args below meth c H locs cl (6 * cl) (MQ below (va_Qi Q (ka_B G) (ka_A G)) args s 0 0 (ka_A G)) (F0 m 23 ls [])) : ∀ (n : Nat) (σ : ka_S) (v1 : Int32) (v2 : Int32) (v3 : Int32) (v4 : Int32) (v5 : Int32) (v6 : Int32) (v7 : Int32) (v8 : Int32), kw_L_tells_93 K23 Q n σ v1 v2 v3 v4 v5 v6 v7 v8 → ∀ (cl : Nat), cl + 0 + R23 ≤ 0 → ∀ (H : Heap) (locs : List Loc), ka_P G σ H → va_S (ka_A G) s.heap H locs → ∀ ls : Array Slot, lv_has ls 9 [(0, .ref (ka_a G (22, 0, 0))), (1, .int v1), (2, .int v2), (3, .int v3), (4, .int v4), (5, .int v5), (6, .int v6), (7, .int v7), (8, .int v8)] → W p l e rm_L_tells s m args below meth c H locs cl (6 * cl) (MQ below (va_Qi Q (ka_B G) (ka_A G)) args s 0 0 (ka_A G)) (F0 m 93 ls []) := by
  obtain ⟨hx, hb, -, hml, hown, hts, -⟩ := id C0
  intro n
  induction n with
  | zero =>
    intro σ v1 v2 v3 v4 v5 v6 v7 v8 hq
    rw [kw_L_tells_93] at hq
    exact hq.elim
  | succ n ih =>
    have ih9 : ∀ (σ : ka_S) (v1 : Int32) (v2 : Int32) (v3 : Int32) (v4 : Int32) (v5 : Int32) (v6 : Int32) (v7 : Int32) (v8 : Int32), kw_L_tells_93 K23 Q n σ v1 v2 v3 v4 v5 v6 v7 v8 → ∀ (cl : Nat), cl + (0 + R23) ≤ 0 → ∀ (H : Heap) (locs : List Loc), ka_P G σ H → va_S (ka_A G) s.heap H locs → ∀ ls : Array Slot, lv_has ls 9 [(0, .ref (ka_a G (22, 0, 0))), (1, .int v1), (2, .int v2), (3, .int v3), (4, .int v4), (5, .int v5), (6, .int v6), (7, .int v7), (8, .int v8)] → W p l e rm_L_tells s m args below meth c H locs cl (6 * cl) (MQ below (va_Qi Q (ka_B G) (ka_A G)) args s 0 0 (ka_A G)) (F0 m 93 ls []) := fun σ v1 v2 v3 v4 v5 v6 v7 v8 hq cl h9 => ih σ v1 v2 v3 v4 v5 v6 v7 v8 hq cl (by omega)
    intro σ v1 v2 v3 v4 v5 v6 v7 v8 hq cl hcl H locs hP hS ls hl
    rw [kw_L_tells_93] at hq
    refine lv_iload hx hb dL_tells_93 (lv_at hl 8 rfl) ?_
    refine lv_iload hx hb dL_tells_95 (lv_at hl 6 rfl) ?_
    refine lv_icmp_ge (tgt := 195) hx hb dL_tells_97 (by decide) (fun hc => ?_) (fun hc => ?_)
    · have hq := hq.1 hc
      refine W.widen (k := (cl + 0)) (n := 6 * (cl + 0)) (by omega) (by omega) ?_
      exact kb_L_tells_195 (R23 := R23) hl0 hI C0 hK hT hN hk23 σ v1 v2 v3 v4 v5 v6 v7 hq (cl + 0) (by omega) H locs hP hS ls (lv_sub hl [0, 1, 2, 3, 4, 5, 6, 7] rfl)
    · have hq := hq.2 hc
      refine lv_iload hx hb dL_tells_100 (lv_at hl 4 rfl) ?_
      refine lv_if_eq (tgt := 195) hx hb dL_tells_102 (by decide) (fun hc => ?_) (fun hc => ?_)
      · have hq := hq.1 hc
        refine W.widen (k := (cl + 0)) (n := 6 * (cl + 0)) (by omega) (by omega) ?_
        exact kb_L_tells_195 (R23 := R23) hl0 hI C0 hK hT hN hk23 σ v1 v2 v3 v4 v5 v6 v7 hq (cl + 0) (by omega) H locs hP hS ls (lv_sub hl [0, 1, 2, 3, 4, 5, 6, 7] rfl)
      · have hq := hq.2 hc
        refine lv_iload hx hb dL_tells_105 (lv_at hl 8 rfl) ?_
        refine lv_if_eq (tgt := 135) hx hb dL_tells_107 (by decide) (fun hc => ?_) (fun hc => ?_)
        · have hq := hq.1 hc
          refine W.widen (k := (cl + 0)) (n := 6 * (cl + 0)) (by omega) (by omega) ?_
          exact kb_L_tells_135 (R23 := R23) (R93 := (0 + R23)) hl0 hI C0 hK hT hN hk23 ih9 σ v1 v2 v3 v5 v6 v7 v8 hq (cl + 0) (by omega) H locs hP hS ls (lv_sub hl [0, 1, 2, 3, 5, 6, 7, 8] rfl)
        · have hq := hq.2 hc
          refine lv_aload_n hx hb dL_tells_110 rfl (lv_at hl 0 rfl) ?_
          refine lv_iload_n hx hb dL_tells_111 rfl (lv_at hl 1 rfl) ?_
          refine lv_iload hx hb dL_tells_112 (lv_at hl 8 rfl) ?_
          refine lv_ishr hx hb dL_tells_114 ?_
          refine lv_iconst (v := 1) hx hb dL_tells_115 (by decide) ?_
          refine lv_iand hx hb dL_tells_116 ?_
          refine lv_if_ne (tgt := 125) hx hb dL_tells_117 (by decide) (fun hc => ?_) (fun hc => ?_)
          · have hq := hq.2 hc
            refine lv_bipush (v := 61) hx hb dL_tells_125 (by decide) ?_
            refine W.widen (k := (cl + 0)) (n := 6 * (cl + 0)) (by omega) (by omega) ?_
            exact kb_L_tells_127 (R23 := R23) (R93 := (0 + R23)) hl0 hI C0 hK hT hN hk23 ih9 σ v1 v2 v3 v5 v6 v7 v8 (61 : Int32) hq (cl + 0) (by omega) H locs hP hS ls (lv_sub hl [0, 1, 2, 3, 5, 6, 7, 8] rfl)
          · have hq := hq.1 hc
            refine lv_bipush (v := 45) hx hb dL_tells_120 (by decide) ?_
            refine lv_goto (tgt := 127) hx hb dL_tells_122 (by decide) ?_
            refine W.widen (k := (cl + 0)) (n := 6 * (cl + 0)) (by omega) (by omega) ?_
            exact kb_L_tells_127 (R23 := R23) (R93 := (0 + R23)) hl0 hI C0 hK hT hN hk23 ih9 σ v1 v2 v3 v5 v6 v7 v8 (45 : Int32) hq (cl + 0) (by omega) H locs hP hS ls (lv_sub hl [0, 1, 2, 3, 5, 6, 7, 8] rfl)
def kw_L_tells_65 (K23 : ka_S → Int32 → Int32 → Int32 → Int32 → Int32 → Prop) (Q : Int32 → ka_S → Prop) (σ : ka_S) (v1 : Int32) (v2 : Int32) (v3 : Int32) (v5 : Int32) (v6 : Int32) (t0 : Int32) : Prop := (v5 = (0 : Int32) → ∃ n9 : Nat, kw_L_tells_93 K23 Q n9 σ v1 v2 v3 (1 : Int32) v5 v6 t0 (0 : Int32)) ∧
  (¬ v5 = (0 : Int32) → kw0_L_append σ (32 : Int32) (fun r10 σ11 =>
    (r10 ≤ (0 : Int64) → ∃ n12 : Nat, kw_L_tells_93 K23 Q n12 σ11 v1 v2 v3 (0 : Int32) v5 v6 t0 (0 : Int32)) ∧
    (¬ r10 ≤ (0 : Int64) → ∃ n13 : Nat, kw_L_tells_93 K23 Q n13 σ11 v1 v2 v3 (1 : Int32) v5 v6 t0 (0 : Int32))))
set_option maxHeartbeats 4000000 in
set_option maxRecDepth 100000 in
theorem kb_L_tells_65 {p : Program} {l : Launch} {e : Env} {s : State} {m : MethodId} {below : List Frame} {meth : Method} {c : Code} {G : ka_G} {args : Array Value} (hl0 : l.stackTraces = false) (hI : ka_I G) (C0 : ka_C p s m args meth c cL_tells 9 "GlossRowsLaw" (some .boolean)) (hK : ka_Kn G s) (hT : ka_T9 (ka_A G) s) (hN : kl_Nc s) {Q : Int32 → ka_S → Prop} {K23 : ka_S → Int32 → Int32 → Int32 → Int32 → Int32 → Prop} {R23 : Nat} (hk23 : ∀ (σ : ka_S) (v1 : Int32) (v2 : Int32) (v3 : Int32) (v4 : Int32) (v5 : Int32), K23 σ v1 v2 v3 v4 v5 → ∀ (cl : Nat), cl + R23 ≤ 0 → ∀ (H : Heap) (locs : List Loc), ka_P G σ H → va_S (ka_A G) s.heap H locs → ∀ ls : Array Slot, lv_has ls 9 [(0, .ref (ka_a G (22, 0, 0))), (1, .int v1), (2, .int v2), (3, .int v3), (4, .int v4), (5, .int v5)] → W p l e rm_L_tells s m args below meth c H locs cl (6 * cl) (MQ below (va_Qi Q (ka_B G) (ka_A G)) args s 0 0 (ka_A G)) (F0 m 23 ls [])) : ∀ (σ : ka_S) (v1 : Int32) (v2 : Int32) (v3 : Int32) (v5 : Int32) (v6 : Int32) (t0 : Int32), kw_L_tells_65 K23 Q σ v1 v2 v3 v5 v6 t0 → ∀ (cl : Nat), cl + 0 + R23 ≤ 0 → ∀ (H : Heap) (locs : List Loc), ka_P G σ H → va_S (ka_A G) s.heap H locs → ∀ ls : Array Slot, lv_has ls 9 [(0, .ref (ka_a G (22, 0, 0))), (1, .int v1), (2, .int v2), (3, .int v3), (5, .int v5), (6, .int v6)] → W p l e rm_L_tells s m args below meth c H locs cl (6 * cl) (MQ below (va_Qi Q (ka_B G) (ka_A G)) args s 0 0 (ka_A G)) (F0 m 65 ls [.int t0]) := by
  obtain ⟨hx, hb, -, hml, hown, hts, -⟩ := id C0
  intro σ v1 v2 v3 v5 v6 t0 hq cl hcl H locs hP hS ls hl
  unfold kw_L_tells_65 at hq
  refine lv_istore (lv' := [(7, .int t0), (0, .ref (ka_a G (22, 0, 0))), (1, .int v1), (2, .int v2), (3, .int v3), (5, .int v5), (6, .int v6)]) hx hb dL_tells_65 hl (by decide) rfl (fun ls hl => ?_)
  refine lv_iload hx hb dL_tells_67 (lv_at hl 5 rfl) ?_
  refine lv_if_eq (tgt := 83) hx hb dL_tells_69 (by decide) (fun hc => ?_) (fun hc => ?_)
  · have hq := hq.1 hc
    refine lv_iconst (v := 1) hx hb dL_tells_83 (by decide) ?_
    refine lv_goto (tgt := 88) hx hb dL_tells_84 (by decide) ?_
    refine lv_istore (lv' := [(4, .int (1 : Int32)), (7, .int t0), (0, .ref (ka_a G (22, 0, 0))), (1, .int v1), (2, .int v2), (3, .int v3), (5, .int v5), (6, .int v6)]) hx hb dL_tells_88 hl (by decide) rfl (fun ls hl => ?_)
    refine lv_iconst (v := 0) hx hb dL_tells_90 (by decide) ?_
    refine lv_istore (lv' := [(8, .int (0 : Int32)), (4, .int (1 : Int32)), (7, .int t0), (0, .ref (ka_a G (22, 0, 0))), (1, .int v1), (2, .int v2), (3, .int v3), (5, .int v5), (6, .int v6)]) hx hb dL_tells_91 hl (by decide) rfl (fun ls hl => ?_)
    obtain ⟨n9, hq⟩ := hq
    refine W.widen (k := (cl + 0)) (n := 6 * (cl + 0)) (by omega) (by omega) ?_
    exact kb_L_tells_93 (R23 := R23) hl0 hI C0 hK hT hN hk23 n9 σ v1 v2 v3 (1 : Int32) v5 v6 t0 (0 : Int32) hq (cl + 0) (by omega) H locs hP hS ls (lv_sub hl [3, 4, 5, 6, 1, 7, 8, 2, 0] rfl)
  · have hq := hq.2 hc
    refine lv_aload_n hx hb dL_tells_72 rfl (lv_at hl 1 rfl) ?_
    refine lv_bipush (v := 32) hx hb dL_tells_73 (by decide) ?_
    refine kj_Wl (As := [.ref (ka_a G (22, 0, 0)), .int (32 : Int32)]) (rest := []) C0 hK hT hN hP hS (fun _ h => h) hl (km0_L_append l hl0 hI hq) kd_L_append kq_840 ⟨rfl, rfl, Nat.le_of_ble_eq_true rfl, Nat.le_of_ble_eq_true rfl⟩ rfl (Nat.le_of_ble_eq_true rfl) dL_tells_75 ⟨by show _ ≤ 0; omega, by show _ ≤ 0; omega⟩ (fun r10 σ11 H locs hq hP hkp hS => ?_)
    refine lv_lconst (v := 0) hx hb dL_tells_78 (by decide) ?_
    refine kr_cle (tgt := 87) C0 dL_tells_79 dL_tells_80 (by decide) (fun hc => ?_) (fun hc => ?_)
    · have hq := hq.1 hc
      refine lv_iconst (v := 0) hx hb dL_tells_87 (by decide) ?_
      refine lv_istore (lv' := [(4, .int (0 : Int32)), (7, .int t0), (0, .ref (ka_a G (22, 0, 0))), (1, .int v1), (2, .int v2), (3, .int v3), (5, .int v5), (6, .int v6)]) hx hb dL_tells_88 hl (by decide) rfl (fun ls hl => ?_)
      refine lv_iconst (v := 0) hx hb dL_tells_90 (by decide) ?_
      refine lv_istore (lv' := [(8, .int (0 : Int32)), (4, .int (0 : Int32)), (7, .int t0), (0, .ref (ka_a G (22, 0, 0))), (1, .int v1), (2, .int v2), (3, .int v3), (5, .int v5), (6, .int v6)]) hx hb dL_tells_91 hl (by decide) rfl (fun ls hl => ?_)
      obtain ⟨n12, hq⟩ := hq
      refine W.widen (k := (cl + 0)) (n := 6 * (cl + 0)) (by omega) (by omega) ?_
      exact kb_L_tells_93 (R23 := R23) hl0 hI C0 hK hT hN hk23 n12 σ11 v1 v2 v3 (0 : Int32) v5 v6 t0 (0 : Int32) hq (cl + 0) (by omega) H locs hP hS ls (lv_sub hl [3, 4, 5, 6, 1, 7, 8, 2, 0] rfl)
    · have hq := hq.2 hc
      refine lv_iconst (v := 1) hx hb dL_tells_83 (by decide) ?_
      refine lv_goto (tgt := 88) hx hb dL_tells_84 (by decide) ?_
      refine lv_istore (lv' := [(4, .int (1 : Int32)), (7, .int t0), (0, .ref (ka_a G (22, 0, 0))), (1, .int v1), (2, .int v2), (3, .int v3), (5, .int v5), (6, .int v6)]) hx hb dL_tells_88 hl (by decide) rfl (fun ls hl => ?_)
      refine lv_iconst (v := 0) hx hb dL_tells_90 (by decide) ?_
      refine lv_istore (lv' := [(8, .int (0 : Int32)), (4, .int (1 : Int32)), (7, .int t0), (0, .ref (ka_a G (22, 0, 0))), (1, .int v1), (2, .int v2), (3, .int v3), (5, .int v5), (6, .int v6)]) hx hb dL_tells_91 hl (by decide) rfl (fun ls hl => ?_)
      obtain ⟨n13, hq⟩ := hq
      refine W.widen (k := (cl + 0)) (n := 6 * (cl + 0)) (by omega) (by omega) ?_
      exact kb_L_tells_93 (R23 := R23) hl0 hI C0 hK hT hN hk23 n13 σ11 v1 v2 v3 (1 : Int32) v5 v6 t0 (0 : Int32) hq (cl + 0) (by omega) H locs hP hS ls (lv_sub hl [3, 4, 5, 6, 1, 7, 8, 2, 0] rfl)
def kw_L_tells_328 (Q : Int32 → ka_S → Prop) (σ : ka_S) (v4 : Int32) : Prop := (v4 = (0 : Int32) → Q (0 : Int32) σ) ∧
  (¬ v4 = (0 : Int32) → kw_X8_errorPosition σ (fun r7 σ8 =>
    (r7 = (-9 : Int32) → Q (1 : Int32) σ8) ∧
    (¬ r7 = (-9 : Int32) → Q (0 : Int32) σ8)))
set_option maxHeartbeats 4000000 in
set_option maxRecDepth 100000 in
theorem kb_L_tells_328 {p : Program} {l : Launch} {e : Env} {s : State} {m : MethodId} {below : List Frame} {meth : Method} {c : Code} {G : ka_G} {args : Array Value} (hl0 : l.stackTraces = false) (hI : ka_I G) (C0 : ka_C p s m args meth c cL_tells 9 "GlossRowsLaw" (some .boolean)) (hK : ka_Kn G s) (hT : ka_T9 (ka_A G) s) (hN : kl_Nc s) {Q : Int32 → ka_S → Prop} : ∀ (σ : ka_S) (v4 : Int32), kw_L_tells_328 Q σ v4 → ∀ (cl : Nat), cl + 0 ≤ 0 → ∀ (H : Heap) (locs : List Loc), ka_P G σ H → va_S (ka_A G) s.heap H locs → ∀ ls : Array Slot, lv_has ls 9 [(0, .ref (ka_a G (22, 0, 0))), (4, .int v4)] → W p l e rm_L_tells s m args below meth c H locs cl (6 * cl) (MQ below (va_Qi Q (ka_B G) (ka_A G)) args s 0 0 (ka_A G)) (F0 m 328 ls []) := by
  obtain ⟨hx, hb, -, hml, hown, hts, -⟩ := id C0
  intro σ v4 hq cl hcl H locs hP hS ls hl
  unfold kw_L_tells_328 at hq
  refine lv_iload hx hb dL_tells_328 (lv_at hl 1 rfl) ?_
  refine lv_if_eq (tgt := 346) hx hb dL_tells_330 (by decide) (fun hc => ?_) (fun hc => ?_)
  · have hq := hq.1 hc
    refine lv_iconst (v := 0) hx hb dL_tells_346 (by decide) ?_
    exact kl_zret C0 hK hP hS rfl hq dL_tells_347 ⟨by omega, by omega⟩
  · have hq := hq.2 hc
    refine lv_aload_n hx hb dL_tells_333 rfl (lv_at hl 0 rfl) ?_
    refine kj_Vi (k := (22, 0, 0)) (As := []) (rest := []) C0 hK hP hS (fun _ h => h) hl (km_X8_errorPosition l hI hq) kd_X8_errorPosition kq_632 (kv_s (by decide) (by decide)) rfl rfl rfl ⟨rfl, rfl, Nat.le_of_ble_eq_true rfl, Nat.le_of_ble_eq_true rfl⟩ rfl (Nat.le_of_ble_eq_true rfl) dL_tells_334 ⟨by show _ ≤ 0; omega, by show _ ≤ 0; omega⟩ (fun r7 σ8 H locs hq hP hkp hS => ?_)
    refine lv_bipush (v := -9) hx hb dL_tells_337 (by decide) ?_
    refine lv_icmp_ne (tgt := 346) hx hb dL_tells_339 (by decide) (fun hc => ?_) (fun hc => ?_)
    · have hq := hq.2 hc
      refine lv_iconst (v := 0) hx hb dL_tells_346 (by decide) ?_
      exact kl_zret C0 hK hP hS rfl hq dL_tells_347 ⟨by omega, by omega⟩
    · have hq := hq.1 hc
      refine lv_iconst (v := 1) hx hb dL_tells_342 (by decide) ?_
      refine lv_goto (tgt := 347) hx hb dL_tells_343 (by decide) ?_
      exact kl_zret C0 hK hP hS rfl hq dL_tells_347 ⟨by omega, by omega⟩
def kw_L_tells_23 (Q : Int32 → ka_S → Prop) : Nat → ka_S → Int32 → Int32 → Int32 → Int32 → Int32 → Prop
  | 0, _, _, _, _, _, _ => False
  | n + 1, σ, v1, v2, v3, v4, v5 => (v3 ≤ v5 → kw_L_tells_328 Q σ v4) ∧
    (¬ v3 ≤ v5 → (v4 = (0 : Int32) → kw_L_tells_328 Q σ v4) ∧
      (¬ v4 = (0 : Int32) → ∀ x6 : Int32, x6 = ((1 : Int32) + (((v2 >>> (v5 &&& 31)) &&& (255 : Int32)) - ((v2 >>> (v5 &&& 31)) &&& (255 : Int32)) / (3 : Int32) * (3 : Int32))) → 
        (((v1 >>> ((v5 + (3 : Int32)) &&& 31)) &&& (1 : Int32)) = (1 : Int32) → kw_L_tells_65 (kw_L_tells_23 Q n) Q σ v1 v2 v3 v5 x6 (1 : Int32)) ∧
        (¬ ((v1 >>> ((v5 + (3 : Int32)) &&& 31)) &&& (1 : Int32)) = (1 : Int32) → kw_L_tells_65 (kw_L_tells_23 Q n) Q σ v1 v2 v3 v5 x6 (0 : Int32))))
set_option maxHeartbeats 4000000 in
set_option maxRecDepth 100000 in
theorem kb_L_tells_23 {p : Program} {l : Launch} {e : Env} {s : State} {m : MethodId} {below : List Frame} {meth : Method} {c : Code} {G : ka_G} {args : Array Value} (hl0 : l.stackTraces = false) (hI : ka_I G) (C0 : ka_C p s m args meth c cL_tells 9 "GlossRowsLaw" (some .boolean)) (hK : ka_Kn G s) (hT : ka_T9 (ka_A G) s) (hN : kl_Nc s) {Q : Int32 → ka_S → Prop} : ∀ (n : Nat) (σ : ka_S) (v1 : Int32) (v2 : Int32) (v3 : Int32) (v4 : Int32) (v5 : Int32), kw_L_tells_23 Q n σ v1 v2 v3 v4 v5 → ∀ (cl : Nat), cl + 0 ≤ 0 → ∀ (H : Heap) (locs : List Loc), ka_P G σ H → va_S (ka_A G) s.heap H locs → ∀ ls : Array Slot, lv_has ls 9 [(0, .ref (ka_a G (22, 0, 0))), (1, .int v1), (2, .int v2), (3, .int v3), (4, .int v4), (5, .int v5)] → W p l e rm_L_tells s m args below meth c H locs cl (6 * cl) (MQ below (va_Qi Q (ka_B G) (ka_A G)) args s 0 0 (ka_A G)) (F0 m 23 ls []) := by
  obtain ⟨hx, hb, -, hml, hown, hts, -⟩ := id C0
  intro n
  induction n with
  | zero =>
    intro σ v1 v2 v3 v4 v5 hq
    rw [kw_L_tells_23] at hq
    exact hq.elim
  | succ n ih =>
    have ih9 : ∀ (σ : ka_S) (v1 : Int32) (v2 : Int32) (v3 : Int32) (v4 : Int32) (v5 : Int32), kw_L_tells_23 Q n σ v1 v2 v3 v4 v5 → ∀ (cl : Nat), cl + (0) ≤ 0 → ∀ (H : Heap) (locs : List Loc), ka_P G σ H → va_S (ka_A G) s.heap H locs → ∀ ls : Array Slot, lv_has ls 9 [(0, .ref (ka_a G (22, 0, 0))), (1, .int v1), (2, .int v2), (3, .int v3), (4, .int v4), (5, .int v5)] → W p l e rm_L_tells s m args below meth c H locs cl (6 * cl) (MQ below (va_Qi Q (ka_B G) (ka_A G)) args s 0 0 (ka_A G)) (F0 m 23 ls []) := fun σ v1 v2 v3 v4 v5 hq cl h9 => ih σ v1 v2 v3 v4 v5 hq cl (by omega)
    intro σ v1 v2 v3 v4 v5 hq cl hcl H locs hP hS ls hl
    rw [kw_L_tells_23] at hq
    refine lv_iload hx hb dL_tells_23 (lv_at hl 5 rfl) ?_
    refine lv_iload_n hx hb dL_tells_25 rfl (lv_at hl 3 rfl) ?_
    refine lv_icmp_ge (tgt := 328) hx hb dL_tells_26 (by decide) (fun hc => ?_) (fun hc => ?_)
    · have hq := hq.1 hc
      refine W.widen (k := (cl + 0)) (n := 6 * (cl + 0)) (by omega) (by omega) ?_
      exact kb_L_tells_328 hl0 hI C0 hK hT hN σ v4 hq (cl + 0) (by omega) H locs hP hS ls (lv_sub hl [0, 4] rfl)
    · have hq := hq.2 hc
      refine lv_iload hx hb dL_tells_29 (lv_at hl 4 rfl) ?_
      refine lv_if_eq (tgt := 328) hx hb dL_tells_31 (by decide) (fun hc => ?_) (fun hc => ?_)
      · have hq := hq.1 hc
        refine W.widen (k := (cl + 0)) (n := 6 * (cl + 0)) (by omega) (by omega) ?_
        exact kb_L_tells_328 hl0 hI C0 hK hT hN σ v4 hq (cl + 0) (by omega) H locs hP hS ls (lv_sub hl [0, 4] rfl)
      · have hq := hq.2 hc
        refine lv_iconst (v := 1) hx hb dL_tells_34 (by decide) ?_
        refine lv_iload_n hx hb dL_tells_35 rfl (lv_at hl 2 rfl) ?_
        refine lv_iload hx hb dL_tells_36 (lv_at hl 5 rfl) ?_
        refine lv_ishr hx hb dL_tells_38 ?_
        refine lv_sipush (v := 255) hx hb dL_tells_39 (by decide) ?_
        refine lv_iand hx hb dL_tells_42 ?_
        refine lv_iconst (v := 3) hx hb dL_tells_43 (by decide) ?_
        refine lv_irem hx hb dL_tells_44 (by decide) ?_
        refine lv_iadd hx hb dL_tells_45 ?_
        refine lv_topi (fun x6 ex6 => ?_)
        have hq := hq x6 ex6
        refine lv_istore (lv' := [(6, .int x6), (0, .ref (ka_a G (22, 0, 0))), (1, .int v1), (2, .int v2), (3, .int v3), (4, .int v4), (5, .int v5)]) hx hb dL_tells_46 hl (by decide) rfl (fun ls hl => ?_)
        refine lv_iload_n hx hb dL_tells_48 rfl (lv_at hl 2 rfl) ?_
        refine lv_iload hx hb dL_tells_49 (lv_at hl 6 rfl) ?_
        refine lv_iconst (v := 3) hx hb dL_tells_51 (by decide) ?_
        refine lv_iadd hx hb dL_tells_52 ?_
        refine lv_ishr hx hb dL_tells_53 ?_
        refine lv_iconst (v := 1) hx hb dL_tells_54 (by decide) ?_
        refine lv_iand hx hb dL_tells_55 ?_
        refine lv_iconst (v := 1) hx hb dL_tells_56 (by decide) ?_
        refine lv_icmp_ne (tgt := 64) hx hb dL_tells_57 (by decide) (fun hc => ?_) (fun hc => ?_)
        · have hq := hq.2 hc
          refine lv_iconst (v := 0) hx hb dL_tells_64 (by decide) ?_
          refine W.widen (k := (cl + 0)) (n := 6 * (cl + 0)) (by omega) (by omega) ?_
          exact kb_L_tells_65 (R23 := (0)) hl0 hI C0 hK hT hN ih9 σ v1 v2 v3 v5 x6 (0 : Int32) hq (cl + 0) (by omega) H locs hP hS ls (lv_sub hl [1, 2, 3, 4, 6, 0] rfl)
        · have hq := hq.1 hc
          refine lv_iconst (v := 1) hx hb dL_tells_60 (by decide) ?_
          refine lv_goto (tgt := 65) hx hb dL_tells_61 (by decide) ?_
          refine W.widen (k := (cl + 0)) (n := 6 * (cl + 0)) (by omega) (by omega) ?_
          exact kb_L_tells_65 (R23 := (0)) hl0 hI C0 hK hT hN ih9 σ v1 v2 v3 v5 x6 (1 : Int32) hq (cl + 0) (by omega) H locs hP hS ls (lv_sub hl [1, 2, 3, 4, 6, 0] rfl)
def kw_L_tells (σ : ka_S) (v1 : Int32) (v2 : Int32) (Q : Int32 → ka_S → Prop) : Prop := ∀ x1 : Int32, x1 = ((1 : Int32) + (v1 - v1 / (3 : Int32) * (3 : Int32))) → 
  kw_X8_clearText σ (fun r2 σ3 =>
  (r2 < (0 : Int32) → ∃ n4 : Nat, kw_L_tells_23 Q n4 σ3 v1 v2 x1 (0 : Int32) (0 : Int32)) ∧
  (¬ r2 < (0 : Int32) → ∃ n5 : Nat, kw_L_tells_23 Q n5 σ3 v1 v2 x1 (1 : Int32) (0 : Int32)))
set_option maxHeartbeats 4000000 in
set_option maxRecDepth 100000 in
theorem km_L_tells (l : Launch) (hl0 : l.stackTraces = false) {G : ka_G} (hI : ka_I G) {σ : ka_S} {v1 : Int32} {v2 : Int32} {Q : Int32 → ka_S → Prop} (hq : kw_L_tells σ v1 v2 Q) : kd_i l yL_tells (kw_ yL_tells cL_tells 9 (some .boolean)) rm_L_tells 0 0 G [.ref (ka_a G (22, 0, 0)), .int v1, .int v2] σ Q := by
  refine kj_of "GlossRowsLaw" rfl (by decide) (Nat.le_of_ble_eq_true rfl) ?_
  intro p e s m below meth c C0 hK hT hN H locs hP hS ls hl
  obtain ⟨hx, hb, -, hml, hown, hts, -⟩ := id C0
  have hl : lv_has ls 9 [(0, .ref (ka_a G (22, 0, 0))), (1, .int v1), (2, .int v2)] := hl
  unfold kw_L_tells at hq
  refine lv_iconst (v := 1) hx hb dL_tells_0 (by decide) ?_
  refine lv_iload_n hx hb dL_tells_1 rfl (lv_at hl 1 rfl) ?_
  refine lv_iconst (v := 3) hx hb dL_tells_2 (by decide) ?_
  refine lv_irem hx hb dL_tells_3 (by decide) ?_
  refine lv_iadd hx hb dL_tells_4 ?_
  refine lv_topi (fun x1 ex1 => ?_)
  have hq := hq x1 ex1
  refine lv_istore_n (lv' := [(3, .int x1), (0, .ref (ka_a G (22, 0, 0))), (1, .int v1), (2, .int v2)]) hx hb dL_tells_5 rfl hl (by decide) rfl (fun ls hl => ?_)
  refine lv_aload_n hx hb dL_tells_6 rfl (lv_at hl 1 rfl) ?_
  refine kj_Vi (k := (22, 0, 0)) (As := []) (rest := []) C0 hK hP hS (fun _ h => h) hl (km_X8_clearText l hI hq) kd_X8_clearText kq_985 (kv_s (by decide) (by decide)) rfl rfl rfl ⟨rfl, rfl, Nat.le_of_ble_eq_true rfl, Nat.le_of_ble_eq_true rfl⟩ rfl (Nat.le_of_ble_eq_true rfl) dL_tells_7 ⟨by show _ ≤ 0; omega, by show _ ≤ 0; omega⟩ (fun r2 σ3 H locs hq hP hkp hS => ?_)
  refine lv_if_lt (tgt := 17) hx hb dL_tells_10 (by decide) (fun hc => ?_) (fun hc => ?_)
  · have hq := hq.1 hc
    refine lv_iconst (v := 0) hx hb dL_tells_17 (by decide) ?_
    refine lv_istore (lv' := [(4, .int (0 : Int32)), (3, .int x1), (0, .ref (ka_a G (22, 0, 0))), (1, .int v1), (2, .int v2)]) hx hb dL_tells_18 hl (by decide) rfl (fun ls hl => ?_)
    refine lv_iconst (v := 0) hx hb dL_tells_20 (by decide) ?_
    refine lv_istore (lv' := [(5, .int (0 : Int32)), (4, .int (0 : Int32)), (3, .int x1), (0, .ref (ka_a G (22, 0, 0))), (1, .int v1), (2, .int v2)]) hx hb dL_tells_21 hl (by decide) rfl (fun ls hl => ?_)
    obtain ⟨n4, hq⟩ := hq
    refine W.widen (k := 0) (n := 6 * 0) (by omega) (by omega) ?_
    exact kb_L_tells_23 hl0 hI C0 hK hT hN n4 σ3 v1 v2 x1 (0 : Int32) (0 : Int32) hq 0 (by omega) H locs hP hS ls (lv_sub hl [3, 4, 5, 2, 1, 0] rfl)
  · have hq := hq.2 hc
    refine lv_iconst (v := 1) hx hb dL_tells_13 (by decide) ?_
    refine lv_goto (tgt := 18) hx hb dL_tells_14 (by decide) ?_
    refine lv_istore (lv' := [(4, .int (1 : Int32)), (3, .int x1), (0, .ref (ka_a G (22, 0, 0))), (1, .int v1), (2, .int v2)]) hx hb dL_tells_18 hl (by decide) rfl (fun ls hl => ?_)
    refine lv_iconst (v := 0) hx hb dL_tells_20 (by decide) ?_
    refine lv_istore (lv' := [(5, .int (0 : Int32)), (4, .int (1 : Int32)), (3, .int x1), (0, .ref (ka_a G (22, 0, 0))), (1, .int v1), (2, .int v2)]) hx hb dL_tells_21 hl (by decide) rfl (fun ls hl => ?_)
    obtain ⟨n5, hq⟩ := hq
    refine W.widen (k := 0) (n := 6 * 0) (by omega) (by omega) ?_
    exact kb_L_tells_23 hl0 hI C0 hK hT hN n5 σ3 v1 v2 x1 (1 : Int32) (0 : Int32) hq 0 (by omega) H locs hP hS ls (lv_sub hl [3, 4, 5, 2, 1, 0] rfl)
/-! law: act(LGlossRows;II)J -/
def rm_L_act : Room := { frames := 9, cells := 4, slots := 24, locals := 172 }
def kw_L_act_209 (Q : Int64 → ka_S → Prop) (σ : ka_S) (v3 : Int32) (v4 : Int32) : Prop := kw_L_setGloss σ v3 v4 (fun r68 σ69 =>
  Q r68 σ69)
set_option maxHeartbeats 4000000 in
set_option maxRecDepth 100000 in
theorem kb_L_act_209 {p : Program} {l : Launch} {e : Env} {s : State} {m : MethodId} {below : List Frame} {meth : Method} {c : Code} {G : ka_G} {args : Array Value} (hl0 : l.stackTraces = false) (hI : ka_I G) (C0 : ka_C p s m args meth c cL_act 5 "GlossRowsLaw" (some .long)) (hK : ka_Kn G s) (hT : ka_T9 (ka_A G) s) (hN : kl_Nc s) {Q : Int64 → ka_S → Prop} : ∀ (σ : ka_S) (v3 : Int32) (v4 : Int32), kw_L_act_209 Q σ v3 v4 → ∀ (cl : Nat), cl + 2 ≤ 4 → ∀ (H : Heap) (locs : List Loc), ka_P G σ H → va_S (ka_A G) s.heap H locs → ∀ ls : Array Slot, lv_has ls 5 [(0, .ref (ka_a G (22, 0, 0))), (3, .int v3), (4, .int v4)] → W p l e rm_L_act s m args below meth c H locs cl (6 * cl) (MQ below (va_Ql Q (ka_B G) (ka_A G)) args s 4 24 (ka_A G)) (F0 m 209 ls []) := by
  obtain ⟨hx, hb, -, hml, hown, hts, -⟩ := id C0
  intro σ v3 v4 hq cl hcl H locs hP hS ls hl
  unfold kw_L_act_209 at hq
  refine lv_aload_n hx hb dL_act_209 rfl (lv_at hl 0 rfl) ?_
  refine lv_iload_n hx hb dL_act_210 rfl (lv_at hl 1 rfl) ?_
  refine lv_iload hx hb dL_act_211 (lv_at hl 2 rfl) ?_
  refine kj_Wl (As := [.ref (ka_a G (22, 0, 0)), .int v3, .int v4]) (rest := []) C0 hK hT hN hP hS (fun _ h => h) hl (km_L_setGloss l hl0 hI hq) kd_L_setGloss kq_905 ⟨rfl, rfl, Nat.le_of_ble_eq_true rfl, Nat.le_of_ble_eq_true rfl⟩ rfl (Nat.le_of_ble_eq_true rfl) dL_act_213 ⟨by show _ ≤ 4; omega, by show _ ≤ 24; omega⟩ (fun r68 σ69 H locs hq hP hkp hS => ?_)
  refine lv_goto (tgt := 222) hx hb dL_act_216 (by decide) ?_
  exact kl_lret C0 hK hP hS hq dL_act_222 ⟨by omega, by omega⟩
def kw_L_act_192 (Q : Int64 → ka_S → Prop) (σ : ka_S) (v2 : Int32) (v3 : Int32) (v4 : Int32) : Prop := ((v2 - v2 / (3 : Int32) * (3 : Int32)) = (0 : Int32) → kw_L_act_209 Q σ v3 v4) ∧
  (¬ (v2 - v2 / (3 : Int32) * (3 : Int32)) = (0 : Int32) → kw_L_append σ (46 : Int32) (fun r66 σ67 =>
    (r66 ≤ (0 : Int64) → Q (-1 : Int64) σ67) ∧
    (¬ r66 ≤ (0 : Int64) → kw_L_act_209 Q σ67 v3 v4)))
set_option maxHeartbeats 4000000 in
set_option maxRecDepth 100000 in
theorem kb_L_act_192 {p : Program} {l : Launch} {e : Env} {s : State} {m : MethodId} {below : List Frame} {meth : Method} {c : Code} {G : ka_G} {args : Array Value} (hl0 : l.stackTraces = false) (hI : ka_I G) (C0 : ka_C p s m args meth c cL_act 5 "GlossRowsLaw" (some .long)) (hK : ka_Kn G s) (hT : ka_T9 (ka_A G) s) (hN : kl_Nc s) {Q : Int64 → ka_S → Prop} : ∀ (σ : ka_S) (v2 : Int32) (v3 : Int32) (v4 : Int32), kw_L_act_192 Q σ v2 v3 v4 → ∀ (cl : Nat), cl + 3 ≤ 4 → ∀ (H : Heap) (locs : List Loc), ka_P G σ H → va_S (ka_A G) s.heap H locs → ∀ ls : Array Slot, lv_has ls 5 [(0, .ref (ka_a G (22, 0, 0))), (2, .int v2), (3, .int v3), (4, .int v4)] → W p l e rm_L_act s m args below meth c H locs cl (6 * cl) (MQ below (va_Ql Q (ka_B G) (ka_A G)) args s 4 24 (ka_A G)) (F0 m 192 ls []) := by
  obtain ⟨hx, hb, -, hml, hown, hts, -⟩ := id C0
  intro σ v2 v3 v4 hq cl hcl H locs hP hS ls hl
  unfold kw_L_act_192 at hq
  refine lv_iload_n hx hb dL_act_192 rfl (lv_at hl 1 rfl) ?_
  refine lv_iconst (v := 3) hx hb dL_act_193 (by decide) ?_
  refine lv_irem hx hb dL_act_194 (by decide) ?_
  refine lv_if_eq (tgt := 209) hx hb dL_act_195 (by decide) (fun hc => ?_) (fun hc => ?_)
  · have hq := hq.1 hc
    refine W.widen (k := (cl + 0)) (n := 6 * (cl + 0)) (by omega) (by omega) ?_
    exact kb_L_act_209 hl0 hI C0 hK hT hN σ v3 v4 hq (cl + 0) (by omega) H locs hP hS ls (lv_sub hl [0, 2, 3] rfl)
  · have hq := hq.2 hc
    refine lv_aload_n hx hb dL_act_198 rfl (lv_at hl 0 rfl) ?_
    refine lv_bipush (v := 46) hx hb dL_act_199 (by decide) ?_
    refine kj_Wl (As := [.ref (ka_a G (22, 0, 0)), .int (46 : Int32)]) (rest := []) C0 hK hT hN hP hS (fun _ h => h) hl (km_L_append l hl0 hI hq) kd_L_append kq_840 ⟨rfl, rfl, Nat.le_of_ble_eq_true rfl, Nat.le_of_ble_eq_true rfl⟩ rfl (Nat.le_of_ble_eq_true rfl) dL_act_201 ⟨by show _ ≤ 4; omega, by show _ ≤ 24; omega⟩ (fun r66 σ67 H locs hq hP hkp hS => ?_)
    refine lv_lconst (v := 0) hx hb dL_act_204 (by decide) ?_
    refine kr_cle (tgt := 219) C0 dL_act_205 dL_act_206 (by decide) (fun hc => ?_) (fun hc => ?_)
    · have hq := hq.1 hc
      refine lv_ldc2 hx hb hown (hts _ kq_992) dL_act_219 ?_
      exact kl_lret C0 hK hP hS hq dL_act_222 ⟨by omega, by omega⟩
    · have hq := hq.2 hc
      refine W.widen (k := (cl + 1)) (n := 6 * (cl + 1)) (by omega) (by omega) ?_
      exact kb_L_act_209 hl0 hI C0 hK hT hN σ67 v3 v4 hq (cl + 1) (by omega) H locs hP hS ls (lv_sub hl [0, 2, 3] rfl)
def kw_L_act (σ : ka_S) (v1 : Int32) (v2 : Int32) (Q : Int64 → ka_S → Prop) : Prop := ∀ x1 : Int32, x1 = (v2 - v2 / (12 : Int32) * (12 : Int32)) → 
  ∀ x2 : Int32, x2 = ((v2 / (12 : Int32)) - (v2 / (12 : Int32)) / (3 : Int32) * (3 : Int32)) → 
  ∀ x3 : Int32, x3 = (v1 - v1 / (18 : Int32) * (18 : Int32)) →
  (x3 = (0 : Int32) → kw_L_tells σ v1 v2 (fun r4 σ5 =>
  (r4 = (0 : Int32) → Q (-1 : Int64) σ5) ∧
  (¬ r4 = (0 : Int32) → kw_L_insert σ5 x1 (fun r6 σ7 =>
    Q r6 σ7)))) ∧
  (¬ x3 = (0 : Int32) → (x3 = (1 : Int32) → kw_L_tells σ v1 v2 (fun r8 σ9 =>
  (r8 = (0 : Int32) → Q (-1 : Int64) σ9) ∧
  (¬ r8 = (0 : Int32) → kw_L_insert σ9 x1 (fun r10 σ11 =>
    Q r10 σ11)))) ∧
  (¬ x3 = (1 : Int32) → (x3 = (2 : Int32) → kw_L_tells σ v1 v2 (fun r12 σ13 =>
  (r12 = (0 : Int32) → Q (-1 : Int64) σ13) ∧
  (¬ r12 = (0 : Int32) → kw_L_insert σ13 x1 (fun r14 σ15 =>
    Q r14 σ15)))) ∧
  (¬ x3 = (2 : Int32) → (x3 = (3 : Int32) → kw_L_remove σ x1 (fun r16 σ17 =>
  Q r16 σ17)) ∧
  (¬ x3 = (3 : Int32) → (x3 = (4 : Int32) → kw_L_end σ x1 (fun r18 σ19 =>
  Q r18 σ19)) ∧
  (¬ x3 = (4 : Int32) → (x3 = (5 : Int32) → kw_L_end σ x1 (fun r20 σ21 =>
  Q r20 σ21)) ∧
  (¬ x3 = (5 : Int32) → (x3 = (6 : Int32) → kw_L_join σ x1 (fun r22 σ23 =>
  Q r22 σ23)) ∧
  (¬ x3 = (6 : Int32) → (x3 = (7 : Int32) → kw_L_tells σ ((7 : Int32) * v1) v2 (fun r24 σ25 =>
  (r24 = (0 : Int32) → Q (-1 : Int64) σ25) ∧
  (¬ r24 = (0 : Int32) → kw_L_setFree σ25 x1 (fun r26 σ27 =>
    Q r26 σ27)))) ∧
  (¬ x3 = (7 : Int32) → (x3 = (8 : Int32) → kw_L_tells σ ((7 : Int32) * v1) v2 (fun r28 σ29 =>
  (r28 = (0 : Int32) → Q (-1 : Int64) σ29) ∧
  (¬ r28 = (0 : Int32) → kw_L_setFree σ29 x1 (fun r30 σ31 =>
    Q r30 σ31)))) ∧
  (¬ x3 = (8 : Int32) → (x3 = (9 : Int32) → kw_X8_clearText σ (fun r32 σ33 =>
  (r32 < (0 : Int32) → Q (-1 : Int64) σ33) ∧
  (¬ r32 < (0 : Int32) → ((v2 - v2 / (5 : Int32) * (5 : Int32)) = (0 : Int32) → kw_L_act_192 Q σ33 v2 x1 x2) ∧
    (¬ (v2 - v2 / (5 : Int32) * (5 : Int32)) = (0 : Int32) → kw_L_append σ33 ((97 : Int32) + (v2 - v2 / (26 : Int32) * (26 : Int32))) (fun r34 σ35 =>
      (r34 ≤ (0 : Int64) → Q (-1 : Int64) σ35) ∧
      (¬ r34 ≤ (0 : Int64) → kw_L_act_192 Q σ35 v2 x1 x2)))))) ∧
  (¬ x3 = (9 : Int32) → (x3 = (10 : Int32) → kw_X8_clearText σ (fun r36 σ37 =>
  (r36 < (0 : Int32) → Q (-1 : Int64) σ37) ∧
  (¬ r36 < (0 : Int32) → ((v2 - v2 / (5 : Int32) * (5 : Int32)) = (0 : Int32) → kw_L_act_192 Q σ37 v2 x1 x2) ∧
    (¬ (v2 - v2 / (5 : Int32) * (5 : Int32)) = (0 : Int32) → kw_L_append σ37 ((97 : Int32) + (v2 - v2 / (26 : Int32) * (26 : Int32))) (fun r38 σ39 =>
      (r38 ≤ (0 : Int64) → Q (-1 : Int64) σ39) ∧
      (¬ r38 ≤ (0 : Int64) → kw_L_act_192 Q σ39 v2 x1 x2)))))) ∧
  (¬ x3 = (10 : Int32) → (x3 = (11 : Int32) → ((v2 - v2 / (3 : Int32) * (3 : Int32)) = (0 : Int32) → kw_L_set σ (9 : Int32) ((10 : Int32) + ((v2 / (3 : Int32)) - (v2 / (3 : Int32)) / (30 : Int32) * (30 : Int32))) (fun r44 σ45 =>
    Q r44 σ45)) ∧
  (¬ (v2 - v2 / (3 : Int32) * (3 : Int32)) = (0 : Int32) → ((v2 - v2 / (3 : Int32) * (3 : Int32)) = (1 : Int32) → kw_L_set σ (10 : Int32) ((1 : Int32) + ((v2 / (3 : Int32)) - (v2 / (3 : Int32)) / (3 : Int32) * (3 : Int32))) (fun r42 σ43 =>
      Q r42 σ43)) ∧
    (¬ (v2 - v2 / (3 : Int32) * (3 : Int32)) = (1 : Int32) → kw_L_set σ (11 : Int32) ((v2 / (3 : Int32)) - (v2 / (3 : Int32)) / (2 : Int32) * (2 : Int32)) (fun r40 σ41 =>
      Q r40 σ41)))) ∧
  (¬ x3 = (11 : Int32) → (x3 = (12 : Int32) → ((v2 - v2 / (3 : Int32) * (3 : Int32)) = (0 : Int32) → kw_L_set σ (9 : Int32) ((10 : Int32) + ((v2 / (3 : Int32)) - (v2 / (3 : Int32)) / (30 : Int32) * (30 : Int32))) (fun r50 σ51 =>
    Q r50 σ51)) ∧
  (¬ (v2 - v2 / (3 : Int32) * (3 : Int32)) = (0 : Int32) → ((v2 - v2 / (3 : Int32) * (3 : Int32)) = (1 : Int32) → kw_L_set σ (10 : Int32) ((1 : Int32) + ((v2 / (3 : Int32)) - (v2 / (3 : Int32)) / (3 : Int32) * (3 : Int32))) (fun r48 σ49 =>
      Q r48 σ49)) ∧
    (¬ (v2 - v2 / (3 : Int32) * (3 : Int32)) = (1 : Int32) → kw_L_set σ (11 : Int32) ((v2 / (3 : Int32)) - (v2 / (3 : Int32)) / (2 : Int32) * (2 : Int32)) (fun r46 σ47 =>
      Q r46 σ47)))) ∧
  (¬ x3 = (12 : Int32) → (x3 = (13 : Int32) → kw_L_learn σ x1 x2 (fun r52 σ53 =>
  Q r52 σ53)) ∧
  (¬ x3 = (13 : Int32) → (x3 = (14 : Int32) → kw_L_learn σ x1 x2 (fun r54 σ55 =>
  Q r54 σ55)) ∧
  (¬ x3 = (14 : Int32) → (x3 = (15 : Int32) → ((v2 - v2 / (3 : Int32) * (3 : Int32)) = (0 : Int32) → kw_L_forget σ ((v2 / (3 : Int32)) - (v2 / (3 : Int32)) / (4 : Int32) * (4 : Int32)) (fun r58 σ59 =>
    Q r58 σ59)) ∧
  (¬ (v2 - v2 / (3 : Int32) * (3 : Int32)) = (0 : Int32) → kw_X8_fillGaps σ (fun r56 σ57 =>
    Q r56.toInt64 σ57))) ∧
  (¬ x3 = (15 : Int32) → (x3 = (16 : Int32) → kw_L_undo σ (fun r60 σ61 =>
  Q r60 σ61)) ∧
  (¬ x3 = (16 : Int32) → ((v2 - v2 / (2 : Int32) * (2 : Int32)) = (0 : Int32) → kw_L_save σ ((v2 / (2 : Int32)) &&& (1 : Int32)) (fun r64 σ65 =>
    Q r64 σ65)) ∧
  (¬ (v2 - v2 / (2 : Int32) * (2 : Int32)) = (0 : Int32) → kw_L_restore σ ((v2 / (2 : Int32)) &&& (1 : Int32)) (fun r62 σ63 =>
    Q r62 σ63)))))))))))))))))))
set_option maxHeartbeats 4000000 in
set_option maxRecDepth 100000 in
theorem km_L_act (l : Launch) (hl0 : l.stackTraces = false) {G : ka_G} (hI : ka_I G) {σ : ka_S} {v1 : Int32} {v2 : Int32} {Q : Int64 → ka_S → Prop} (hq : kw_L_act σ v1 v2 Q) : kd_l l yL_act (kw_ yL_act cL_act 5 (some .long)) rm_L_act 4 24 G [.ref (ka_a G (22, 0, 0)), .int v1, .int v2] σ Q := by
  refine kj_of "GlossRowsLaw" rfl (by decide) (Nat.le_of_ble_eq_true rfl) ?_
  intro p e s m below meth c C0 hK hT hN H locs hP hS ls hl
  obtain ⟨hx, hb, -, hml, hown, hts, -⟩ := id C0
  have hl : lv_has ls 5 [(0, .ref (ka_a G (22, 0, 0))), (1, .int v1), (2, .int v2)] := hl
  unfold kw_L_act at hq
  refine lv_iload_n hx hb dL_act_0 rfl (lv_at hl 2 rfl) ?_
  refine lv_bipush (v := 12) hx hb dL_act_1 (by decide) ?_
  refine lv_irem hx hb dL_act_3 (by decide) ?_
  refine lv_topi (fun x1 ex1 => ?_)
  have hq := hq x1 ex1
  refine lv_istore_n (lv' := [(3, .int x1), (0, .ref (ka_a G (22, 0, 0))), (1, .int v1), (2, .int v2)]) hx hb dL_act_4 rfl hl (by decide) rfl (fun ls hl => ?_)
  refine lv_iload_n hx hb dL_act_5 rfl (lv_at hl 3 rfl) ?_
  refine lv_bipush (v := 12) hx hb dL_act_6 (by decide) ?_
  refine lv_idiv hx hb dL_act_8 (by decide) ?_
  refine lv_iconst (v := 3) hx hb dL_act_9 (by decide) ?_
  refine lv_irem hx hb dL_act_10 (by decide) ?_
  refine lv_topi (fun x2 ex2 => ?_)
  have hq := hq x2 ex2
  refine lv_istore (lv' := [(4, .int x2), (3, .int x1), (0, .ref (ka_a G (22, 0, 0))), (1, .int v1), (2, .int v2)]) hx hb dL_act_11 hl (by decide) rfl (fun ls hl => ?_)
  refine lv_iload_n hx hb dL_act_13 rfl (lv_at hl 3 rfl) ?_
  refine lv_bipush (v := 18) hx hb dL_act_14 (by decide) ?_
  refine lv_irem hx hb dL_act_16 (by decide) ?_
  refine lv_topi (fun x3 ex3 => ?_)
  have hq := hq x3 ex3
  by_cases hsw0 : x3 = (0 : Int32)
  · have hq := hq.1 hsw0
    refine lv_tableIn (off := 83) (tgt := 100) hx hb dL_act_17 (by rw [hsw0]; decide) (by rw [hsw0]; decide) (by rw [hsw0]; decide) (by decide) ?_
    refine lv_aload_n hx hb dL_act_100 rfl (lv_at hl 2 rfl) ?_
    refine lv_iload_n hx hb dL_act_101 rfl (lv_at hl 3 rfl) ?_
    refine lv_iload_n hx hb dL_act_102 rfl (lv_at hl 4 rfl) ?_
    refine kj_Si (As := [.ref (ka_a G (22, 0, 0)), .int v1, .int v2]) (rest := []) C0 hK hT hN hP hS (fun _ h => h) hl (km_L_tells l hl0 hI hq) kd_L_tells kq_982 ⟨rfl, rfl, Nat.le_of_ble_eq_true rfl, Nat.le_of_ble_eq_true rfl⟩ rfl (Nat.le_of_ble_eq_true rfl) dL_act_103 ⟨by show _ ≤ 4; omega, by show _ ≤ 24; omega⟩ (fun r4 σ5 H locs hq hP hkp hS => ?_)
    refine lv_if_eq (tgt := 117) hx hb dL_act_106 (by decide) (fun hc => ?_) (fun hc => ?_)
    · have hq := hq.1 hc
      refine lv_ldc2 hx hb hown (hts _ kq_992) dL_act_117 ?_
      exact kl_lret C0 hK hP hS hq dL_act_120 ⟨by omega, by omega⟩
    · have hq := hq.2 hc
      refine lv_aload_n hx hb dL_act_109 rfl (lv_at hl 2 rfl) ?_
      refine lv_iload_n hx hb dL_act_110 rfl (lv_at hl 1 rfl) ?_
      refine kj_Wl (As := [.ref (ka_a G (22, 0, 0)), .int x1]) (rest := []) C0 hK hT hN hP hS (fun _ h => h) hl (km_L_insert l hl0 hI hq) kd_L_insert kq_853 ⟨rfl, rfl, Nat.le_of_ble_eq_true rfl, Nat.le_of_ble_eq_true rfl⟩ rfl (Nat.le_of_ble_eq_true rfl) dL_act_111 ⟨by show _ ≤ 4; omega, by show _ ≤ 24; omega⟩ (fun r6 σ7 H locs hq hP hkp hS => ?_)
      refine lv_goto (tgt := 120) hx hb dL_act_114 (by decide) ?_
      exact kl_lret C0 hK hP hS hq dL_act_120 ⟨by omega, by omega⟩
  · have hq := hq.2 hsw0
    by_cases hsw1 : x3 = (1 : Int32)
    · have hq := hq.1 hsw1
      refine lv_tableIn (off := 83) (tgt := 100) hx hb dL_act_17 (by rw [hsw1]; decide) (by rw [hsw1]; decide) (by rw [hsw1]; decide) (by decide) ?_
      refine lv_aload_n hx hb dL_act_100 rfl (lv_at hl 2 rfl) ?_
      refine lv_iload_n hx hb dL_act_101 rfl (lv_at hl 3 rfl) ?_
      refine lv_iload_n hx hb dL_act_102 rfl (lv_at hl 4 rfl) ?_
      refine kj_Si (As := [.ref (ka_a G (22, 0, 0)), .int v1, .int v2]) (rest := []) C0 hK hT hN hP hS (fun _ h => h) hl (km_L_tells l hl0 hI hq) kd_L_tells kq_982 ⟨rfl, rfl, Nat.le_of_ble_eq_true rfl, Nat.le_of_ble_eq_true rfl⟩ rfl (Nat.le_of_ble_eq_true rfl) dL_act_103 ⟨by show _ ≤ 4; omega, by show _ ≤ 24; omega⟩ (fun r8 σ9 H locs hq hP hkp hS => ?_)
      refine lv_if_eq (tgt := 117) hx hb dL_act_106 (by decide) (fun hc => ?_) (fun hc => ?_)
      · have hq := hq.1 hc
        refine lv_ldc2 hx hb hown (hts _ kq_992) dL_act_117 ?_
        exact kl_lret C0 hK hP hS hq dL_act_120 ⟨by omega, by omega⟩
      · have hq := hq.2 hc
        refine lv_aload_n hx hb dL_act_109 rfl (lv_at hl 2 rfl) ?_
        refine lv_iload_n hx hb dL_act_110 rfl (lv_at hl 1 rfl) ?_
        refine kj_Wl (As := [.ref (ka_a G (22, 0, 0)), .int x1]) (rest := []) C0 hK hT hN hP hS (fun _ h => h) hl (km_L_insert l hl0 hI hq) kd_L_insert kq_853 ⟨rfl, rfl, Nat.le_of_ble_eq_true rfl, Nat.le_of_ble_eq_true rfl⟩ rfl (Nat.le_of_ble_eq_true rfl) dL_act_111 ⟨by show _ ≤ 4; omega, by show _ ≤ 24; omega⟩ (fun r10 σ11 H locs hq hP hkp hS => ?_)
        refine lv_goto (tgt := 120) hx hb dL_act_114 (by decide) ?_
        exact kl_lret C0 hK hP hS hq dL_act_120 ⟨by omega, by omega⟩
    · have hq := hq.2 hsw1
      by_cases hsw2 : x3 = (2 : Int32)
      · have hq := hq.1 hsw2
        refine lv_tableIn (off := 83) (tgt := 100) hx hb dL_act_17 (by rw [hsw2]; decide) (by rw [hsw2]; decide) (by rw [hsw2]; decide) (by decide) ?_
        refine lv_aload_n hx hb dL_act_100 rfl (lv_at hl 2 rfl) ?_
        refine lv_iload_n hx hb dL_act_101 rfl (lv_at hl 3 rfl) ?_
        refine lv_iload_n hx hb dL_act_102 rfl (lv_at hl 4 rfl) ?_
        refine kj_Si (As := [.ref (ka_a G (22, 0, 0)), .int v1, .int v2]) (rest := []) C0 hK hT hN hP hS (fun _ h => h) hl (km_L_tells l hl0 hI hq) kd_L_tells kq_982 ⟨rfl, rfl, Nat.le_of_ble_eq_true rfl, Nat.le_of_ble_eq_true rfl⟩ rfl (Nat.le_of_ble_eq_true rfl) dL_act_103 ⟨by show _ ≤ 4; omega, by show _ ≤ 24; omega⟩ (fun r12 σ13 H locs hq hP hkp hS => ?_)
        refine lv_if_eq (tgt := 117) hx hb dL_act_106 (by decide) (fun hc => ?_) (fun hc => ?_)
        · have hq := hq.1 hc
          refine lv_ldc2 hx hb hown (hts _ kq_992) dL_act_117 ?_
          exact kl_lret C0 hK hP hS hq dL_act_120 ⟨by omega, by omega⟩
        · have hq := hq.2 hc
          refine lv_aload_n hx hb dL_act_109 rfl (lv_at hl 2 rfl) ?_
          refine lv_iload_n hx hb dL_act_110 rfl (lv_at hl 1 rfl) ?_
          refine kj_Wl (As := [.ref (ka_a G (22, 0, 0)), .int x1]) (rest := []) C0 hK hT hN hP hS (fun _ h => h) hl (km_L_insert l hl0 hI hq) kd_L_insert kq_853 ⟨rfl, rfl, Nat.le_of_ble_eq_true rfl, Nat.le_of_ble_eq_true rfl⟩ rfl (Nat.le_of_ble_eq_true rfl) dL_act_111 ⟨by show _ ≤ 4; omega, by show _ ≤ 24; omega⟩ (fun r14 σ15 H locs hq hP hkp hS => ?_)
          refine lv_goto (tgt := 120) hx hb dL_act_114 (by decide) ?_
          exact kl_lret C0 hK hP hS hq dL_act_120 ⟨by omega, by omega⟩
      · have hq := hq.2 hsw2
        by_cases hsw3 : x3 = (3 : Int32)
        · have hq := hq.1 hsw3
          refine lv_tableIn (off := 104) (tgt := 121) hx hb dL_act_17 (by rw [hsw3]; decide) (by rw [hsw3]; decide) (by rw [hsw3]; decide) (by decide) ?_
          refine lv_aload_n hx hb dL_act_121 rfl (lv_at hl 2 rfl) ?_
          refine lv_iload_n hx hb dL_act_122 rfl (lv_at hl 1 rfl) ?_
          refine kj_Wl (As := [.ref (ka_a G (22, 0, 0)), .int x1]) (rest := []) C0 hK hT hN hP hS (fun _ h => h) hl (km_L_remove l hl0 hI hq) kd_L_remove kq_867 ⟨rfl, rfl, Nat.le_of_ble_eq_true rfl, Nat.le_of_ble_eq_true rfl⟩ rfl (Nat.le_of_ble_eq_true rfl) dL_act_123 ⟨by show _ ≤ 4; omega, by show _ ≤ 24; omega⟩ (fun r16 σ17 H locs hq hP hkp hS => ?_)
          exact kl_lret C0 hK hP hS hq dL_act_126 ⟨by omega, by omega⟩
        · have hq := hq.2 hsw3
          by_cases hsw4 : x3 = (4 : Int32)
          · have hq := hq.1 hsw4
            refine lv_tableIn (off := 110) (tgt := 127) hx hb dL_act_17 (by rw [hsw4]; decide) (by rw [hsw4]; decide) (by rw [hsw4]; decide) (by decide) ?_
            refine lv_aload_n hx hb dL_act_127 rfl (lv_at hl 2 rfl) ?_
            refine lv_iload_n hx hb dL_act_128 rfl (lv_at hl 1 rfl) ?_
            refine kj_Wl (As := [.ref (ka_a G (22, 0, 0)), .int x1]) (rest := []) C0 hK hT hN hP hS (fun _ h => h) hl (km_L_end l hl0 hI hq) kd_L_end kq_874 ⟨rfl, rfl, Nat.le_of_ble_eq_true rfl, Nat.le_of_ble_eq_true rfl⟩ rfl (Nat.le_of_ble_eq_true rfl) dL_act_129 ⟨by show _ ≤ 4; omega, by show _ ≤ 24; omega⟩ (fun r18 σ19 H locs hq hP hkp hS => ?_)
            exact kl_lret C0 hK hP hS hq dL_act_132 ⟨by omega, by omega⟩
          · have hq := hq.2 hsw4
            by_cases hsw5 : x3 = (5 : Int32)
            · have hq := hq.1 hsw5
              refine lv_tableIn (off := 110) (tgt := 127) hx hb dL_act_17 (by rw [hsw5]; decide) (by rw [hsw5]; decide) (by rw [hsw5]; decide) (by decide) ?_
              refine lv_aload_n hx hb dL_act_127 rfl (lv_at hl 2 rfl) ?_
              refine lv_iload_n hx hb dL_act_128 rfl (lv_at hl 1 rfl) ?_
              refine kj_Wl (As := [.ref (ka_a G (22, 0, 0)), .int x1]) (rest := []) C0 hK hT hN hP hS (fun _ h => h) hl (km_L_end l hl0 hI hq) kd_L_end kq_874 ⟨rfl, rfl, Nat.le_of_ble_eq_true rfl, Nat.le_of_ble_eq_true rfl⟩ rfl (Nat.le_of_ble_eq_true rfl) dL_act_129 ⟨by show _ ≤ 4; omega, by show _ ≤ 24; omega⟩ (fun r20 σ21 H locs hq hP hkp hS => ?_)
              exact kl_lret C0 hK hP hS hq dL_act_132 ⟨by omega, by omega⟩
            · have hq := hq.2 hsw5
              by_cases hsw6 : x3 = (6 : Int32)
              · have hq := hq.1 hsw6
                refine lv_tableIn (off := 116) (tgt := 133) hx hb dL_act_17 (by rw [hsw6]; decide) (by rw [hsw6]; decide) (by rw [hsw6]; decide) (by decide) ?_
                refine lv_aload_n hx hb dL_act_133 rfl (lv_at hl 2 rfl) ?_
                refine lv_iload_n hx hb dL_act_134 rfl (lv_at hl 1 rfl) ?_
                refine kj_Wl (As := [.ref (ka_a G (22, 0, 0)), .int x1]) (rest := []) C0 hK hT hN hP hS (fun _ h => h) hl (km_L_join l hl0 hI hq) kd_L_join kq_881 ⟨rfl, rfl, Nat.le_of_ble_eq_true rfl, Nat.le_of_ble_eq_true rfl⟩ rfl (Nat.le_of_ble_eq_true rfl) dL_act_135 ⟨by show _ ≤ 4; omega, by show _ ≤ 24; omega⟩ (fun r22 σ23 H locs hq hP hkp hS => ?_)
                exact kl_lret C0 hK hP hS hq dL_act_138 ⟨by omega, by omega⟩
              · have hq := hq.2 hsw6
                by_cases hsw7 : x3 = (7 : Int32)
                · have hq := hq.1 hsw7
                  refine lv_tableIn (off := 122) (tgt := 139) hx hb dL_act_17 (by rw [hsw7]; decide) (by rw [hsw7]; decide) (by rw [hsw7]; decide) (by decide) ?_
                  refine lv_aload_n hx hb dL_act_139 rfl (lv_at hl 2 rfl) ?_
                  refine lv_bipush (v := 7) hx hb dL_act_140 (by decide) ?_
                  refine lv_iload_n hx hb dL_act_142 rfl (lv_at hl 3 rfl) ?_
                  refine lv_imul hx hb dL_act_143 ?_
                  refine lv_iload_n hx hb dL_act_144 rfl (lv_at hl 4 rfl) ?_
                  refine kj_Si (As := [.ref (ka_a G (22, 0, 0)), .int ((7 : Int32) * v1), .int v2]) (rest := []) C0 hK hT hN hP hS (fun _ h => h) hl (km_L_tells l hl0 hI hq) kd_L_tells kq_982 ⟨rfl, rfl, Nat.le_of_ble_eq_true rfl, Nat.le_of_ble_eq_true rfl⟩ rfl (Nat.le_of_ble_eq_true rfl) dL_act_145 ⟨by show _ ≤ 4; omega, by show _ ≤ 24; omega⟩ (fun r24 σ25 H locs hq hP hkp hS => ?_)
                  refine lv_if_eq (tgt := 159) hx hb dL_act_148 (by decide) (fun hc => ?_) (fun hc => ?_)
                  · have hq := hq.1 hc
                    refine lv_ldc2 hx hb hown (hts _ kq_992) dL_act_159 ?_
                    exact kl_lret C0 hK hP hS hq dL_act_162 ⟨by omega, by omega⟩
                  · have hq := hq.2 hc
                    refine lv_aload_n hx hb dL_act_151 rfl (lv_at hl 2 rfl) ?_
                    refine lv_iload_n hx hb dL_act_152 rfl (lv_at hl 1 rfl) ?_
                    refine kj_Wl (As := [.ref (ka_a G (22, 0, 0)), .int x1]) (rest := []) C0 hK hT hN hP hS (fun _ h => h) hl (km_L_setFree l hl0 hI hq) kd_L_setFree kq_888 ⟨rfl, rfl, Nat.le_of_ble_eq_true rfl, Nat.le_of_ble_eq_true rfl⟩ rfl (Nat.le_of_ble_eq_true rfl) dL_act_153 ⟨by show _ ≤ 4; omega, by show _ ≤ 24; omega⟩ (fun r26 σ27 H locs hq hP hkp hS => ?_)
                    refine lv_goto (tgt := 162) hx hb dL_act_156 (by decide) ?_
                    exact kl_lret C0 hK hP hS hq dL_act_162 ⟨by omega, by omega⟩
                · have hq := hq.2 hsw7
                  by_cases hsw8 : x3 = (8 : Int32)
                  · have hq := hq.1 hsw8
                    refine lv_tableIn (off := 122) (tgt := 139) hx hb dL_act_17 (by rw [hsw8]; decide) (by rw [hsw8]; decide) (by rw [hsw8]; decide) (by decide) ?_
                    refine lv_aload_n hx hb dL_act_139 rfl (lv_at hl 2 rfl) ?_
                    refine lv_bipush (v := 7) hx hb dL_act_140 (by decide) ?_
                    refine lv_iload_n hx hb dL_act_142 rfl (lv_at hl 3 rfl) ?_
                    refine lv_imul hx hb dL_act_143 ?_
                    refine lv_iload_n hx hb dL_act_144 rfl (lv_at hl 4 rfl) ?_
                    refine kj_Si (As := [.ref (ka_a G (22, 0, 0)), .int ((7 : Int32) * v1), .int v2]) (rest := []) C0 hK hT hN hP hS (fun _ h => h) hl (km_L_tells l hl0 hI hq) kd_L_tells kq_982 ⟨rfl, rfl, Nat.le_of_ble_eq_true rfl, Nat.le_of_ble_eq_true rfl⟩ rfl (Nat.le_of_ble_eq_true rfl) dL_act_145 ⟨by show _ ≤ 4; omega, by show _ ≤ 24; omega⟩ (fun r28 σ29 H locs hq hP hkp hS => ?_)
                    refine lv_if_eq (tgt := 159) hx hb dL_act_148 (by decide) (fun hc => ?_) (fun hc => ?_)
                    · have hq := hq.1 hc
                      refine lv_ldc2 hx hb hown (hts _ kq_992) dL_act_159 ?_
                      exact kl_lret C0 hK hP hS hq dL_act_162 ⟨by omega, by omega⟩
                    · have hq := hq.2 hc
                      refine lv_aload_n hx hb dL_act_151 rfl (lv_at hl 2 rfl) ?_
                      refine lv_iload_n hx hb dL_act_152 rfl (lv_at hl 1 rfl) ?_
                      refine kj_Wl (As := [.ref (ka_a G (22, 0, 0)), .int x1]) (rest := []) C0 hK hT hN hP hS (fun _ h => h) hl (km_L_setFree l hl0 hI hq) kd_L_setFree kq_888 ⟨rfl, rfl, Nat.le_of_ble_eq_true rfl, Nat.le_of_ble_eq_true rfl⟩ rfl (Nat.le_of_ble_eq_true rfl) dL_act_153 ⟨by show _ ≤ 4; omega, by show _ ≤ 24; omega⟩ (fun r30 σ31 H locs hq hP hkp hS => ?_)
                      refine lv_goto (tgt := 162) hx hb dL_act_156 (by decide) ?_
                      exact kl_lret C0 hK hP hS hq dL_act_162 ⟨by omega, by omega⟩
                  · have hq := hq.2 hsw8
                    by_cases hsw9 : x3 = (9 : Int32)
                    · have hq := hq.1 hsw9
                      refine lv_tableIn (off := 146) (tgt := 163) hx hb dL_act_17 (by rw [hsw9]; decide) (by rw [hsw9]; decide) (by rw [hsw9]; decide) (by decide) ?_
                      refine lv_aload_n hx hb dL_act_163 rfl (lv_at hl 2 rfl) ?_
                      refine kj_Vi (k := (22, 0, 0)) (As := []) (rest := []) C0 hK hP hS (fun _ h => h) hl (km_X8_clearText l hI hq) kd_X8_clearText kq_985 (kv_s (by decide) (by decide)) rfl rfl rfl ⟨rfl, rfl, Nat.le_of_ble_eq_true rfl, Nat.le_of_ble_eq_true rfl⟩ rfl (Nat.le_of_ble_eq_true rfl) dL_act_164 ⟨by show _ ≤ 4; omega, by show _ ≤ 24; omega⟩ (fun r32 σ33 H locs hq hP hkp hS => ?_)
                      refine lv_if_lt (tgt := 219) hx hb dL_act_167 (by decide) (fun hc => ?_) (fun hc => ?_)
                      · have hq := hq.1 hc
                        refine lv_ldc2 hx hb hown (hts _ kq_992) dL_act_219 ?_
                        exact kl_lret C0 hK hP hS hq dL_act_222 ⟨by omega, by omega⟩
                      · have hq := hq.2 hc
                        refine lv_iload_n hx hb dL_act_170 rfl (lv_at hl 4 rfl) ?_
                        refine lv_iconst (v := 5) hx hb dL_act_171 (by decide) ?_
                        refine lv_irem hx hb dL_act_172 (by decide) ?_
                        refine lv_if_eq (tgt := 192) hx hb dL_act_173 (by decide) (fun hc => ?_) (fun hc => ?_)
                        · have hq := hq.1 hc
                          refine W.widen (k := 0) (n := 6 * 0) (by omega) (by omega) ?_
                          exact kb_L_act_192 hl0 hI C0 hK hT hN σ33 v2 x1 x2 hq 0 (by omega) H locs hP hS ls (lv_sub hl [2, 4, 1, 0] rfl)
                        · have hq := hq.2 hc
                          refine lv_aload_n hx hb dL_act_176 rfl (lv_at hl 2 rfl) ?_
                          refine lv_bipush (v := 97) hx hb dL_act_177 (by decide) ?_
                          refine lv_iload_n hx hb dL_act_179 rfl (lv_at hl 4 rfl) ?_
                          refine lv_bipush (v := 26) hx hb dL_act_180 (by decide) ?_
                          refine lv_irem hx hb dL_act_182 (by decide) ?_
                          refine lv_iadd hx hb dL_act_183 ?_
                          refine kj_Wl (As := [.ref (ka_a G (22, 0, 0)), .int ((97 : Int32) + (v2 - v2 / (26 : Int32) * (26 : Int32)))]) (rest := []) C0 hK hT hN hP hS (fun _ h => h) hl (km_L_append l hl0 hI hq) kd_L_append kq_840 ⟨rfl, rfl, Nat.le_of_ble_eq_true rfl, Nat.le_of_ble_eq_true rfl⟩ rfl (Nat.le_of_ble_eq_true rfl) dL_act_184 ⟨by show _ ≤ 4; omega, by show _ ≤ 24; omega⟩ (fun r34 σ35 H locs hq hP hkp hS => ?_)
                          refine lv_lconst (v := 0) hx hb dL_act_187 (by decide) ?_
                          refine kr_cle (tgt := 219) C0 dL_act_188 dL_act_189 (by decide) (fun hc => ?_) (fun hc => ?_)
                          · have hq := hq.1 hc
                            refine lv_ldc2 hx hb hown (hts _ kq_992) dL_act_219 ?_
                            exact kl_lret C0 hK hP hS hq dL_act_222 ⟨by omega, by omega⟩
                          · have hq := hq.2 hc
                            refine W.widen (k := 1) (n := 6 * 1) (by omega) (by omega) ?_
                            exact kb_L_act_192 hl0 hI C0 hK hT hN σ35 v2 x1 x2 hq 1 (by omega) H locs hP hS ls (lv_sub hl [2, 4, 1, 0] rfl)
                    · have hq := hq.2 hsw9
                      by_cases hsw10 : x3 = (10 : Int32)
                      · have hq := hq.1 hsw10
                        refine lv_tableIn (off := 146) (tgt := 163) hx hb dL_act_17 (by rw [hsw10]; decide) (by rw [hsw10]; decide) (by rw [hsw10]; decide) (by decide) ?_
                        refine lv_aload_n hx hb dL_act_163 rfl (lv_at hl 2 rfl) ?_
                        refine kj_Vi (k := (22, 0, 0)) (As := []) (rest := []) C0 hK hP hS (fun _ h => h) hl (km_X8_clearText l hI hq) kd_X8_clearText kq_985 (kv_s (by decide) (by decide)) rfl rfl rfl ⟨rfl, rfl, Nat.le_of_ble_eq_true rfl, Nat.le_of_ble_eq_true rfl⟩ rfl (Nat.le_of_ble_eq_true rfl) dL_act_164 ⟨by show _ ≤ 4; omega, by show _ ≤ 24; omega⟩ (fun r36 σ37 H locs hq hP hkp hS => ?_)
                        refine lv_if_lt (tgt := 219) hx hb dL_act_167 (by decide) (fun hc => ?_) (fun hc => ?_)
                        · have hq := hq.1 hc
                          refine lv_ldc2 hx hb hown (hts _ kq_992) dL_act_219 ?_
                          exact kl_lret C0 hK hP hS hq dL_act_222 ⟨by omega, by omega⟩
                        · have hq := hq.2 hc
                          refine lv_iload_n hx hb dL_act_170 rfl (lv_at hl 4 rfl) ?_
                          refine lv_iconst (v := 5) hx hb dL_act_171 (by decide) ?_
                          refine lv_irem hx hb dL_act_172 (by decide) ?_
                          refine lv_if_eq (tgt := 192) hx hb dL_act_173 (by decide) (fun hc => ?_) (fun hc => ?_)
                          · have hq := hq.1 hc
                            refine W.widen (k := 0) (n := 6 * 0) (by omega) (by omega) ?_
                            exact kb_L_act_192 hl0 hI C0 hK hT hN σ37 v2 x1 x2 hq 0 (by omega) H locs hP hS ls (lv_sub hl [2, 4, 1, 0] rfl)
                          · have hq := hq.2 hc
                            refine lv_aload_n hx hb dL_act_176 rfl (lv_at hl 2 rfl) ?_
                            refine lv_bipush (v := 97) hx hb dL_act_177 (by decide) ?_
                            refine lv_iload_n hx hb dL_act_179 rfl (lv_at hl 4 rfl) ?_
                            refine lv_bipush (v := 26) hx hb dL_act_180 (by decide) ?_
                            refine lv_irem hx hb dL_act_182 (by decide) ?_
                            refine lv_iadd hx hb dL_act_183 ?_
                            refine kj_Wl (As := [.ref (ka_a G (22, 0, 0)), .int ((97 : Int32) + (v2 - v2 / (26 : Int32) * (26 : Int32)))]) (rest := []) C0 hK hT hN hP hS (fun _ h => h) hl (km_L_append l hl0 hI hq) kd_L_append kq_840 ⟨rfl, rfl, Nat.le_of_ble_eq_true rfl, Nat.le_of_ble_eq_true rfl⟩ rfl (Nat.le_of_ble_eq_true rfl) dL_act_184 ⟨by show _ ≤ 4; omega, by show _ ≤ 24; omega⟩ (fun r38 σ39 H locs hq hP hkp hS => ?_)
                            refine lv_lconst (v := 0) hx hb dL_act_187 (by decide) ?_
                            refine kr_cle (tgt := 219) C0 dL_act_188 dL_act_189 (by decide) (fun hc => ?_) (fun hc => ?_)
                            · have hq := hq.1 hc
                              refine lv_ldc2 hx hb hown (hts _ kq_992) dL_act_219 ?_
                              exact kl_lret C0 hK hP hS hq dL_act_222 ⟨by omega, by omega⟩
                            · have hq := hq.2 hc
                              refine W.widen (k := 1) (n := 6 * 1) (by omega) (by omega) ?_
                              exact kb_L_act_192 hl0 hI C0 hK hT hN σ39 v2 x1 x2 hq 1 (by omega) H locs hP hS ls (lv_sub hl [2, 4, 1, 0] rfl)
                      · have hq := hq.2 hsw10
                        by_cases hsw11 : x3 = (11 : Int32)
                        · have hq := hq.1 hsw11
                          refine lv_tableIn (off := 206) (tgt := 223) hx hb dL_act_17 (by rw [hsw11]; decide) (by rw [hsw11]; decide) (by rw [hsw11]; decide) (by decide) ?_
                          refine lv_iload_n hx hb dL_act_223 rfl (lv_at hl 4 rfl) ?_
                          refine lv_iconst (v := 3) hx hb dL_act_224 (by decide) ?_
                          refine lv_irem hx hb dL_act_225 (by decide) ?_
                          refine lv_if_ne (tgt := 247) hx hb dL_act_226 (by decide) (fun hc => ?_) (fun hc => ?_)
                          · have hq := hq.2 hc
                            refine lv_iload_n hx hb dL_act_247 rfl (lv_at hl 4 rfl) ?_
                            refine lv_iconst (v := 3) hx hb dL_act_248 (by decide) ?_
                            refine lv_irem hx hb dL_act_249 (by decide) ?_
                            refine lv_iconst (v := 1) hx hb dL_act_250 (by decide) ?_
                            refine lv_icmp_ne (tgt := 270) hx hb dL_act_251 (by decide) (fun hc => ?_) (fun hc => ?_)
                            · have hq := hq.2 hc
                              refine lv_aload_n hx hb dL_act_270 rfl (lv_at hl 2 rfl) ?_
                              refine lv_bipush (v := 11) hx hb dL_act_271 (by decide) ?_
                              refine lv_iload_n hx hb dL_act_273 rfl (lv_at hl 4 rfl) ?_
                              refine lv_iconst (v := 3) hx hb dL_act_274 (by decide) ?_
                              refine lv_idiv hx hb dL_act_275 (by decide) ?_
                              refine lv_iconst (v := 2) hx hb dL_act_276 (by decide) ?_
                              refine lv_irem hx hb dL_act_277 (by decide) ?_
                              refine kj_Wl (As := [.ref (ka_a G (22, 0, 0)), .int (11 : Int32), .int ((v2 / (3 : Int32)) - (v2 / (3 : Int32)) / (2 : Int32) * (2 : Int32))]) (rest := []) C0 hK hT hN hP hS (fun _ h => h) hl (km_L_set l hl0 hI hq) kd_L_set kq_923 ⟨rfl, rfl, Nat.le_of_ble_eq_true rfl, Nat.le_of_ble_eq_true rfl⟩ rfl (Nat.le_of_ble_eq_true rfl) dL_act_278 ⟨by show _ ≤ 4; omega, by show _ ≤ 24; omega⟩ (fun r40 σ41 H locs hq hP hkp hS => ?_)
                              exact kl_lret C0 hK hP hS hq dL_act_281 ⟨by omega, by omega⟩
                            · have hq := hq.1 hc
                              refine lv_aload_n hx hb dL_act_254 rfl (lv_at hl 2 rfl) ?_
                              refine lv_bipush (v := 10) hx hb dL_act_255 (by decide) ?_
                              refine lv_iconst (v := 1) hx hb dL_act_257 (by decide) ?_
                              refine lv_iload_n hx hb dL_act_258 rfl (lv_at hl 4 rfl) ?_
                              refine lv_iconst (v := 3) hx hb dL_act_259 (by decide) ?_
                              refine lv_idiv hx hb dL_act_260 (by decide) ?_
                              refine lv_iconst (v := 3) hx hb dL_act_261 (by decide) ?_
                              refine lv_irem hx hb dL_act_262 (by decide) ?_
                              refine lv_iadd hx hb dL_act_263 ?_
                              refine kj_Wl (As := [.ref (ka_a G (22, 0, 0)), .int (10 : Int32), .int ((1 : Int32) + ((v2 / (3 : Int32)) - (v2 / (3 : Int32)) / (3 : Int32) * (3 : Int32)))]) (rest := []) C0 hK hT hN hP hS (fun _ h => h) hl (km_L_set l hl0 hI hq) kd_L_set kq_923 ⟨rfl, rfl, Nat.le_of_ble_eq_true rfl, Nat.le_of_ble_eq_true rfl⟩ rfl (Nat.le_of_ble_eq_true rfl) dL_act_264 ⟨by show _ ≤ 4; omega, by show _ ≤ 24; omega⟩ (fun r42 σ43 H locs hq hP hkp hS => ?_)
                              refine lv_goto (tgt := 281) hx hb dL_act_267 (by decide) ?_
                              exact kl_lret C0 hK hP hS hq dL_act_281 ⟨by omega, by omega⟩
                          · have hq := hq.1 hc
                            refine lv_aload_n hx hb dL_act_229 rfl (lv_at hl 2 rfl) ?_
                            refine lv_bipush (v := 9) hx hb dL_act_230 (by decide) ?_
                            refine lv_bipush (v := 10) hx hb dL_act_232 (by decide) ?_
                            refine lv_iload_n hx hb dL_act_234 rfl (lv_at hl 4 rfl) ?_
                            refine lv_iconst (v := 3) hx hb dL_act_235 (by decide) ?_
                            refine lv_idiv hx hb dL_act_236 (by decide) ?_
                            refine lv_bipush (v := 30) hx hb dL_act_237 (by decide) ?_
                            refine lv_irem hx hb dL_act_239 (by decide) ?_
                            refine lv_iadd hx hb dL_act_240 ?_
                            refine kj_Wl (As := [.ref (ka_a G (22, 0, 0)), .int (9 : Int32), .int ((10 : Int32) + ((v2 / (3 : Int32)) - (v2 / (3 : Int32)) / (30 : Int32) * (30 : Int32)))]) (rest := []) C0 hK hT hN hP hS (fun _ h => h) hl (km_L_set l hl0 hI hq) kd_L_set kq_923 ⟨rfl, rfl, Nat.le_of_ble_eq_true rfl, Nat.le_of_ble_eq_true rfl⟩ rfl (Nat.le_of_ble_eq_true rfl) dL_act_241 ⟨by show _ ≤ 4; omega, by show _ ≤ 24; omega⟩ (fun r44 σ45 H locs hq hP hkp hS => ?_)
                            refine lv_goto (tgt := 281) hx hb dL_act_244 (by decide) ?_
                            exact kl_lret C0 hK hP hS hq dL_act_281 ⟨by omega, by omega⟩
                        · have hq := hq.2 hsw11
                          by_cases hsw12 : x3 = (12 : Int32)
                          · have hq := hq.1 hsw12
                            refine lv_tableIn (off := 206) (tgt := 223) hx hb dL_act_17 (by rw [hsw12]; decide) (by rw [hsw12]; decide) (by rw [hsw12]; decide) (by decide) ?_
                            refine lv_iload_n hx hb dL_act_223 rfl (lv_at hl 4 rfl) ?_
                            refine lv_iconst (v := 3) hx hb dL_act_224 (by decide) ?_
                            refine lv_irem hx hb dL_act_225 (by decide) ?_
                            refine lv_if_ne (tgt := 247) hx hb dL_act_226 (by decide) (fun hc => ?_) (fun hc => ?_)
                            · have hq := hq.2 hc
                              refine lv_iload_n hx hb dL_act_247 rfl (lv_at hl 4 rfl) ?_
                              refine lv_iconst (v := 3) hx hb dL_act_248 (by decide) ?_
                              refine lv_irem hx hb dL_act_249 (by decide) ?_
                              refine lv_iconst (v := 1) hx hb dL_act_250 (by decide) ?_
                              refine lv_icmp_ne (tgt := 270) hx hb dL_act_251 (by decide) (fun hc => ?_) (fun hc => ?_)
                              · have hq := hq.2 hc
                                refine lv_aload_n hx hb dL_act_270 rfl (lv_at hl 2 rfl) ?_
                                refine lv_bipush (v := 11) hx hb dL_act_271 (by decide) ?_
                                refine lv_iload_n hx hb dL_act_273 rfl (lv_at hl 4 rfl) ?_
                                refine lv_iconst (v := 3) hx hb dL_act_274 (by decide) ?_
                                refine lv_idiv hx hb dL_act_275 (by decide) ?_
                                refine lv_iconst (v := 2) hx hb dL_act_276 (by decide) ?_
                                refine lv_irem hx hb dL_act_277 (by decide) ?_
                                refine kj_Wl (As := [.ref (ka_a G (22, 0, 0)), .int (11 : Int32), .int ((v2 / (3 : Int32)) - (v2 / (3 : Int32)) / (2 : Int32) * (2 : Int32))]) (rest := []) C0 hK hT hN hP hS (fun _ h => h) hl (km_L_set l hl0 hI hq) kd_L_set kq_923 ⟨rfl, rfl, Nat.le_of_ble_eq_true rfl, Nat.le_of_ble_eq_true rfl⟩ rfl (Nat.le_of_ble_eq_true rfl) dL_act_278 ⟨by show _ ≤ 4; omega, by show _ ≤ 24; omega⟩ (fun r46 σ47 H locs hq hP hkp hS => ?_)
                                exact kl_lret C0 hK hP hS hq dL_act_281 ⟨by omega, by omega⟩
                              · have hq := hq.1 hc
                                refine lv_aload_n hx hb dL_act_254 rfl (lv_at hl 2 rfl) ?_
                                refine lv_bipush (v := 10) hx hb dL_act_255 (by decide) ?_
                                refine lv_iconst (v := 1) hx hb dL_act_257 (by decide) ?_
                                refine lv_iload_n hx hb dL_act_258 rfl (lv_at hl 4 rfl) ?_
                                refine lv_iconst (v := 3) hx hb dL_act_259 (by decide) ?_
                                refine lv_idiv hx hb dL_act_260 (by decide) ?_
                                refine lv_iconst (v := 3) hx hb dL_act_261 (by decide) ?_
                                refine lv_irem hx hb dL_act_262 (by decide) ?_
                                refine lv_iadd hx hb dL_act_263 ?_
                                refine kj_Wl (As := [.ref (ka_a G (22, 0, 0)), .int (10 : Int32), .int ((1 : Int32) + ((v2 / (3 : Int32)) - (v2 / (3 : Int32)) / (3 : Int32) * (3 : Int32)))]) (rest := []) C0 hK hT hN hP hS (fun _ h => h) hl (km_L_set l hl0 hI hq) kd_L_set kq_923 ⟨rfl, rfl, Nat.le_of_ble_eq_true rfl, Nat.le_of_ble_eq_true rfl⟩ rfl (Nat.le_of_ble_eq_true rfl) dL_act_264 ⟨by show _ ≤ 4; omega, by show _ ≤ 24; omega⟩ (fun r48 σ49 H locs hq hP hkp hS => ?_)
                                refine lv_goto (tgt := 281) hx hb dL_act_267 (by decide) ?_
                                exact kl_lret C0 hK hP hS hq dL_act_281 ⟨by omega, by omega⟩
                            · have hq := hq.1 hc
                              refine lv_aload_n hx hb dL_act_229 rfl (lv_at hl 2 rfl) ?_
                              refine lv_bipush (v := 9) hx hb dL_act_230 (by decide) ?_
                              refine lv_bipush (v := 10) hx hb dL_act_232 (by decide) ?_
                              refine lv_iload_n hx hb dL_act_234 rfl (lv_at hl 4 rfl) ?_
                              refine lv_iconst (v := 3) hx hb dL_act_235 (by decide) ?_
                              refine lv_idiv hx hb dL_act_236 (by decide) ?_
                              refine lv_bipush (v := 30) hx hb dL_act_237 (by decide) ?_
                              refine lv_irem hx hb dL_act_239 (by decide) ?_
                              refine lv_iadd hx hb dL_act_240 ?_
                              refine kj_Wl (As := [.ref (ka_a G (22, 0, 0)), .int (9 : Int32), .int ((10 : Int32) + ((v2 / (3 : Int32)) - (v2 / (3 : Int32)) / (30 : Int32) * (30 : Int32)))]) (rest := []) C0 hK hT hN hP hS (fun _ h => h) hl (km_L_set l hl0 hI hq) kd_L_set kq_923 ⟨rfl, rfl, Nat.le_of_ble_eq_true rfl, Nat.le_of_ble_eq_true rfl⟩ rfl (Nat.le_of_ble_eq_true rfl) dL_act_241 ⟨by show _ ≤ 4; omega, by show _ ≤ 24; omega⟩ (fun r50 σ51 H locs hq hP hkp hS => ?_)
                              refine lv_goto (tgt := 281) hx hb dL_act_244 (by decide) ?_
                              exact kl_lret C0 hK hP hS hq dL_act_281 ⟨by omega, by omega⟩
                          · have hq := hq.2 hsw12
                            by_cases hsw13 : x3 = (13 : Int32)
                            · have hq := hq.1 hsw13
                              refine lv_tableIn (off := 265) (tgt := 282) hx hb dL_act_17 (by rw [hsw13]; decide) (by rw [hsw13]; decide) (by rw [hsw13]; decide) (by decide) ?_
                              refine lv_aload_n hx hb dL_act_282 rfl (lv_at hl 2 rfl) ?_
                              refine lv_iload_n hx hb dL_act_283 rfl (lv_at hl 1 rfl) ?_
                              refine lv_iload hx hb dL_act_284 (lv_at hl 0 rfl) ?_
                              refine kj_Wl (As := [.ref (ka_a G (22, 0, 0)), .int x1, .int x2]) (rest := []) C0 hK hT hN hP hS (fun _ h => h) hl (km_L_learn l hl0 hI hq) kd_L_learn kq_931 ⟨rfl, rfl, Nat.le_of_ble_eq_true rfl, Nat.le_of_ble_eq_true rfl⟩ rfl (Nat.le_of_ble_eq_true rfl) dL_act_286 ⟨by show _ ≤ 4; omega, by show _ ≤ 24; omega⟩ (fun r52 σ53 H locs hq hP hkp hS => ?_)
                              exact kl_lret C0 hK hP hS hq dL_act_289 ⟨by omega, by omega⟩
                            · have hq := hq.2 hsw13
                              by_cases hsw14 : x3 = (14 : Int32)
                              · have hq := hq.1 hsw14
                                refine lv_tableIn (off := 265) (tgt := 282) hx hb dL_act_17 (by rw [hsw14]; decide) (by rw [hsw14]; decide) (by rw [hsw14]; decide) (by decide) ?_
                                refine lv_aload_n hx hb dL_act_282 rfl (lv_at hl 2 rfl) ?_
                                refine lv_iload_n hx hb dL_act_283 rfl (lv_at hl 1 rfl) ?_
                                refine lv_iload hx hb dL_act_284 (lv_at hl 0 rfl) ?_
                                refine kj_Wl (As := [.ref (ka_a G (22, 0, 0)), .int x1, .int x2]) (rest := []) C0 hK hT hN hP hS (fun _ h => h) hl (km_L_learn l hl0 hI hq) kd_L_learn kq_931 ⟨rfl, rfl, Nat.le_of_ble_eq_true rfl, Nat.le_of_ble_eq_true rfl⟩ rfl (Nat.le_of_ble_eq_true rfl) dL_act_286 ⟨by show _ ≤ 4; omega, by show _ ≤ 24; omega⟩ (fun r54 σ55 H locs hq hP hkp hS => ?_)
                                exact kl_lret C0 hK hP hS hq dL_act_289 ⟨by omega, by omega⟩
                              · have hq := hq.2 hsw14
                                by_cases hsw15 : x3 = (15 : Int32)
                                · have hq := hq.1 hsw15
                                  refine lv_tableIn (off := 273) (tgt := 290) hx hb dL_act_17 (by rw [hsw15]; decide) (by rw [hsw15]; decide) (by rw [hsw15]; decide) (by decide) ?_
                                  refine lv_iload_n hx hb dL_act_290 rfl (lv_at hl 4 rfl) ?_
                                  refine lv_iconst (v := 3) hx hb dL_act_291 (by decide) ?_
                                  refine lv_irem hx hb dL_act_292 (by decide) ?_
                                  refine lv_if_ne (tgt := 308) hx hb dL_act_293 (by decide) (fun hc => ?_) (fun hc => ?_)
                                  · have hq := hq.2 hc
                                    refine lv_aload_n hx hb dL_act_308 rfl (lv_at hl 2 rfl) ?_
                                    refine kj_Vi (k := (22, 0, 0)) (As := []) (rest := []) C0 hK hP hS (fun _ h => h) hl (km_X8_fillGaps l hI hq) kd_X8_fillGaps kq_978 (kv_s (by decide) (by decide)) rfl rfl rfl ⟨rfl, rfl, Nat.le_of_ble_eq_true rfl, Nat.le_of_ble_eq_true rfl⟩ rfl (Nat.le_of_ble_eq_true rfl) dL_act_309 ⟨by show _ ≤ 4; omega, by show _ ≤ 24; omega⟩ (fun r56 σ57 H locs hq hP hkp hS => ?_)
                                    refine lv_i2l hx hb dL_act_312 rfl ?_
                                    exact kl_lret C0 hK hP hS hq dL_act_313 ⟨by omega, by omega⟩
                                  · have hq := hq.1 hc
                                    refine lv_aload_n hx hb dL_act_296 rfl (lv_at hl 2 rfl) ?_
                                    refine lv_iload_n hx hb dL_act_297 rfl (lv_at hl 4 rfl) ?_
                                    refine lv_iconst (v := 3) hx hb dL_act_298 (by decide) ?_
                                    refine lv_idiv hx hb dL_act_299 (by decide) ?_
                                    refine lv_iconst (v := 4) hx hb dL_act_300 (by decide) ?_
                                    refine lv_irem hx hb dL_act_301 (by decide) ?_
                                    refine kj_Wl (As := [.ref (ka_a G (22, 0, 0)), .int ((v2 / (3 : Int32)) - (v2 / (3 : Int32)) / (4 : Int32) * (4 : Int32))]) (rest := []) C0 hK hT hN hP hS (fun _ h => h) hl (km_L_forget l hl0 hI hq) kd_L_forget kq_939 ⟨rfl, rfl, Nat.le_of_ble_eq_true rfl, Nat.le_of_ble_eq_true rfl⟩ rfl (Nat.le_of_ble_eq_true rfl) dL_act_302 ⟨by show _ ≤ 4; omega, by show _ ≤ 24; omega⟩ (fun r58 σ59 H locs hq hP hkp hS => ?_)
                                    refine lv_goto (tgt := 313) hx hb dL_act_305 (by decide) ?_
                                    exact kl_lret C0 hK hP hS hq dL_act_313 ⟨by omega, by omega⟩
                                · have hq := hq.2 hsw15
                                  by_cases hsw16 : x3 = (16 : Int32)
                                  · have hq := hq.1 hsw16
                                    refine lv_tableIn (off := 297) (tgt := 314) hx hb dL_act_17 (by rw [hsw16]; decide) (by rw [hsw16]; decide) (by rw [hsw16]; decide) (by decide) ?_
                                    refine lv_aload_n hx hb dL_act_314 rfl (lv_at hl 2 rfl) ?_
                                    refine kj_Wl (As := [.ref (ka_a G (22, 0, 0))]) (rest := []) C0 hK hT hN hP hS (fun _ h => h) hl (km_L_undo l hl0 hI hq) kd_L_undo kq_966 ⟨rfl, rfl, Nat.le_of_ble_eq_true rfl, Nat.le_of_ble_eq_true rfl⟩ rfl (Nat.le_of_ble_eq_true rfl) dL_act_315 ⟨by show _ ≤ 4; omega, by show _ ≤ 24; omega⟩ (fun r60 σ61 H locs hq hP hkp hS => ?_)
                                    exact kl_lret C0 hK hP hS hq dL_act_318 ⟨by omega, by omega⟩
                                  · have hq := hq.2 hsw16
                                    refine lv_tableOut (tgt := 319) hx hb dL_act_17 (kt_0_16 (x := x3) hsw0 hsw1 hsw2 hsw3 hsw4 hsw5 hsw6 hsw7 hsw8 hsw9 hsw10 hsw11 hsw12 hsw13 hsw14 hsw15 hsw16) (by decide) ?_
                                    refine lv_iload_n hx hb dL_act_319 rfl (lv_at hl 4 rfl) ?_
                                    refine lv_iconst (v := 2) hx hb dL_act_320 (by decide) ?_
                                    refine lv_irem hx hb dL_act_321 (by decide) ?_
                                    refine lv_if_ne (tgt := 337) hx hb dL_act_322 (by decide) (fun hc => ?_) (fun hc => ?_)
                                    · have hq := hq.2 hc
                                      refine lv_aload_n hx hb dL_act_337 rfl (lv_at hl 2 rfl) ?_
                                      refine lv_iload_n hx hb dL_act_338 rfl (lv_at hl 4 rfl) ?_
                                      refine lv_iconst (v := 2) hx hb dL_act_339 (by decide) ?_
                                      refine lv_idiv hx hb dL_act_340 (by decide) ?_
                                      refine lv_iconst (v := 1) hx hb dL_act_341 (by decide) ?_
                                      refine lv_iand hx hb dL_act_342 ?_
                                      refine kj_Wl (As := [.ref (ka_a G (22, 0, 0)), .int ((v2 / (2 : Int32)) &&& (1 : Int32))]) (rest := []) C0 hK hT hN hP hS (fun _ h => h) hl (km_L_restore l hl0 hI hq) kd_L_restore kq_462 ⟨rfl, rfl, Nat.le_of_ble_eq_true rfl, Nat.le_of_ble_eq_true rfl⟩ rfl (Nat.le_of_ble_eq_true rfl) dL_act_343 ⟨by show _ ≤ 4; omega, by show _ ≤ 24; omega⟩ (fun r62 σ63 H locs hq hP hkp hS => ?_)
                                      exact kl_lret C0 hK hP hS hq dL_act_346 ⟨by omega, by omega⟩
                                    · have hq := hq.1 hc
                                      refine lv_aload_n hx hb dL_act_325 rfl (lv_at hl 2 rfl) ?_
                                      refine lv_iload_n hx hb dL_act_326 rfl (lv_at hl 4 rfl) ?_
                                      refine lv_iconst (v := 2) hx hb dL_act_327 (by decide) ?_
                                      refine lv_idiv hx hb dL_act_328 (by decide) ?_
                                      refine lv_iconst (v := 1) hx hb dL_act_329 (by decide) ?_
                                      refine lv_iand hx hb dL_act_330 ?_
                                      refine kj_Wl (As := [.ref (ka_a G (22, 0, 0)), .int ((v2 / (2 : Int32)) &&& (1 : Int32))]) (rest := []) C0 hK hT hN hP hS (fun _ h => h) hl (km_L_save l hl0 hI hq) kd_L_save kq_425 ⟨rfl, rfl, Nat.le_of_ble_eq_true rfl, Nat.le_of_ble_eq_true rfl⟩ rfl (Nat.le_of_ble_eq_true rfl) dL_act_331 ⟨by show _ ≤ 4; omega, by show _ ≤ 24; omega⟩ (fun r64 σ65 H locs hq hP hkp hS => ?_)
                                      refine lv_goto (tgt := 346) hx hb dL_act_334 (by decide) ?_
                                      exact kl_lret C0 hK hP hS hq dL_act_346 ⟨by omega, by omega⟩
