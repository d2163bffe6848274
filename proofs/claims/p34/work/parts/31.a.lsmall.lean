def rm_L_in : Room := { frames := 0, cells := 0, slots := 0, locals := 0 }
def kw_L_in (σ : ka_S) (v0 : Int64) (v2 : Int64) (v4 : Int64) (Q : Int32 → ka_S → Prop) : Prop := (v0 < v2 → Q (0 : Int32) σ) ∧
  (¬ v0 < v2 → (v4 < v0 → Q (0 : Int32) σ) ∧
    (¬ v4 < v0 → Q (1 : Int32) σ))
set_option maxHeartbeats 4000000 in
set_option maxRecDepth 100000 in
theorem km_L_in (l : Launch) {G : ka_G} (hI : ka_I G) {σ : ka_S} {v0 : Int64} {v2 : Int64} {v4 : Int64} {Q : Int32 → ka_S → Prop} (hq : kw_L_in σ v0 v2 v4 Q) : kc_i l yL_in (kw_ yL_in cL_in 6 (some .boolean)) rm_L_in G [.long v0, .long v2, .long v4] σ Q := by
  refine ka_of "GlossRowsLaw" rfl (by decide) (Nat.le_of_ble_eq_true rfl) ?_
  intro p e s m below meth c C0 hK H locs hP hS ls hl
  obtain ⟨hx, hb, -, hml, hown, hts, -⟩ := id C0
  have hl : lv_has ls 6 [(0, .long v0), (2, .long v2), (4, .long v4)] := hl
  unfold kw_L_in at hq
  refine lv_lload_n hx hb dL_in_0 rfl (lv_at hl 0 rfl) ?_
  refine lv_lload_n hx hb dL_in_1 rfl (lv_at hl 1 rfl) ?_
  refine kr_clt (tgt := 17) C0 dL_in_2 dL_in_3 (by decide) (fun hc => ?_) (fun hc => ?_)
  · have hq := hq.1 hc
    refine lv_iconst (v := 0) hx hb dL_in_17 (by decide) ?_
    exact kr_zret C0 hK hP hS rfl hq dL_in_18
  · have hq := hq.2 hc
    refine lv_lload_n hx hb dL_in_6 rfl (lv_at hl 0 rfl) ?_
    refine lv_lload hx hb dL_in_7 (lv_at hl 2 rfl) ?_
    refine kr_cgt (tgt := 17) C0 dL_in_9 dL_in_10 (by decide) (fun hc => ?_) (fun hc => ?_)
    · have hq := hq.1 hc
      refine lv_iconst (v := 0) hx hb dL_in_17 (by decide) ?_
      exact kr_zret C0 hK hP hS rfl hq dL_in_18
    · have hq := hq.2 hc
      refine lv_iconst (v := 1) hx hb dL_in_13 (by decide) ?_
      refine lv_goto (tgt := 18) hx hb dL_in_14 (by decide) ?_
      exact kr_zret C0 hK hP hS rfl hq dL_in_18
/-! law: words(LGlossRows;)I -/
def rm_L_words : Room := { frames := 8, cells := 0, slots := 0, locals := 179 }
def kw_L_words (σ : ka_S) (Q : Int32 → ka_S → Prop) : Prop := kw0_L_about σ (0 : Int32) (fun r1 σ2 =>
  Q r1.toInt32 σ2)
set_option maxHeartbeats 4000000 in
set_option maxRecDepth 100000 in
theorem km_L_words (l : Launch) (hl0 : l.stackTraces = false) {G : ka_G} (hI : ka_I G) {σ : ka_S} {Q : Int32 → ka_S → Prop} (hq : kw_L_words σ Q) : kd_i l yL_words (kw_ yL_words cL_words 1 (some .int)) rm_L_words 0 0 G [.ref (ka_a G (22, 0, 0))] σ Q := by
  refine kj_of "GlossRowsLaw" rfl (by decide) (Nat.le_of_ble_eq_true rfl) ?_
  intro p e s m below meth c C0 hK hT hN H locs hP hS ls hl
  obtain ⟨hx, hb, -, hml, hown, hts, -⟩ := id C0
  have hl : lv_has ls 1 [(0, .ref (ka_a G (22, 0, 0)))] := hl
  unfold kw_L_words at hq
  refine lv_aload_n hx hb dL_words_0 rfl (lv_at hl 0 rfl) ?_
  refine lv_iconst (v := 0) hx hb dL_words_1 (by decide) ?_
  refine kj_Wl (As := [.ref (ka_a G (22, 0, 0)), .int (0 : Int32)]) (rest := []) C0 hK hT hN hP hS (fun _ h => h) hl (km0_L_about l hl0 hI hq) kd_L_about kq_478 ⟨rfl, rfl, Nat.le_of_ble_eq_true rfl, Nat.le_of_ble_eq_true rfl⟩ rfl (Nat.le_of_ble_eq_true rfl) dL_words_2 ⟨by show _ ≤ 0; omega, by show _ ≤ 0; omega⟩ (fun r1 σ2 H locs hq hP hkp hS => ?_)
  refine lv_l2i hx hb dL_words_5 rfl ?_
  exact kl_iret C0 hK hP hS hq dL_words_6 ⟨by omega, by omega⟩
/-! law: now(LGlossRows;)J -/
def rm_L_now : Room := { frames := 9, cells := 0, slots := 0, locals := 199 }
def kw_L_now_97 (K36 : ka_S → Int64 → Int32 → Prop) (K81 : ka_S → Int64 → Int32 → Int32 → Prop) (Q : Int64 → ka_S → Prop) : Nat → ka_S → Int64 → Int32 → Int32 → Int32 → Prop
  | 0, _, _, _, _, _ => False
  | n + 1, σ, v1, v3, v4, v5 => ((8 : Int32) ≤ v5 → kw0_L_part σ v3 v4 (2 : Int32) (fun r30 σ31 =>
      ∀ x32 : Int64, x32 = (((((1009 : Int64) * v1) + r30) + (20 : Int64)) - ((((1009 : Int64) * v1) + r30) + (20 : Int64)) / (1000000007 : Int64) * (1000000007 : Int64)) → 
      ∀ x33 : Int32, x33 = v4 + (1 : Int32) →
      K81 σ31 x32 v3 x33)) ∧
    (¬ (8 : Int32) ≤ v5 → kw0_L_letter σ v3 v4 (0 : Int32) v5 (fun r34 σ35 =>
      kw0_L_letter σ35 v3 v4 (1 : Int32) v5 (fun r36 σ37 =>
      ∀ x38 : Int64, x38 = ((((((1009 : Int64) * v1) + r34) + ((200 : Int64) * r36)) + (2000 : Int64)) - (((((1009 : Int64) * v1) + r34) + ((200 : Int64) * r36)) + (2000 : Int64)) / (1000000007 : Int64) * (1000000007 : Int64)) → 
      ∀ x39 : Int32, x39 = v5 + (1 : Int32) →
      (kw_L_now_97 K36 K81 Q n) σ37 x38 v3 v4 x39)))
set_option maxHeartbeats 4000000 in
set_option maxRecDepth 100000 in
theorem kb_L_now_97 {p : Program} {l : Launch} {e : Env} {s : State} {m : MethodId} {below : List Frame} {meth : Method} {c : Code} {G : ka_G} {args : Array Value} (hl0 : l.stackTraces = false) (hI : ka_I G) (C0 : ka_C p s m args meth c cL_now 6 "GlossRowsLaw" (some .long)) (hK : ka_Kn G s) (hT : ka_T9 (ka_A G) s) (hN : kl_Nc s) {Q : Int64 → ka_S → Prop} {K36 : ka_S → Int64 → Int32 → Prop} {R36 : Nat} {K81 : ka_S → Int64 → Int32 → Int32 → Prop} {R81 : Nat} (hk36 : ∀ (σ : ka_S) (v1 : Int64) (v3 : Int32), K36 σ v1 v3 → ∀ (cl : Nat), cl + R36 ≤ 0 → ∀ (H : Heap) (locs : List Loc), ka_P G σ H → va_S (ka_A G) s.heap H locs → ∀ ls : Array Slot, lv_has ls 6 [(0, .ref (ka_a G (22, 0, 0))), (1, .long v1), (3, .int v3)] → W p l e rm_L_now s m args below meth c H locs cl (6 * cl) (MQ below (va_Ql Q (ka_B G) (ka_A G)) args s 0 0 (ka_A G)) (F0 m 36 ls [])) (hk81 : ∀ (σ : ka_S) (v1 : Int64) (v3 : Int32) (v4 : Int32), K81 σ v1 v3 v4 → ∀ (cl : Nat), cl + R81 ≤ 0 → ∀ (H : Heap) (locs : List Loc), ka_P G σ H → va_S (ka_A G) s.heap H locs → ∀ ls : Array Slot, lv_has ls 6 [(0, .ref (ka_a G (22, 0, 0))), (1, .long v1), (3, .int v3), (4, .int v4)] → W p l e rm_L_now s m args below meth c H locs cl (6 * cl) (MQ below (va_Ql Q (ka_B G) (ka_A G)) args s 0 0 (ka_A G)) (F0 m 81 ls [])) : ∀ (n : Nat) (σ : ka_S) (v1 : Int64) (v3 : Int32) (v4 : Int32) (v5 : Int32), kw_L_now_97 K36 K81 Q n σ v1 v3 v4 v5 → ∀ (cl : Nat), cl + 0 + R81 ≤ 0 → ∀ (H : Heap) (locs : List Loc), ka_P G σ H → va_S (ka_A G) s.heap H locs → ∀ ls : Array Slot, lv_has ls 6 [(0, .ref (ka_a G (22, 0, 0))), (1, .long v1), (3, .int v3), (4, .int v4), (5, .int v5)] → W p l e rm_L_now s m args below meth c H locs cl (6 * cl) (MQ below (va_Ql Q (ka_B G) (ka_A G)) args s 0 0 (ka_A G)) (F0 m 97 ls []) := by
  obtain ⟨hx, hb, -, hml, hown, hts, -⟩ := id C0
  intro n
  induction n with
  | zero =>
    intro σ v1 v3 v4 v5 hq
    rw [kw_L_now_97] at hq
    exact hq.elim
  | succ n ih =>
    have ih9 : ∀ (σ : ka_S) (v1 : Int64) (v3 : Int32) (v4 : Int32) (v5 : Int32), kw_L_now_97 K36 K81 Q n σ v1 v3 v4 v5 → ∀ (cl : Nat), cl + (0 + R81) ≤ 0 → ∀ (H : Heap) (locs : List Loc), ka_P G σ H → va_S (ka_A G) s.heap H locs → ∀ ls : Array Slot, lv_has ls 6 [(0, .ref (ka_a G (22, 0, 0))), (1, .long v1), (3, .int v3), (4, .int v4), (5, .int v5)] → W p l e rm_L_now s m args below meth c H locs cl (6 * cl) (MQ below (va_Ql Q (ka_B G) (ka_A G)) args s 0 0 (ka_A G)) (F0 m 97 ls []) := fun σ v1 v3 v4 v5 hq cl h9 => ih σ v1 v3 v4 v5 hq cl (by omega)
    intro σ v1 v3 v4 v5 hq cl hcl H locs hP hS ls hl
    rw [kw_L_now_97] at hq
    refine lv_iload hx hb dL_now_97 (lv_at hl 4 rfl) ?_
    refine lv_bipush (v := 8) hx hb dL_now_99 (by decide) ?_
    refine lv_icmp_ge (tgt := 150) hx hb dL_now_101 (by decide) (fun hc => ?_) (fun hc => ?_)
    · have hq := hq.1 hc
      refine lv_ldc2 hx hb hown (hts _ kq_477) dL_now_150 ?_
      refine lv_lload_n hx hb dL_now_153 rfl (lv_at hl 1 rfl) ?_
      refine lv_lmul hx hb dL_now_154 ?_
      refine lv_aload_n hx hb dL_now_155 rfl (lv_at hl 0 rfl) ?_
      refine lv_iload_n hx hb dL_now_156 rfl (lv_at hl 2 rfl) ?_
      refine lv_iload hx hb dL_now_157 (lv_at hl 3 rfl) ?_
      refine lv_iconst (v := 2) hx hb dL_now_159 (by decide) ?_
      refine kj_Wl (As := [.ref (ka_a G (22, 0, 0)), .int v3, .int v4, .int (2 : Int32)]) (rest := [.long ((1009 : Int64) * v1)]) C0 hK hT hN hP hS (fun _ h => h) hl (km0_L_part l hl0 hI hq) kd_L_part kq_609 ⟨rfl, rfl, Nat.le_of_ble_eq_true rfl, Nat.le_of_ble_eq_true rfl⟩ rfl (Nat.le_of_ble_eq_true rfl) dL_now_160 ⟨by show _ ≤ 0; omega, by show _ ≤ 0; omega⟩ (fun r30 σ31 H locs hq hP hkp hS => ?_)
      refine lv_ladd hx hb dL_now_163 ?_
      refine lv_ldc2 hx hb hown (hts _ kq_619) dL_now_164 ?_
      refine lv_ladd hx hb dL_now_167 ?_
      refine lv_ldc2 hx hb hown (hts _ kq_559) dL_now_168 ?_
      refine lv_lrem hx hb dL_now_171 (by decide) ?_
      refine lv_topl (fun x32 ex32 => ?_)
      have hq := hq x32 ex32
      refine lv_lstore_n (lv' := [(1, .long x32), (0, .ref (ka_a G (22, 0, 0))), (3, .int v3), (4, .int v4), (5, .int v5)]) hx hb dL_now_172 rfl hl (by decide) rfl (fun ls hl => ?_)
      obtain ⟨x33, ex33⟩ : ∃ y : Int32, y = v4 + (1 : Int32) := ⟨_, rfl⟩
      have hq := hq x33 ex33
      refine lv_iinc (v := x33) (lv' := [(4, .int x33), (1, .long x32), (0, .ref (ka_a G (22, 0, 0))), (3, .int v3), (5, .int v5)]) hx hb dL_now_173 hl (k := 3) rfl (by rw [ex33]; rfl) (by decide) rfl (fun ls hl => ?_)
      refine lv_goto (tgt := 81) hx hb dL_now_176 (by decide) ?_
      refine W.widen (k := (cl + 0)) (n := 6 * (cl + 0)) (by omega) (by omega) ?_
      exact hk81 σ31 x32 v3 x33 hq (cl + 0) (by omega) H locs hP hS ls (lv_sub hl [2, 1, 3, 0] rfl)
    · have hq := hq.2 hc
      refine lv_ldc2 hx hb hown (hts _ kq_477) dL_now_104 ?_
      refine lv_lload_n hx hb dL_now_107 rfl (lv_at hl 1 rfl) ?_
      refine lv_lmul hx hb dL_now_108 ?_
      refine lv_aload_n hx hb dL_now_109 rfl (lv_at hl 0 rfl) ?_
      refine lv_iload_n hx hb dL_now_110 rfl (lv_at hl 2 rfl) ?_
      refine lv_iload hx hb dL_now_111 (lv_at hl 3 rfl) ?_
      refine lv_iconst (v := 0) hx hb dL_now_113 (by decide) ?_
      refine lv_iload hx hb dL_now_114 (lv_at hl 4 rfl) ?_
      refine kj_Wl (As := [.ref (ka_a G (22, 0, 0)), .int v3, .int v4, .int (0 : Int32), .int v5]) (rest := [.long ((1009 : Int64) * v1)]) C0 hK hT hN hP hS (fun _ h => h) hl (km0_L_letter l hl0 hI hq) kd_L_letter kq_582 ⟨rfl, rfl, Nat.le_of_ble_eq_true rfl, Nat.le_of_ble_eq_true rfl⟩ rfl (Nat.le_of_ble_eq_true rfl) dL_now_116 ⟨by show _ ≤ 0; omega, by show _ ≤ 0; omega⟩ (fun r34 σ35 H locs hq hP hkp hS => ?_)
      refine lv_ladd hx hb dL_now_119 ?_
      refine lv_ldc2 hx hb hown (hts _ kq_607) dL_now_120 ?_
      refine lv_aload_n hx hb dL_now_123 rfl (lv_at hl 0 rfl) ?_
      refine lv_iload_n hx hb dL_now_124 rfl (lv_at hl 2 rfl) ?_
      refine lv_iload hx hb dL_now_125 (lv_at hl 3 rfl) ?_
      refine lv_iconst (v := 1) hx hb dL_now_127 (by decide) ?_
      refine lv_iload hx hb dL_now_128 (lv_at hl 4 rfl) ?_
      refine kj_Wl (As := [.ref (ka_a G (22, 0, 0)), .int v3, .int v4, .int (1 : Int32), .int v5]) (rest := [.long (200 : Int64), .long (((1009 : Int64) * v1) + r34)]) C0 hK hT hN hP hS (fun _ h => h) hl (km0_L_letter l hl0 hI hq) kd_L_letter kq_582 ⟨rfl, rfl, Nat.le_of_ble_eq_true rfl, Nat.le_of_ble_eq_true rfl⟩ rfl (Nat.le_of_ble_eq_true rfl) dL_now_130 ⟨by show _ ≤ 0; omega, by show _ ≤ 0; omega⟩ (fun r36 σ37 H locs hq hP hkp hS => ?_)
      refine lv_lmul hx hb dL_now_133 ?_
      refine lv_ladd hx hb dL_now_134 ?_
      refine lv_ldc2 hx hb hown (hts _ kq_608) dL_now_135 ?_
      refine lv_ladd hx hb dL_now_138 ?_
      refine lv_ldc2 hx hb hown (hts _ kq_559) dL_now_139 ?_
      refine lv_lrem hx hb dL_now_142 (by decide) ?_
      refine lv_topl (fun x38 ex38 => ?_)
      have hq := hq x38 ex38
      refine lv_lstore_n (lv' := [(1, .long x38), (0, .ref (ka_a G (22, 0, 0))), (3, .int v3), (4, .int v4), (5, .int v5)]) hx hb dL_now_143 rfl hl (by decide) rfl (fun ls hl => ?_)
      obtain ⟨x39, ex39⟩ : ∃ y : Int32, y = v5 + (1 : Int32) := ⟨_, rfl⟩
      have hq := hq x39 ex39
      refine lv_iinc (v := x39) (lv' := [(5, .int x39), (1, .long x38), (0, .ref (ka_a G (22, 0, 0))), (3, .int v3), (4, .int v4)]) hx hb dL_now_144 hl (k := 4) rfl (by rw [ex39]; rfl) (by decide) rfl (fun ls hl => ?_)
      refine lv_goto (tgt := 97) hx hb dL_now_147 (by decide) ?_
      refine W.widen (k := (cl + 0)) (n := 6 * (cl + 0)) (by omega) (by omega) ?_
      exact ih9 σ37 x38 v3 v4 x39 hq (cl + 0) (by omega) H locs hP hS ls (lv_sub hl [2, 1, 3, 4, 0] rfl)
def kw_L_now_81 (K36 : ka_S → Int64 → Int32 → Prop) (Q : Int64 → ka_S → Prop) : Nat → ka_S → Int64 → Int32 → Int32 → Prop
  | 0, _, _, _, _ => False
  | n + 1, σ, v1, v3, v4 => kw0_L_word σ v3 (0 : Int32) (fun r26 σ27 =>
    (r26 ≤ v4.toInt64 → ∀ x28 : Int32, x28 = v3 + (1 : Int32) →
      K36 σ27 v1 x28) ∧
    (¬ r26 ≤ v4.toInt64 → ∃ n29 : Nat, kw_L_now_97 K36 (kw_L_now_81 K36 Q n) Q n29 σ27 v1 v3 v4 (0 : Int32)))
set_option maxHeartbeats 4000000 in
set_option maxRecDepth 100000 in
theorem kb_L_now_81 {p : Program} {l : Launch} {e : Env} {s : State} {m : MethodId} {below : List Frame} {meth : Method} {c : Code} {G : ka_G} {args : Array Value} (hl0 : l.stackTraces = false) (hI : ka_I G) (C0 : ka_C p s m args meth c cL_now 6 "GlossRowsLaw" (some .long)) (hK : ka_Kn G s) (hT : ka_T9 (ka_A G) s) (hN : kl_Nc s) {Q : Int64 → ka_S → Prop} {K36 : ka_S → Int64 → Int32 → Prop} {R36 : Nat} (hk36 : ∀ (σ : ka_S) (v1 : Int64) (v3 : Int32), K36 σ v1 v3 → ∀ (cl : Nat), cl + R36 ≤ 0 → ∀ (H : Heap) (locs : List Loc), ka_P G σ H → va_S (ka_A G) s.heap H locs → ∀ ls : Array Slot, lv_has ls 6 [(0, .ref (ka_a G (22, 0, 0))), (1, .long v1), (3, .int v3)] → W p l e rm_L_now s m args below meth c H locs cl (6 * cl) (MQ below (va_Ql Q (ka_B G) (ka_A G)) args s 0 0 (ka_A G)) (F0 m 36 ls [])) : ∀ (n : Nat) (σ : ka_S) (v1 : Int64) (v3 : Int32) (v4 : Int32), kw_L_now_81 K36 Q n σ v1 v3 v4 → ∀ (cl : Nat), cl + 0 + R36 ≤ 0 → ∀ (H : Heap) (locs : List Loc), ka_P G σ H → va_S (ka_A G) s.heap H locs → ∀ ls : Array Slot, lv_has ls 6 [(0, .ref (ka_a G (22, 0, 0))), (1, .long v1), (3, .int v3), (4, .int v4)] → W p l e rm_L_now s m args below meth c H locs cl (6 * cl) (MQ below (va_Ql Q (ka_B G) (ka_A G)) args s 0 0 (ka_A G)) (F0 m 81 ls []) := by
  obtain ⟨hx, hb, -, hml, hown, hts, -⟩ := id C0
  intro n
  induction n with
  | zero =>
    intro σ v1 v3 v4 hq
    rw [kw_L_now_81] at hq
    exact hq.elim
  | succ n ih =>
    have ih9 : ∀ (σ : ka_S) (v1 : Int64) (v3 : Int32) (v4 : Int32), kw_L_now_81 K36 Q n σ v1 v3 v4 → ∀ (cl : Nat), cl + (0 + R36) ≤ 0 → ∀ (H : Heap) (locs : List Loc), ka_P G σ H → va_S (ka_A G) s.heap H locs → ∀ ls : Array Slot, lv_has ls 6 [(0, .ref (ka_a G (22, 0, 0))), (1, .long v1), (3, .int v3), (4, .int v4)] → W p l e rm_L_now s m args below meth c H locs cl (6 * cl) (MQ below (va_Ql Q (ka_B G) (ka_A G)) args s 0 0 (ka_A G)) (F0 m 81 ls []) := fun σ v1 v3 v4 hq cl h9 => ih σ v1 v3 v4 hq cl (by omega)
    intro σ v1 v3 v4 hq cl hcl H locs hP hS ls hl
    rw [kw_L_now_81] at hq
    refine lv_iload hx hb dL_now_81 (lv_at hl 3 rfl) ?_
    refine lv_i2l hx hb dL_now_83 rfl ?_
    refine lv_aload_n hx hb dL_now_84 rfl (lv_at hl 0 rfl) ?_
    refine lv_iload_n hx hb dL_now_85 rfl (lv_at hl 2 rfl) ?_
    refine lv_iconst (v := 0) hx hb dL_now_86 (by decide) ?_
    refine kj_Wl (As := [.ref (ka_a G (22, 0, 0)), .int v3, .int (0 : Int32)]) (rest := [.long v4.toInt64]) C0 hK hT hN hP hS (fun _ h => h) hl (km0_L_word l hl0 hI hq) kd_L_word kq_563 ⟨rfl, rfl, Nat.le_of_ble_eq_true rfl, Nat.le_of_ble_eq_true rfl⟩ rfl (Nat.le_of_ble_eq_true rfl) dL_now_87 ⟨by show _ ≤ 0; omega, by show _ ≤ 0; omega⟩ (fun r26 σ27 H locs hq hP hkp hS => ?_)
    refine kr_cge (tgt := 179) C0 dL_now_90 dL_now_91 (by decide) (fun hc => ?_) (fun hc => ?_)
    · have hq := hq.1 hc
      obtain ⟨x28, ex28⟩ : ∃ y : Int32, y = v3 + (1 : Int32) := ⟨_, rfl⟩
      have hq := hq x28 ex28
      refine lv_iinc (v := x28) (lv' := [(3, .int x28), (0, .ref (ka_a G (22, 0, 0))), (1, .long v1), (4, .int v4)]) hx hb dL_now_179 hl (k := 2) rfl (by rw [ex28]; rfl) (by decide) rfl (fun ls hl => ?_)
      refine lv_goto (tgt := 36) hx hb dL_now_182 (by decide) ?_
      refine W.widen (k := (cl + 0)) (n := 6 * (cl + 0)) (by omega) (by omega) ?_
      exact hk36 σ27 v1 x28 hq (cl + 0) (by omega) H locs hP hS ls (lv_sub hl [1, 2, 0] rfl)
    · have hq := hq.2 hc
      refine lv_iconst (v := 0) hx hb dL_now_94 (by decide) ?_
      refine lv_istore (lv' := [(5, .int (0 : Int32)), (0, .ref (ka_a G (22, 0, 0))), (1, .long v1), (3, .int v3), (4, .int v4)]) hx hb dL_now_95 hl (by decide) rfl (fun ls hl => ?_)
      obtain ⟨n29, hq⟩ := hq
      refine W.widen (k := (cl + 0)) (n := 6 * (cl + 0)) (by omega) (by omega) ?_
      exact kb_L_now_97 (R36 := R36) (R81 := (0 + R36)) hl0 hI C0 hK hT hN hk36 ih9 n29 σ27 v1 v3 v4 (0 : Int32) hq (cl + 0) (by omega) H locs hP hS ls (lv_sub hl [1, 2, 3, 4, 0] rfl)
def kw_L_now_47 (K36 : ka_S → Int64 → Int32 → Prop) (Q : Int64 → ka_S → Prop) : Nat → ka_S → Int64 → Int32 → Int32 → Prop
  | 0, _, _, _, _ => False
  | n + 1, σ, v1, v3, v4 => ((8 : Int32) ≤ v4 → ∃ n14 : Nat, kw_L_now_81 K36 Q n14 σ v1 v3 (0 : Int32)) ∧
    (¬ (8 : Int32) ≤ v4 → kw0_L_word σ v3 v4 (fun r15 σ16 =>
      ∀ x17 : Int64, x17 = ((((1009 : Int64) * v1) + r15) - (((1009 : Int64) * v1) + r15) / (1000000007 : Int64) * (1000000007 : Int64)) → 
      ∀ x18 : Int32, x18 = v4 + (1 : Int32) →
      (kw_L_now_47 K36 Q n) σ16 x17 v3 x18))
set_option maxHeartbeats 4000000 in
set_option maxRecDepth 100000 in
theorem kb_L_now_47 {p : Program} {l : Launch} {e : Env} {s : State} {m : MethodId} {below : List Frame} {meth : Method} {c : Code} {G : ka_G} {args : Array Value} (hl0 : l.stackTraces = false) (hI : ka_I G) (C0 : ka_C p s m args meth c cL_now 6 "GlossRowsLaw" (some .long)) (hK : ka_Kn G s) (hT : ka_T9 (ka_A G) s) (hN : kl_Nc s) {Q : Int64 → ka_S → Prop} {K36 : ka_S → Int64 → Int32 → Prop} {R36 : Nat} (hk36 : ∀ (σ : ka_S) (v1 : Int64) (v3 : Int32), K36 σ v1 v3 → ∀ (cl : Nat), cl + R36 ≤ 0 → ∀ (H : Heap) (locs : List Loc), ka_P G σ H → va_S (ka_A G) s.heap H locs → ∀ ls : Array Slot, lv_has ls 6 [(0, .ref (ka_a G (22, 0, 0))), (1, .long v1), (3, .int v3)] → W p l e rm_L_now s m args below meth c H locs cl (6 * cl) (MQ below (va_Ql Q (ka_B G) (ka_A G)) args s 0 0 (ka_A G)) (F0 m 36 ls [])) : ∀ (n : Nat) (σ : ka_S) (v1 : Int64) (v3 : Int32) (v4 : Int32), kw_L_now_47 K36 Q n σ v1 v3 v4 → ∀ (cl : Nat), cl + 0 + R36 ≤ 0 → ∀ (H : Heap) (locs : List Loc), ka_P G σ H → va_S (ka_A G) s.heap H locs → ∀ ls : Array Slot, lv_has ls 6 [(0, .ref (ka_a G (22, 0, 0))), (1, .long v1), (3, .int v3), (4, .int v4)] → W p l e rm_L_now s m args below meth c H locs cl (6 * cl) (MQ below (va_Ql Q (ka_B G) (ka_A G)) args s 0 0 (ka_A G)) (F0 m 47 ls []) := by
  obtain ⟨hx, hb, -, hml, hown, hts, -⟩ := id C0
  intro n
  induction n with
  | zero =>
    intro σ v1 v3 v4 hq
    rw [kw_L_now_47] at hq
    exact hq.elim
  | succ n ih =>
    have ih9 : ∀ (σ : ka_S) (v1 : Int64) (v3 : Int32) (v4 : Int32), kw_L_now_47 K36 Q n σ v1 v3 v4 → ∀ (cl : Nat), cl + (0 + R36) ≤ 0 → ∀ (H : Heap) (locs : List Loc), ka_P G σ H → va_S (ka_A G) s.heap H locs → ∀ ls : Array Slot, lv_has ls 6 [(0, .ref (ka_a G (22, 0, 0))), (1, .long v1), (3, .int v3), (4, .int v4)] → W p l e rm_L_now s m args below meth c H locs cl (6 * cl) (MQ below (va_Ql Q (ka_B G) (ka_A G)) args s 0 0 (ka_A G)) (F0 m 47 ls []) := fun σ v1 v3 v4 hq cl h9 => ih σ v1 v3 v4 hq cl (by omega)
    intro σ v1 v3 v4 hq cl hcl H locs hP hS ls hl
    rw [kw_L_now_47] at hq
    refine lv_iload hx hb dL_now_47 (lv_at hl 3 rfl) ?_
    refine lv_bipush (v := 8) hx hb dL_now_49 (by decide) ?_
    refine lv_icmp_ge (tgt := 78) hx hb dL_now_51 (by decide) (fun hc => ?_) (fun hc => ?_)
    · have hq := hq.1 hc
      refine lv_iconst (v := 0) hx hb dL_now_78 (by decide) ?_
      refine lv_istore (lv' := [(4, .int (0 : Int32)), (0, .ref (ka_a G (22, 0, 0))), (1, .long v1), (3, .int v3)]) hx hb dL_now_79 hl (by decide) rfl (fun ls hl => ?_)
      obtain ⟨n14, hq⟩ := hq
      refine W.widen (k := (cl + 0)) (n := 6 * (cl + 0)) (by omega) (by omega) ?_
      exact kb_L_now_81 (R36 := R36) hl0 hI C0 hK hT hN hk36 n14 σ v1 v3 (0 : Int32) hq (cl + 0) (by omega) H locs hP hS ls (lv_sub hl [1, 2, 3, 0] rfl)
    · have hq := hq.2 hc
      refine lv_ldc2 hx hb hown (hts _ kq_477) dL_now_54 ?_
      refine lv_lload_n hx hb dL_now_57 rfl (lv_at hl 1 rfl) ?_
      refine lv_lmul hx hb dL_now_58 ?_
      refine lv_aload_n hx hb dL_now_59 rfl (lv_at hl 0 rfl) ?_
      refine lv_iload_n hx hb dL_now_60 rfl (lv_at hl 2 rfl) ?_
      refine lv_iload hx hb dL_now_61 (lv_at hl 3 rfl) ?_
      refine kj_Wl (As := [.ref (ka_a G (22, 0, 0)), .int v3, .int v4]) (rest := [.long ((1009 : Int64) * v1)]) C0 hK hT hN hP hS (fun _ h => h) hl (km0_L_word l hl0 hI hq) kd_L_word kq_563 ⟨rfl, rfl, Nat.le_of_ble_eq_true rfl, Nat.le_of_ble_eq_true rfl⟩ rfl (Nat.le_of_ble_eq_true rfl) dL_now_63 ⟨by show _ ≤ 0; omega, by show _ ≤ 0; omega⟩ (fun r15 σ16 H locs hq hP hkp hS => ?_)
      refine lv_ladd hx hb dL_now_66 ?_
      refine lv_ldc2 hx hb hown (hts _ kq_559) dL_now_67 ?_
      refine lv_lrem hx hb dL_now_70 (by decide) ?_
      refine lv_topl (fun x17 ex17 => ?_)
      have hq := hq x17 ex17
      refine lv_lstore_n (lv' := [(1, .long x17), (0, .ref (ka_a G (22, 0, 0))), (3, .int v3), (4, .int v4)]) hx hb dL_now_71 rfl hl (by decide) rfl (fun ls hl => ?_)
      obtain ⟨x18, ex18⟩ : ∃ y : Int32, y = v4 + (1 : Int32) := ⟨_, rfl⟩
      have hq := hq x18 ex18
      refine lv_iinc (v := x18) (lv' := [(4, .int x18), (1, .long x17), (0, .ref (ka_a G (22, 0, 0))), (3, .int v3)]) hx hb dL_now_72 hl (k := 3) rfl (by rw [ex18]; rfl) (by decide) rfl (fun ls hl => ?_)
      refine lv_goto (tgt := 47) hx hb dL_now_75 (by decide) ?_
      refine W.widen (k := (cl + 0)) (n := 6 * (cl + 0)) (by omega) (by omega) ?_
      exact ih9 σ16 x17 v3 x18 hq (cl + 0) (by omega) H locs hP hS ls (lv_sub hl [2, 1, 3, 0] rfl)
def kw_L_now_202 (K187 : ka_S → Int64 → Int32 → Prop) (Q : Int64 → ka_S → Prop) : Nat → ka_S → Int64 → Int32 → Int32 → Prop
  | 0, _, _, _, _ => False
  | n + 1, σ, v1, v3, v4 => ((8 : Int32) ≤ v4 → ∀ x19 : Int32, x19 = v3 + (1 : Int32) →
      K187 σ v1 x19) ∧
    (¬ (8 : Int32) ≤ v4 → kw0_L_entry σ v3 (0 : Int32) v4 (fun r20 σ21 =>
      kw0_L_entry σ21 v3 (1 : Int32) v4 (fun r22 σ23 =>
      ∀ x24 : Int64, x24 = ((((((1009 : Int64) * v1) + r20) + ((200 : Int64) * r22)) + (2000 : Int64)) - (((((1009 : Int64) * v1) + r20) + ((200 : Int64) * r22)) + (2000 : Int64)) / (1000000007 : Int64) * (1000000007 : Int64)) → 
      ∀ x25 : Int32, x25 = v4 + (1 : Int32) →
      (kw_L_now_202 K187 Q n) σ23 x24 v3 x25)))
set_option maxHeartbeats 4000000 in
set_option maxRecDepth 100000 in
theorem kb_L_now_202 {p : Program} {l : Launch} {e : Env} {s : State} {m : MethodId} {below : List Frame} {meth : Method} {c : Code} {G : ka_G} {args : Array Value} (hl0 : l.stackTraces = false) (hI : ka_I G) (C0 : ka_C p s m args meth c cL_now 6 "GlossRowsLaw" (some .long)) (hK : ka_Kn G s) (hT : ka_T9 (ka_A G) s) (hN : kl_Nc s) {Q : Int64 → ka_S → Prop} {K187 : ka_S → Int64 → Int32 → Prop} {R187 : Nat} (hk187 : ∀ (σ : ka_S) (v1 : Int64) (v3 : Int32), K187 σ v1 v3 → ∀ (cl : Nat), cl + R187 ≤ 0 → ∀ (H : Heap) (locs : List Loc), ka_P G σ H → va_S (ka_A G) s.heap H locs → ∀ ls : Array Slot, lv_has ls 6 [(0, .ref (ka_a G (22, 0, 0))), (1, .long v1), (3, .int v3)] → W p l e rm_L_now s m args below meth c H locs cl (6 * cl) (MQ below (va_Ql Q (ka_B G) (ka_A G)) args s 0 0 (ka_A G)) (F0 m 187 ls [])) : ∀ (n : Nat) (σ : ka_S) (v1 : Int64) (v3 : Int32) (v4 : Int32), kw_L_now_202 K187 Q n σ v1 v3 v4 → ∀ (cl : Nat), cl + 0 + R187 ≤ 0 → ∀ (H : Heap) (locs : List Loc), ka_P G σ H → va_S (ka_A G) s.heap H locs → ∀ ls : Array Slot, lv_has ls 6 [(0, .ref (ka_a G (22, 0, 0))), (1, .long v1), (3, .int v3), (4, .int v4)] → W p l e rm_L_now s m args below meth c H locs cl (6 * cl) (MQ below (va_Ql Q (ka_B G) (ka_A G)) args s 0 0 (ka_A G)) (F0 m 202 ls []) := by
  obtain ⟨hx, hb, -, hml, hown, hts, -⟩ := id C0
  intro n
  induction n with
  | zero =>
    intro σ v1 v3 v4 hq
    rw [kw_L_now_202] at hq
    exact hq.elim
  | succ n ih =>
    have ih9 : ∀ (σ : ka_S) (v1 : Int64) (v3 : Int32) (v4 : Int32), kw_L_now_202 K187 Q n σ v1 v3 v4 → ∀ (cl : Nat), cl + (0 + R187) ≤ 0 → ∀ (H : Heap) (locs : List Loc), ka_P G σ H → va_S (ka_A G) s.heap H locs → ∀ ls : Array Slot, lv_has ls 6 [(0, .ref (ka_a G (22, 0, 0))), (1, .long v1), (3, .int v3), (4, .int v4)] → W p l e rm_L_now s m args below meth c H locs cl (6 * cl) (MQ below (va_Ql Q (ka_B G) (ka_A G)) args s 0 0 (ka_A G)) (F0 m 202 ls []) := fun σ v1 v3 v4 hq cl h9 => ih σ v1 v3 v4 hq cl (by omega)
    intro σ v1 v3 v4 hq cl hcl H locs hP hS ls hl
    rw [kw_L_now_202] at hq
    refine lv_iload hx hb dL_now_202 (lv_at hl 3 rfl) ?_
    refine lv_bipush (v := 8) hx hb dL_now_204 (by decide) ?_
    refine lv_icmp_ge (tgt := 251) hx hb dL_now_206 (by decide) (fun hc => ?_) (fun hc => ?_)
    · have hq := hq.1 hc
      obtain ⟨x19, ex19⟩ : ∃ y : Int32, y = v3 + (1 : Int32) := ⟨_, rfl⟩
      have hq := hq x19 ex19
      refine lv_iinc (v := x19) (lv' := [(3, .int x19), (0, .ref (ka_a G (22, 0, 0))), (1, .long v1), (4, .int v4)]) hx hb dL_now_251 hl (k := 2) rfl (by rw [ex19]; rfl) (by decide) rfl (fun ls hl => ?_)
      refine lv_goto (tgt := 187) hx hb dL_now_254 (by decide) ?_
      refine W.widen (k := (cl + 0)) (n := 6 * (cl + 0)) (by omega) (by omega) ?_
      exact hk187 σ v1 x19 hq (cl + 0) (by omega) H locs hP hS ls (lv_sub hl [1, 2, 0] rfl)
    · have hq := hq.2 hc
      refine lv_ldc2 hx hb hown (hts _ kq_477) dL_now_209 ?_
      refine lv_lload_n hx hb dL_now_212 rfl (lv_at hl 1 rfl) ?_
      refine lv_lmul hx hb dL_now_213 ?_
      refine lv_aload_n hx hb dL_now_214 rfl (lv_at hl 0 rfl) ?_
      refine lv_iload_n hx hb dL_now_215 rfl (lv_at hl 2 rfl) ?_
      refine lv_iconst (v := 0) hx hb dL_now_216 (by decide) ?_
      refine lv_iload hx hb dL_now_217 (lv_at hl 3 rfl) ?_
      refine kj_Wl (As := [.ref (ka_a G (22, 0, 0)), .int v3, .int (0 : Int32), .int v4]) (rest := [.long ((1009 : Int64) * v1)]) C0 hK hT hN hP hS (fun _ h => h) hl (km0_L_entry l hl0 hI hq) kd_L_entry kq_620 ⟨rfl, rfl, Nat.le_of_ble_eq_true rfl, Nat.le_of_ble_eq_true rfl⟩ rfl (Nat.le_of_ble_eq_true rfl) dL_now_219 ⟨by show _ ≤ 0; omega, by show _ ≤ 0; omega⟩ (fun r20 σ21 H locs hq hP hkp hS => ?_)
      refine lv_ladd hx hb dL_now_222 ?_
      refine lv_ldc2 hx hb hown (hts _ kq_607) dL_now_223 ?_
      refine lv_aload_n hx hb dL_now_226 rfl (lv_at hl 0 rfl) ?_
      refine lv_iload_n hx hb dL_now_227 rfl (lv_at hl 2 rfl) ?_
      refine lv_iconst (v := 1) hx hb dL_now_228 (by decide) ?_
      refine lv_iload hx hb dL_now_229 (lv_at hl 3 rfl) ?_
      refine kj_Wl (As := [.ref (ka_a G (22, 0, 0)), .int v3, .int (1 : Int32), .int v4]) (rest := [.long (200 : Int64), .long (((1009 : Int64) * v1) + r20)]) C0 hK hT hN hP hS (fun _ h => h) hl (km0_L_entry l hl0 hI hq) kd_L_entry kq_620 ⟨rfl, rfl, Nat.le_of_ble_eq_true rfl, Nat.le_of_ble_eq_true rfl⟩ rfl (Nat.le_of_ble_eq_true rfl) dL_now_231 ⟨by show _ ≤ 0; omega, by show _ ≤ 0; omega⟩ (fun r22 σ23 H locs hq hP hkp hS => ?_)
      refine lv_lmul hx hb dL_now_234 ?_
      refine lv_ladd hx hb dL_now_235 ?_
      refine lv_ldc2 hx hb hown (hts _ kq_608) dL_now_236 ?_
      refine lv_ladd hx hb dL_now_239 ?_
      refine lv_ldc2 hx hb hown (hts _ kq_559) dL_now_240 ?_
      refine lv_lrem hx hb dL_now_243 (by decide) ?_
      refine lv_topl (fun x24 ex24 => ?_)
      have hq := hq x24 ex24
      refine lv_lstore_n (lv' := [(1, .long x24), (0, .ref (ka_a G (22, 0, 0))), (3, .int v3), (4, .int v4)]) hx hb dL_now_244 rfl hl (by decide) rfl (fun ls hl => ?_)
      obtain ⟨x25, ex25⟩ : ∃ y : Int32, y = v4 + (1 : Int32) := ⟨_, rfl⟩
      have hq := hq x25 ex25
      refine lv_iinc (v := x25) (lv' := [(4, .int x25), (1, .long x24), (0, .ref (ka_a G (22, 0, 0))), (3, .int v3)]) hx hb dL_now_245 hl (k := 3) rfl (by rw [ex25]; rfl) (by decide) rfl (fun ls hl => ?_)
      refine lv_goto (tgt := 202) hx hb dL_now_248 (by decide) ?_
      refine W.widen (k := (cl + 0)) (n := 6 * (cl + 0)) (by omega) (by omega) ?_
      exact ih9 σ23 x24 v3 x25 hq (cl + 0) (by omega) H locs hP hS ls (lv_sub hl [2, 1, 3, 0] rfl)
def kw_L_now_187 (Q : Int64 → ka_S → Prop) : Nat → ka_S → Int64 → Int32 → Prop
  | 0, _, _, _ => False
  | n + 1, σ, v1, v3 => kw0_L_about σ (7 : Int32) (fun r11 σ12 =>
    (r11 ≤ v3.toInt64 → Q v1 σ12) ∧
    (¬ r11 ≤ v3.toInt64 → ∃ n13 : Nat, kw_L_now_202 (kw_L_now_187 Q n) Q n13 σ12 v1 v3 (0 : Int32)))
set_option maxHeartbeats 4000000 in
set_option maxRecDepth 100000 in
theorem kb_L_now_187 {p : Program} {l : Launch} {e : Env} {s : State} {m : MethodId} {below : List Frame} {meth : Method} {c : Code} {G : ka_G} {args : Array Value} (hl0 : l.stackTraces = false) (hI : ka_I G) (C0 : ka_C p s m args meth c cL_now 6 "GlossRowsLaw" (some .long)) (hK : ka_Kn G s) (hT : ka_T9 (ka_A G) s) (hN : kl_Nc s) {Q : Int64 → ka_S → Prop} : ∀ (n : Nat) (σ : ka_S) (v1 : Int64) (v3 : Int32), kw_L_now_187 Q n σ v1 v3 → ∀ (cl : Nat), cl + 0 ≤ 0 → ∀ (H : Heap) (locs : List Loc), ka_P G σ H → va_S (ka_A G) s.heap H locs → ∀ ls : Array Slot, lv_has ls 6 [(0, .ref (ka_a G (22, 0, 0))), (1, .long v1), (3, .int v3)] → W p l e rm_L_now s m args below meth c H locs cl (6 * cl) (MQ below (va_Ql Q (ka_B G) (ka_A G)) args s 0 0 (ka_A G)) (F0 m 187 ls []) := by
  obtain ⟨hx, hb, -, hml, hown, hts, -⟩ := id C0
  intro n
  induction n with
  | zero =>
    intro σ v1 v3 hq
    rw [kw_L_now_187] at hq
    exact hq.elim
  | succ n ih =>
    have ih9 : ∀ (σ : ka_S) (v1 : Int64) (v3 : Int32), kw_L_now_187 Q n σ v1 v3 → ∀ (cl : Nat), cl + (0) ≤ 0 → ∀ (H : Heap) (locs : List Loc), ka_P G σ H → va_S (ka_A G) s.heap H locs → ∀ ls : Array Slot, lv_has ls 6 [(0, .ref (ka_a G (22, 0, 0))), (1, .long v1), (3, .int v3)] → W p l e rm_L_now s m args below meth c H locs cl (6 * cl) (MQ below (va_Ql Q (ka_B G) (ka_A G)) args s 0 0 (ka_A G)) (F0 m 187 ls []) := fun σ v1 v3 hq cl h9 => ih σ v1 v3 hq cl (by omega)
    intro σ v1 v3 hq cl hcl H locs hP hS ls hl
    rw [kw_L_now_187] at hq
    refine lv_iload_n hx hb dL_now_187 rfl (lv_at hl 2 rfl) ?_
    refine lv_i2l hx hb dL_now_188 rfl ?_
    refine lv_aload_n hx hb dL_now_189 rfl (lv_at hl 0 rfl) ?_
    refine lv_bipush (v := 7) hx hb dL_now_190 (by decide) ?_
    refine kj_Wl (As := [.ref (ka_a G (22, 0, 0)), .int (7 : Int32)]) (rest := [.long v3.toInt64]) C0 hK hT hN hP hS (fun _ h => h) hl (km0_L_about l hl0 hI hq) kd_L_about kq_478 ⟨rfl, rfl, Nat.le_of_ble_eq_true rfl, Nat.le_of_ble_eq_true rfl⟩ rfl (Nat.le_of_ble_eq_true rfl) dL_now_192 ⟨by show _ ≤ 0; omega, by show _ ≤ 0; omega⟩ (fun r11 σ12 H locs hq hP hkp hS => ?_)
    refine kr_cge (tgt := 257) C0 dL_now_195 dL_now_196 (by decide) (fun hc => ?_) (fun hc => ?_)
    · have hq := hq.1 hc
      refine lv_lload_n hx hb dL_now_257 rfl (lv_at hl 1 rfl) ?_
      exact kl_lret C0 hK hP hS hq dL_now_258 ⟨by omega, by omega⟩
    · have hq := hq.2 hc
      refine lv_iconst (v := 0) hx hb dL_now_199 (by decide) ?_
      refine lv_istore (lv' := [(4, .int (0 : Int32)), (0, .ref (ka_a G (22, 0, 0))), (1, .long v1), (3, .int v3)]) hx hb dL_now_200 hl (by decide) rfl (fun ls hl => ?_)
      obtain ⟨n13, hq⟩ := hq
      refine W.widen (k := (cl + 0)) (n := 6 * (cl + 0)) (by omega) (by omega) ?_
      exact kb_L_now_202 (R187 := (0)) hl0 hI C0 hK hT hN ih9 n13 σ12 v1 v3 (0 : Int32) hq (cl + 0) (by omega) H locs hP hS ls (lv_sub hl [1, 2, 3, 0] rfl)
def kw_L_now_36 (Q : Int64 → ka_S → Prop) : Nat → ka_S → Int64 → Int32 → Prop
  | 0, _, _, _ => False
  | n + 1, σ, v1, v3 => kw_L_words σ (fun r7 σ8 =>
    (r7 ≤ v3 → ∃ n9 : Nat, kw_L_now_187 Q n9 σ8 v1 (0 : Int32)) ∧
    (¬ r7 ≤ v3 → ∃ n10 : Nat, kw_L_now_47 (kw_L_now_36 Q n) Q n10 σ8 v1 v3 (0 : Int32)))
set_option maxHeartbeats 4000000 in
set_option maxRecDepth 100000 in
theorem kb_L_now_36 {p : Program} {l : Launch} {e : Env} {s : State} {m : MethodId} {below : List Frame} {meth : Method} {c : Code} {G : ka_G} {args : Array Value} (hl0 : l.stackTraces = false) (hI : ka_I G) (C0 : ka_C p s m args meth c cL_now 6 "GlossRowsLaw" (some .long)) (hK : ka_Kn G s) (hT : ka_T9 (ka_A G) s) (hN : kl_Nc s) {Q : Int64 → ka_S → Prop} : ∀ (n : Nat) (σ : ka_S) (v1 : Int64) (v3 : Int32), kw_L_now_36 Q n σ v1 v3 → ∀ (cl : Nat), cl + 0 ≤ 0 → ∀ (H : Heap) (locs : List Loc), ka_P G σ H → va_S (ka_A G) s.heap H locs → ∀ ls : Array Slot, lv_has ls 6 [(0, .ref (ka_a G (22, 0, 0))), (1, .long v1), (3, .int v3)] → W p l e rm_L_now s m args below meth c H locs cl (6 * cl) (MQ below (va_Ql Q (ka_B G) (ka_A G)) args s 0 0 (ka_A G)) (F0 m 36 ls []) := by
  obtain ⟨hx, hb, -, hml, hown, hts, -⟩ := id C0
  intro n
  induction n with
  | zero =>
    intro σ v1 v3 hq
    rw [kw_L_now_36] at hq
    exact hq.elim
  | succ n ih =>
    have ih9 : ∀ (σ : ka_S) (v1 : Int64) (v3 : Int32), kw_L_now_36 Q n σ v1 v3 → ∀ (cl : Nat), cl + (0) ≤ 0 → ∀ (H : Heap) (locs : List Loc), ka_P G σ H → va_S (ka_A G) s.heap H locs → ∀ ls : Array Slot, lv_has ls 6 [(0, .ref (ka_a G (22, 0, 0))), (1, .long v1), (3, .int v3)] → W p l e rm_L_now s m args below meth c H locs cl (6 * cl) (MQ below (va_Ql Q (ka_B G) (ka_A G)) args s 0 0 (ka_A G)) (F0 m 36 ls []) := fun σ v1 v3 hq cl h9 => ih σ v1 v3 hq cl (by omega)
    intro σ v1 v3 hq cl hcl H locs hP hS ls hl
    rw [kw_L_now_36] at hq
    refine lv_iload_n hx hb dL_now_36 rfl (lv_at hl 2 rfl) ?_
    refine lv_aload_n hx hb dL_now_37 rfl (lv_at hl 0 rfl) ?_
    refine kj_Si (As := [.ref (ka_a G (22, 0, 0))]) (rest := [.int v3]) C0 hK hT hN hP hS (fun _ h => h) hl (km_L_words l hl0 hI hq) kd_L_words kq_560 ⟨rfl, rfl, Nat.le_of_ble_eq_true rfl, Nat.le_of_ble_eq_true rfl⟩ rfl (Nat.le_of_ble_eq_true rfl) dL_now_38 ⟨by show _ ≤ 0; omega, by show _ ≤ 0; omega⟩ (fun r7 σ8 H locs hq hP hkp hS => ?_)
    refine lv_icmp_ge (tgt := 185) hx hb dL_now_41 (by decide) (fun hc => ?_) (fun hc => ?_)
    · have hq := hq.1 hc
      refine lv_iconst (v := 0) hx hb dL_now_185 (by decide) ?_
      refine lv_istore_n (lv' := [(3, .int (0 : Int32)), (0, .ref (ka_a G (22, 0, 0))), (1, .long v1)]) hx hb dL_now_186 rfl hl (by decide) rfl (fun ls hl => ?_)
      obtain ⟨n9, hq⟩ := hq
      refine W.widen (k := (cl + 0)) (n := 6 * (cl + 0)) (by omega) (by omega) ?_
      exact kb_L_now_187 hl0 hI C0 hK hT hN n9 σ8 v1 (0 : Int32) hq (cl + 0) (by omega) H locs hP hS ls (lv_sub hl [1, 2, 0] rfl)
    · have hq := hq.2 hc
      refine lv_iconst (v := 0) hx hb dL_now_44 (by decide) ?_
      refine lv_istore (lv' := [(4, .int (0 : Int32)), (0, .ref (ka_a G (22, 0, 0))), (1, .long v1), (3, .int v3)]) hx hb dL_now_45 hl (by decide) rfl (fun ls hl => ?_)
      obtain ⟨n10, hq⟩ := hq
      refine W.widen (k := (cl + 0)) (n := 6 * (cl + 0)) (by omega) (by omega) ?_
      exact kb_L_now_47 (R36 := (0)) hl0 hI C0 hK hT hN ih9 n10 σ8 v1 v3 (0 : Int32) hq (cl + 0) (by omega) H locs hP hS ls (lv_sub hl [1, 2, 3, 0] rfl)
def kw_L_now_6 (Q : Int64 → ka_S → Prop) : Nat → ka_S → Int64 → Int32 → Prop
  | 0, _, _, _ => False
  | n + 1, σ, v1, v3 => ((12 : Int32) ≤ v3 → ∃ n2 : Nat, kw_L_now_36 Q n2 σ v1 (0 : Int32)) ∧
    (¬ (12 : Int32) ≤ v3 → kw0_L_about σ v3 (fun r3 σ4 =>
      ∀ x5 : Int64, x5 = ((((1009 : Int64) * v1) + r3) - (((1009 : Int64) * v1) + r3) / (1000000007 : Int64) * (1000000007 : Int64)) → 
      ∀ x6 : Int32, x6 = v3 + (1 : Int32) →
      (kw_L_now_6 Q n) σ4 x5 x6))
set_option maxHeartbeats 4000000 in
set_option maxRecDepth 100000 in
theorem kb_L_now_6 {p : Program} {l : Launch} {e : Env} {s : State} {m : MethodId} {below : List Frame} {meth : Method} {c : Code} {G : ka_G} {args : Array Value} (hl0 : l.stackTraces = false) (hI : ka_I G) (C0 : ka_C p s m args meth c cL_now 6 "GlossRowsLaw" (some .long)) (hK : ka_Kn G s) (hT : ka_T9 (ka_A G) s) (hN : kl_Nc s) {Q : Int64 → ka_S → Prop} : ∀ (n : Nat) (σ : ka_S) (v1 : Int64) (v3 : Int32), kw_L_now_6 Q n σ v1 v3 → ∀ (cl : Nat), cl + 0 ≤ 0 → ∀ (H : Heap) (locs : List Loc), ka_P G σ H → va_S (ka_A G) s.heap H locs → ∀ ls : Array Slot, lv_has ls 6 [(0, .ref (ka_a G (22, 0, 0))), (1, .long v1), (3, .int v3)] → W p l e rm_L_now s m args below meth c H locs cl (6 * cl) (MQ below (va_Ql Q (ka_B G) (ka_A G)) args s 0 0 (ka_A G)) (F0 m 6 ls []) := by
  obtain ⟨hx, hb, -, hml, hown, hts, -⟩ := id C0
  intro n
  induction n with
  | zero =>
    intro σ v1 v3 hq
    rw [kw_L_now_6] at hq
    exact hq.elim
  | succ n ih =>
    have ih9 : ∀ (σ : ka_S) (v1 : Int64) (v3 : Int32), kw_L_now_6 Q n σ v1 v3 → ∀ (cl : Nat), cl + (0) ≤ 0 → ∀ (H : Heap) (locs : List Loc), ka_P G σ H → va_S (ka_A G) s.heap H locs → ∀ ls : Array Slot, lv_has ls 6 [(0, .ref (ka_a G (22, 0, 0))), (1, .long v1), (3, .int v3)] → W p l e rm_L_now s m args below meth c H locs cl (6 * cl) (MQ below (va_Ql Q (ka_B G) (ka_A G)) args s 0 0 (ka_A G)) (F0 m 6 ls []) := fun σ v1 v3 hq cl h9 => ih σ v1 v3 hq cl (by omega)
    intro σ v1 v3 hq cl hcl H locs hP hS ls hl
    rw [kw_L_now_6] at hq
    refine lv_iload_n hx hb dL_now_6 rfl (lv_at hl 2 rfl) ?_
    refine lv_bipush (v := 12) hx hb dL_now_7 (by decide) ?_
    refine lv_icmp_ge (tgt := 34) hx hb dL_now_9 (by decide) (fun hc => ?_) (fun hc => ?_)
    · have hq := hq.1 hc
      refine lv_iconst (v := 0) hx hb dL_now_34 (by decide) ?_
      refine lv_istore_n (lv' := [(3, .int (0 : Int32)), (0, .ref (ka_a G (22, 0, 0))), (1, .long v1)]) hx hb dL_now_35 rfl hl (by decide) rfl (fun ls hl => ?_)
      obtain ⟨n2, hq⟩ := hq
      refine W.widen (k := (cl + 0)) (n := 6 * (cl + 0)) (by omega) (by omega) ?_
      exact kb_L_now_36 hl0 hI C0 hK hT hN n2 σ v1 (0 : Int32) hq (cl + 0) (by omega) H locs hP hS ls (lv_sub hl [1, 2, 0] rfl)
    · have hq := hq.2 hc
      refine lv_ldc2 hx hb hown (hts _ kq_477) dL_now_12 ?_
      refine lv_lload_n hx hb dL_now_15 rfl (lv_at hl 1 rfl) ?_
      refine lv_lmul hx hb dL_now_16 ?_
      refine lv_aload_n hx hb dL_now_17 rfl (lv_at hl 0 rfl) ?_
      refine lv_iload_n hx hb dL_now_18 rfl (lv_at hl 2 rfl) ?_
      refine kj_Wl (As := [.ref (ka_a G (22, 0, 0)), .int v3]) (rest := [.long ((1009 : Int64) * v1)]) C0 hK hT hN hP hS (fun _ h => h) hl (km0_L_about l hl0 hI hq) kd_L_about kq_478 ⟨rfl, rfl, Nat.le_of_ble_eq_true rfl, Nat.le_of_ble_eq_true rfl⟩ rfl (Nat.le_of_ble_eq_true rfl) dL_now_19 ⟨by show _ ≤ 0; omega, by show _ ≤ 0; omega⟩ (fun r3 σ4 H locs hq hP hkp hS => ?_)
      refine lv_ladd hx hb dL_now_22 ?_
      refine lv_ldc2 hx hb hown (hts _ kq_559) dL_now_23 ?_
      refine lv_lrem hx hb dL_now_26 (by decide) ?_
      refine lv_topl (fun x5 ex5 => ?_)
      have hq := hq x5 ex5
      refine lv_lstore_n (lv' := [(1, .long x5), (0, .ref (ka_a G (22, 0, 0))), (3, .int v3)]) hx hb dL_now_27 rfl hl (by decide) rfl (fun ls hl => ?_)
      obtain ⟨x6, ex6⟩ : ∃ y : Int32, y = v3 + (1 : Int32) := ⟨_, rfl⟩
      have hq := hq x6 ex6
      refine lv_iinc (v := x6) (lv' := [(3, .int x6), (1, .long x5), (0, .ref (ka_a G (22, 0, 0)))]) hx hb dL_now_28 hl (k := 2) rfl (by rw [ex6]; rfl) (by decide) rfl (fun ls hl => ?_)
      refine lv_goto (tgt := 6) hx hb dL_now_31 (by decide) ?_
      refine W.widen (k := (cl + 0)) (n := 6 * (cl + 0)) (by omega) (by omega) ?_
      exact ih9 σ4 x5 x6 hq (cl + 0) (by omega) H locs hP hS ls (lv_sub hl [2, 1, 0] rfl)
def kw_L_now (σ : ka_S) (Q : Int64 → ka_S → Prop) : Prop := ∃ n1 : Nat, kw_L_now_6 Q n1 σ (109 : Int64) (0 : Int32)
set_option maxHeartbeats 4000000 in
set_option maxRecDepth 100000 in
theorem km_L_now (l : Launch) (hl0 : l.stackTraces = false) {G : ka_G} (hI : ka_I G) {σ : ka_S} {Q : Int64 → ka_S → Prop} (hq : kw_L_now σ Q) : kd_l l yL_now (kw_ yL_now cL_now 6 (some .long)) rm_L_now 0 0 G [.ref (ka_a G (22, 0, 0))] σ Q := by
  refine kj_of "GlossRowsLaw" rfl (by decide) (Nat.le_of_ble_eq_true rfl) ?_
  intro p e s m below meth c C0 hK hT hN H locs hP hS ls hl
  obtain ⟨hx, hb, -, hml, hown, hts, -⟩ := id C0
  have hl : lv_has ls 6 [(0, .ref (ka_a G (22, 0, 0)))] := hl
  unfold kw_L_now at hq
  refine lv_ldc2 hx hb hown (hts _ kq_476) dL_now_0 ?_
  refine lv_lstore_n (lv' := [(1, .long (109 : Int64)), (0, .ref (ka_a G (22, 0, 0)))]) hx hb dL_now_3 rfl hl (by decide) rfl (fun ls hl => ?_)
  refine lv_iconst (v := 0) hx hb dL_now_4 (by decide) ?_
  refine lv_istore_n (lv' := [(3, .int (0 : Int32)), (1, .long (109 : Int64)), (0, .ref (ka_a G (22, 0, 0)))]) hx hb dL_now_5 rfl hl (by decide) rfl (fun ls hl => ?_)
  obtain ⟨n1, hq⟩ := hq
  refine W.widen (k := 0) (n := 6 * 0) (by omega) (by omega) ?_
  exact kb_L_now_6 hl0 hI C0 hK hT hN n1 σ (109 : Int64) (0 : Int32) hq 0 (by omega) H locs hP hS ls (lv_sub hl [2, 1, 0] rfl)
