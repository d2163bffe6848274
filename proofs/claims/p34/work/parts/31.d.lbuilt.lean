/-! law: built(LGlossRows;)Z -/
def rm_L_built : Room := { frames := 9, cells := 0, slots := 0, locals := 202 }
def kw_L_built_570 (K38 : ka_S → Int32 → Int64 → Int64 → Int64 → Int64 → Int64 → Int64 → Int32 → Int32 → Prop) (K381 : ka_S → Int32 → Int64 → Int64 → Int64 → Int64 → Int64 → Int64 → Int32 → Int32 → Int64 → Int64 → Int64 → Int32 → Prop) (Q : Int32 → ka_S → Prop) (σ : ka_S) (v1 : Int32) (v2 : Int64) (v4 : Int64) (v6 : Int64) (v8 : Int64) (v10 : Int64) (v12 : Int64) (v15 : Int32) (v16 : Int64) (v28 : Int64) (v30 : Int64) (v32 : Int32) : Prop := (v32 = (0 : Int32) → kw0_L_part σ v15 v32 (2 : Int32) (fun r166 σ167 =>
    (r166 = (-9 : Int64) → ∀ x169 : Int32, x169 = v32 + (1 : Int32) →
      K381 σ167 v1 v2 v4 v6 v8 v10 v12 (1 : Int32) v15 v16 v28 v30 x169) ∧
    (¬ r166 = (-9 : Int64) → ∀ x168 : Int32, x168 = v32 + (1 : Int32) →
      K381 σ167 v1 v2 v4 v6 v8 v10 v12 (0 : Int32) v15 v16 v28 v30 x168))) ∧
  (¬ v32 = (0 : Int32) → kw0_L_part σ v15 v32 (2 : Int32) (fun r159 σ160 =>
    (r159 = (45 : Int64) → ∀ x161 : Int32, x161 = v32 + (1 : Int32) →
      K381 σ160 v1 v2 v4 v6 v8 v10 v12 (1 : Int32) v15 v16 v28 v30 x161) ∧
    (¬ r159 = (45 : Int64) → kw0_L_part σ160 v15 v32 (2 : Int32) (fun r162 σ163 =>
      (r162 = (61 : Int64) → ∀ x165 : Int32, x165 = v32 + (1 : Int32) →
        K381 σ163 v1 v2 v4 v6 v8 v10 v12 (1 : Int32) v15 v16 v28 v30 x165) ∧
      (¬ r162 = (61 : Int64) → ∀ x164 : Int32, x164 = v32 + (1 : Int32) →
        K381 σ163 v1 v2 v4 v6 v8 v10 v12 (0 : Int32) v15 v16 v28 v30 x164)))))
set_option maxHeartbeats 4000000 in
set_option maxRecDepth 100000 in
theorem kb_L_built_570 {p : Program} {l : Launch} {e : Env} {s : State} {m : MethodId} {below : List Frame} {meth : Method} {c : Code} {G : ka_G} {args : Array Value} (hl0 : l.stackTraces = false) (hI : ka_I G) (C0 : ka_C p s m args meth c cL_built 37 "GlossRowsLaw" (some .boolean)) (hK : ka_Kn G s) (hT : ka_T9 (ka_A G) s) (hN : kl_Nc s) {Q : Int32 → ka_S → Prop} {K38 : ka_S → Int32 → Int64 → Int64 → Int64 → Int64 → Int64 → Int64 → Int32 → Int32 → Prop} {R38 : Nat} {K381 : ka_S → Int32 → Int64 → Int64 → Int64 → Int64 → Int64 → Int64 → Int32 → Int32 → Int64 → Int64 → Int64 → Int32 → Prop} {R381 : Nat} (hk38 : ∀ (σ : ka_S) (v1 : Int32) (v2 : Int64) (v4 : Int64) (v6 : Int64) (v8 : Int64) (v10 : Int64) (v12 : Int64) (v14 : Int32) (v15 : Int32), K38 σ v1 v2 v4 v6 v8 v10 v12 v14 v15 → ∀ (cl : Nat), cl + R38 ≤ 0 → ∀ (H : Heap) (locs : List Loc), ka_P G σ H → va_S (ka_A G) s.heap H locs → ∀ ls : Array Slot, lv_has ls 37 [(0, .ref (ka_a G (22, 0, 0))), (1, .int v1), (2, .long v2), (4, .long v4), (6, .long v6), (8, .long v8), (10, .long v10), (12, .long v12), (14, .int v14), (15, .int v15)] → W p l e rm_L_built s m args below meth c H locs cl (6 * cl) (MQ below (va_Qi Q (ka_B G) (ka_A G)) args s 0 0 (ka_A G)) (F0 m 38 ls [])) (hk381 : ∀ (σ : ka_S) (v1 : Int32) (v2 : Int64) (v4 : Int64) (v6 : Int64) (v8 : Int64) (v10 : Int64) (v12 : Int64) (v14 : Int32) (v15 : Int32) (v16 : Int64) (v28 : Int64) (v30 : Int64) (v32 : Int32), K381 σ v1 v2 v4 v6 v8 v10 v12 v14 v15 v16 v28 v30 v32 → ∀ (cl : Nat), cl + R381 ≤ 0 → ∀ (H : Heap) (locs : List Loc), ka_P G σ H → va_S (ka_A G) s.heap H locs → ∀ ls : Array Slot, lv_has ls 37 [(0, .ref (ka_a G (22, 0, 0))), (1, .int v1), (2, .long v2), (4, .long v4), (6, .long v6), (8, .long v8), (10, .long v10), (12, .long v12), (14, .int v14), (15, .int v15), (16, .long v16), (28, .long v28), (30, .long v30), (32, .int v32)] → W p l e rm_L_built s m args below meth c H locs cl (6 * cl) (MQ below (va_Qi Q (ka_B G) (ka_A G)) args s 0 0 (ka_A G)) (F0 m 381 ls [])) : ∀ (σ : ka_S) (v1 : Int32) (v2 : Int64) (v4 : Int64) (v6 : Int64) (v8 : Int64) (v10 : Int64) (v12 : Int64) (v15 : Int32) (v16 : Int64) (v28 : Int64) (v30 : Int64) (v32 : Int32), kw_L_built_570 K38 K381 Q σ v1 v2 v4 v6 v8 v10 v12 v15 v16 v28 v30 v32 → ∀ (cl : Nat), cl + 0 + R381 ≤ 0 → ∀ (H : Heap) (locs : List Loc), ka_P G σ H → va_S (ka_A G) s.heap H locs → ∀ ls : Array Slot, lv_has ls 37 [(0, .ref (ka_a G (22, 0, 0))), (1, .int v1), (2, .long v2), (4, .long v4), (6, .long v6), (8, .long v8), (10, .long v10), (12, .long v12), (15, .int v15), (16, .long v16), (28, .long v28), (30, .long v30), (32, .int v32)] → W p l e rm_L_built s m args below meth c H locs cl (6 * cl) (MQ below (va_Qi Q (ka_B G) (ka_A G)) args s 0 0 (ka_A G)) (F0 m 570 ls []) := by
  obtain ⟨hx, hb, -, hml, hown, hts, -⟩ := id C0
  intro σ v1 v2 v4 v6 v8 v10 v12 v15 v16 v28 v30 v32 hq cl hcl H locs hP hS ls hl
  unfold kw_L_built_570 at hq
  refine lv_iload hx hb dL_built_570 (lv_at hl 12 rfl) ?_
  refine lv_if_ne (tgt := 594) hx hb dL_built_572 (by decide) (fun hc => ?_) (fun hc => ?_)
  · have hq := hq.2 hc
    refine lv_aload_n hx hb dL_built_594 rfl (lv_at hl 0 rfl) ?_
    refine lv_iload hx hb dL_built_595 (lv_at hl 8 rfl) ?_
    refine lv_iload hx hb dL_built_597 (lv_at hl 12 rfl) ?_
    refine lv_iconst (v := 2) hx hb dL_built_599 (by decide) ?_
    refine kj_Wl (As := [.ref (ka_a G (22, 0, 0)), .int v15, .int v32, .int (2 : Int32)]) (rest := []) C0 hK hT hN hP hS (fun _ h => h) hl (km0_L_part l hl0 hI hq) kd_L_part kq_609 ⟨rfl, rfl, Nat.le_of_ble_eq_true rfl, Nat.le_of_ble_eq_true rfl⟩ rfl (Nat.le_of_ble_eq_true rfl) dL_built_600 ⟨by show _ ≤ 0; omega, by show _ ≤ 0; omega⟩ (fun r159 σ160 H locs hq hP hkp hS => ?_)
    refine lv_ldc2 hx hb hown (hts _ kq_958) dL_built_603 ?_
    refine kr_ceq (tgt := 626) C0 dL_built_606 dL_built_607 (by decide) (fun hc => ?_) (fun hc => ?_)
    · have hq := hq.1 hc
      refine lv_iconst (v := 1) hx hb dL_built_626 (by decide) ?_
      refine lv_goto (tgt := 631) hx hb dL_built_627 (by decide) ?_
      refine lv_istore (lv' := [(14, .int (1 : Int32)), (0, .ref (ka_a G (22, 0, 0))), (1, .int v1), (2, .long v2), (4, .long v4), (6, .long v6), (8, .long v8), (10, .long v10), (12, .long v12), (15, .int v15), (16, .long v16), (28, .long v28), (30, .long v30), (32, .int v32)]) hx hb dL_built_631 hl (by decide) rfl (fun ls hl => ?_)
      obtain ⟨x161, ex161⟩ : ∃ y : Int32, y = v32 + (1 : Int32) := ⟨_, rfl⟩
      have hq := hq x161 ex161
      refine lv_iinc (v := x161) (lv' := [(32, .int x161), (14, .int (1 : Int32)), (0, .ref (ka_a G (22, 0, 0))), (1, .int v1), (2, .long v2), (4, .long v4), (6, .long v6), (8, .long v8), (10, .long v10), (12, .long v12), (15, .int v15), (16, .long v16), (28, .long v28), (30, .long v30)]) hx hb dL_built_633 hl (k := 13) rfl (by rw [ex161]; rfl) (by decide) rfl (fun ls hl => ?_)
      refine lv_goto (tgt := 381) hx hb dL_built_636 (by decide) ?_
      refine W.widen (k := (cl + 0)) (n := 6 * (cl + 0)) (by omega) (by omega) ?_
      exact hk381 σ160 v1 v2 v4 v6 v8 v10 v12 (1 : Int32) v15 v16 v28 v30 x161 hq (cl + 0) (by omega) H locs hP hS ls (lv_sub hl [2, 3, 4, 5, 6, 7, 8, 9, 1, 10, 11, 12, 13, 0] rfl)
    · have hq := hq.2 hc
      refine lv_aload_n hx hb dL_built_610 rfl (lv_at hl 0 rfl) ?_
      refine lv_iload hx hb dL_built_611 (lv_at hl 8 rfl) ?_
      refine lv_iload hx hb dL_built_613 (lv_at hl 12 rfl) ?_
      refine lv_iconst (v := 2) hx hb dL_built_615 (by decide) ?_
      refine kj_Wl (As := [.ref (ka_a G (22, 0, 0)), .int v15, .int v32, .int (2 : Int32)]) (rest := []) C0 hK hT hN hP hS (fun _ h => h) hl (km0_L_part l hl0 hI hq) kd_L_part kq_609 ⟨rfl, rfl, Nat.le_of_ble_eq_true rfl, Nat.le_of_ble_eq_true rfl⟩ rfl (Nat.le_of_ble_eq_true rfl) dL_built_616 ⟨by show _ ≤ 0; omega, by show _ ≤ 0; omega⟩ (fun r162 σ163 H locs hq hP hkp hS => ?_)
      refine lv_ldc2 hx hb hown (hts _ kq_959) dL_built_619 ?_
      refine kr_cne (tgt := 630) C0 dL_built_622 dL_built_623 (by decide) (fun hc => ?_) (fun hc => ?_)
      · have hq := hq.2 hc
        refine lv_iconst (v := 0) hx hb dL_built_630 (by decide) ?_
        refine lv_istore (lv' := [(14, .int (0 : Int32)), (0, .ref (ka_a G (22, 0, 0))), (1, .int v1), (2, .long v2), (4, .long v4), (6, .long v6), (8, .long v8), (10, .long v10), (12, .long v12), (15, .int v15), (16, .long v16), (28, .long v28), (30, .long v30), (32, .int v32)]) hx hb dL_built_631 hl (by decide) rfl (fun ls hl => ?_)
        obtain ⟨x164, ex164⟩ : ∃ y : Int32, y = v32 + (1 : Int32) := ⟨_, rfl⟩
        have hq := hq x164 ex164
        refine lv_iinc (v := x164) (lv' := [(32, .int x164), (14, .int (0 : Int32)), (0, .ref (ka_a G (22, 0, 0))), (1, .int v1), (2, .long v2), (4, .long v4), (6, .long v6), (8, .long v8), (10, .long v10), (12, .long v12), (15, .int v15), (16, .long v16), (28, .long v28), (30, .long v30)]) hx hb dL_built_633 hl (k := 13) rfl (by rw [ex164]; rfl) (by decide) rfl (fun ls hl => ?_)
        refine lv_goto (tgt := 381) hx hb dL_built_636 (by decide) ?_
        refine W.widen (k := (cl + 0)) (n := 6 * (cl + 0)) (by omega) (by omega) ?_
        exact hk381 σ163 v1 v2 v4 v6 v8 v10 v12 (0 : Int32) v15 v16 v28 v30 x164 hq (cl + 0) (by omega) H locs hP hS ls (lv_sub hl [2, 3, 4, 5, 6, 7, 8, 9, 1, 10, 11, 12, 13, 0] rfl)
      · have hq := hq.1 hc
        refine lv_iconst (v := 1) hx hb dL_built_626 (by decide) ?_
        refine lv_goto (tgt := 631) hx hb dL_built_627 (by decide) ?_
        refine lv_istore (lv' := [(14, .int (1 : Int32)), (0, .ref (ka_a G (22, 0, 0))), (1, .int v1), (2, .long v2), (4, .long v4), (6, .long v6), (8, .long v8), (10, .long v10), (12, .long v12), (15, .int v15), (16, .long v16), (28, .long v28), (30, .long v30), (32, .int v32)]) hx hb dL_built_631 hl (by decide) rfl (fun ls hl => ?_)
        obtain ⟨x165, ex165⟩ : ∃ y : Int32, y = v32 + (1 : Int32) := ⟨_, rfl⟩
        have hq := hq x165 ex165
        refine lv_iinc (v := x165) (lv' := [(32, .int x165), (14, .int (1 : Int32)), (0, .ref (ka_a G (22, 0, 0))), (1, .int v1), (2, .long v2), (4, .long v4), (6, .long v6), (8, .long v8), (10, .long v10), (12, .long v12), (15, .int v15), (16, .long v16), (28, .long v28), (30, .long v30)]) hx hb dL_built_633 hl (k := 13) rfl (by rw [ex165]; rfl) (by decide) rfl (fun ls hl => ?_)
        refine lv_goto (tgt := 381) hx hb dL_built_636 (by decide) ?_
        refine W.widen (k := (cl + 0)) (n := 6 * (cl + 0)) (by omega) (by omega) ?_
        exact hk381 σ163 v1 v2 v4 v6 v8 v10 v12 (1 : Int32) v15 v16 v28 v30 x165 hq (cl + 0) (by omega) H locs hP hS ls (lv_sub hl [2, 3, 4, 5, 6, 7, 8, 9, 1, 10, 11, 12, 13, 0] rfl)
  · have hq := hq.1 hc
    refine lv_aload_n hx hb dL_built_575 rfl (lv_at hl 0 rfl) ?_
    refine lv_iload hx hb dL_built_576 (lv_at hl 8 rfl) ?_
    refine lv_iload hx hb dL_built_578 (lv_at hl 12 rfl) ?_
    refine lv_iconst (v := 2) hx hb dL_built_580 (by decide) ?_
    refine kj_Wl (As := [.ref (ka_a G (22, 0, 0)), .int v15, .int v32, .int (2 : Int32)]) (rest := []) C0 hK hT hN hP hS (fun _ h => h) hl (km0_L_part l hl0 hI hq) kd_L_part kq_609 ⟨rfl, rfl, Nat.le_of_ble_eq_true rfl, Nat.le_of_ble_eq_true rfl⟩ rfl (Nat.le_of_ble_eq_true rfl) dL_built_581 ⟨by show _ ≤ 0; omega, by show _ ≤ 0; omega⟩ (fun r166 σ167 H locs hq hP hkp hS => ?_)
    refine lv_ldc2 hx hb hown (hts _ kq_957) dL_built_584 ?_
    refine kr_cne (tgt := 630) C0 dL_built_587 dL_built_588 (by decide) (fun hc => ?_) (fun hc => ?_)
    · have hq := hq.2 hc
      refine lv_iconst (v := 0) hx hb dL_built_630 (by decide) ?_
      refine lv_istore (lv' := [(14, .int (0 : Int32)), (0, .ref (ka_a G (22, 0, 0))), (1, .int v1), (2, .long v2), (4, .long v4), (6, .long v6), (8, .long v8), (10, .long v10), (12, .long v12), (15, .int v15), (16, .long v16), (28, .long v28), (30, .long v30), (32, .int v32)]) hx hb dL_built_631 hl (by decide) rfl (fun ls hl => ?_)
      obtain ⟨x168, ex168⟩ : ∃ y : Int32, y = v32 + (1 : Int32) := ⟨_, rfl⟩
      have hq := hq x168 ex168
      refine lv_iinc (v := x168) (lv' := [(32, .int x168), (14, .int (0 : Int32)), (0, .ref (ka_a G (22, 0, 0))), (1, .int v1), (2, .long v2), (4, .long v4), (6, .long v6), (8, .long v8), (10, .long v10), (12, .long v12), (15, .int v15), (16, .long v16), (28, .long v28), (30, .long v30)]) hx hb dL_built_633 hl (k := 13) rfl (by rw [ex168]; rfl) (by decide) rfl (fun ls hl => ?_)
      refine lv_goto (tgt := 381) hx hb dL_built_636 (by decide) ?_
      refine W.widen (k := (cl + 0)) (n := 6 * (cl + 0)) (by omega) (by omega) ?_
      exact hk381 σ167 v1 v2 v4 v6 v8 v10 v12 (0 : Int32) v15 v16 v28 v30 x168 hq (cl + 0) (by omega) H locs hP hS ls (lv_sub hl [2, 3, 4, 5, 6, 7, 8, 9, 1, 10, 11, 12, 13, 0] rfl)
    · have hq := hq.1 hc
      refine lv_goto (tgt := 626) hx hb dL_built_591 (by decide) ?_
      refine lv_iconst (v := 1) hx hb dL_built_626 (by decide) ?_
      refine lv_goto (tgt := 631) hx hb dL_built_627 (by decide) ?_
      refine lv_istore (lv' := [(14, .int (1 : Int32)), (0, .ref (ka_a G (22, 0, 0))), (1, .int v1), (2, .long v2), (4, .long v4), (6, .long v6), (8, .long v8), (10, .long v10), (12, .long v12), (15, .int v15), (16, .long v16), (28, .long v28), (30, .long v30), (32, .int v32)]) hx hb dL_built_631 hl (by decide) rfl (fun ls hl => ?_)
      obtain ⟨x169, ex169⟩ : ∃ y : Int32, y = v32 + (1 : Int32) := ⟨_, rfl⟩
      have hq := hq x169 ex169
      refine lv_iinc (v := x169) (lv' := [(32, .int x169), (14, .int (1 : Int32)), (0, .ref (ka_a G (22, 0, 0))), (1, .int v1), (2, .long v2), (4, .long v4), (6, .long v6), (8, .long v8), (10, .long v10), (12, .long v12), (15, .int v15), (16, .long v16), (28, .long v28), (30, .long v30)]) hx hb dL_built_633 hl (k := 13) rfl (by rw [ex169]; rfl) (by decide) rfl (fun ls hl => ?_)
      refine lv_goto (tgt := 381) hx hb dL_built_636 (by decide) ?_
      refine W.widen (k := (cl + 0)) (n := 6 * (cl + 0)) (by omega) (by omega) ?_
      exact hk381 σ167 v1 v2 v4 v6 v8 v10 v12 (1 : Int32) v15 v16 v28 v30 x169 hq (cl + 0) (by omega) H locs hP hS ls (lv_sub hl [2, 3, 4, 5, 6, 7, 8, 9, 1, 10, 11, 12, 13, 0] rfl)
def kw_L_built_524 (K38 : ka_S → Int32 → Int64 → Int64 → Int64 → Int64 → Int64 → Int64 → Int32 → Int32 → Prop) (K381 : ka_S → Int32 → Int64 → Int64 → Int64 → Int64 → Int64 → Int64 → Int32 → Int32 → Int64 → Int64 → Int64 → Int32 → Prop) (Q : Int32 → ka_S → Prop) (σ : ka_S) (v1 : Int32) (v2 : Int64) (v4 : Int64) (v6 : Int64) (v8 : Int64) (v10 : Int64) (v12 : Int64) (v15 : Int32) (v16 : Int64) (v28 : Int64) (v30 : Int64) (v32 : Int32) : Prop := kw0_L_part σ v15 v32 (3 : Int32) (fun r150 σ151 =>
  (r150 = (-9 : Int64) → kw_L_built_570 K38 K381 Q σ151 v1 v2 v4 v6 v8 v10 v12 v15 v16 v28 v30 v32) ∧
  (¬ r150 = (-9 : Int64) → kw0_L_part σ151 v15 v32 (3 : Int32) (fun r152 σ153 =>
    kw0_L_entry σ153 r152.toInt32 (0 : Int32) (0 : Int32) (fun r154 σ155 =>
    kw0_L_letter σ155 v15 v32 (0 : Int32) (0 : Int32) (fun r156 σ157 =>
    (r154 = r156 → kw_L_built_570 K38 K381 Q σ157 v1 v2 v4 v6 v8 v10 v12 v15 v16 v28 v30 v32) ∧
    (¬ r154 = r156 → ∀ x158 : Int32, x158 = v32 + (1 : Int32) →
      K381 σ157 v1 v2 v4 v6 v8 v10 v12 (0 : Int32) v15 v16 v28 v30 x158))))))
set_option maxHeartbeats 4000000 in
set_option maxRecDepth 100000 in
theorem kb_L_built_524 {p : Program} {l : Launch} {e : Env} {s : State} {m : MethodId} {below : List Frame} {meth : Method} {c : Code} {G : ka_G} {args : Array Value} (hl0 : l.stackTraces = false) (hI : ka_I G) (C0 : ka_C p s m args meth c cL_built 37 "GlossRowsLaw" (some .boolean)) (hK : ka_Kn G s) (hT : ka_T9 (ka_A G) s) (hN : kl_Nc s) {Q : Int32 → ka_S → Prop} {K38 : ka_S → Int32 → Int64 → Int64 → Int64 → Int64 → Int64 → Int64 → Int32 → Int32 → Prop} {R38 : Nat} {K381 : ka_S → Int32 → Int64 → Int64 → Int64 → Int64 → Int64 → Int64 → Int32 → Int32 → Int64 → Int64 → Int64 → Int32 → Prop} {R381 : Nat} (hk38 : ∀ (σ : ka_S) (v1 : Int32) (v2 : Int64) (v4 : Int64) (v6 : Int64) (v8 : Int64) (v10 : Int64) (v12 : Int64) (v14 : Int32) (v15 : Int32), K38 σ v1 v2 v4 v6 v8 v10 v12 v14 v15 → ∀ (cl : Nat), cl + R38 ≤ 0 → ∀ (H : Heap) (locs : List Loc), ka_P G σ H → va_S (ka_A G) s.heap H locs → ∀ ls : Array Slot, lv_has ls 37 [(0, .ref (ka_a G (22, 0, 0))), (1, .int v1), (2, .long v2), (4, .long v4), (6, .long v6), (8, .long v8), (10, .long v10), (12, .long v12), (14, .int v14), (15, .int v15)] → W p l e rm_L_built s m args below meth c H locs cl (6 * cl) (MQ below (va_Qi Q (ka_B G) (ka_A G)) args s 0 0 (ka_A G)) (F0 m 38 ls [])) (hk381 : ∀ (σ : ka_S) (v1 : Int32) (v2 : Int64) (v4 : Int64) (v6 : Int64) (v8 : Int64) (v10 : Int64) (v12 : Int64) (v14 : Int32) (v15 : Int32) (v16 : Int64) (v28 : Int64) (v30 : Int64) (v32 : Int32), K381 σ v1 v2 v4 v6 v8 v10 v12 v14 v15 v16 v28 v30 v32 → ∀ (cl : Nat), cl + R381 ≤ 0 → ∀ (H : Heap) (locs : List Loc), ka_P G σ H → va_S (ka_A G) s.heap H locs → ∀ ls : Array Slot, lv_has ls 37 [(0, .ref (ka_a G (22, 0, 0))), (1, .int v1), (2, .long v2), (4, .long v4), (6, .long v6), (8, .long v8), (10, .long v10), (12, .long v12), (14, .int v14), (15, .int v15), (16, .long v16), (28, .long v28), (30, .long v30), (32, .int v32)] → W p l e rm_L_built s m args below meth c H locs cl (6 * cl) (MQ below (va_Qi Q (ka_B G) (ka_A G)) args s 0 0 (ka_A G)) (F0 m 381 ls [])) : ∀ (σ : ka_S) (v1 : Int32) (v2 : Int64) (v4 : Int64) (v6 : Int64) (v8 : Int64) (v10 : Int64) (v12 : Int64) (v15 : Int32) (v16 : Int64) (v28 : Int64) (v30 : Int64) (v32 : Int32), kw_L_built_524 K38 K381 Q σ v1 v2 v4 v6 v8 v10 v12 v15 v16 v28 v30 v32 → ∀ (cl : Nat), cl + 0 + R381 ≤ 0 → ∀ (H : Heap) (locs : List Loc), ka_P G σ H → va_S (ka_A G) s.heap H locs → ∀ ls : Array Slot, lv_has ls 37 [(0, .ref (ka_a G (22, 0, 0))), (1, .int v1), (2, .long v2), (4, .long v4), (6, .long v6), (8, .long v8), (10, .long v10), (12, .long v12), (15, .int v15), (16, .long v16), (28, .long v28), (30, .long v30), (32, .int v32)] → W p l e rm_L_built s m args below meth c H locs cl (6 * cl) (MQ below (va_Qi Q (ka_B G) (ka_A G)) args s 0 0 (ka_A G)) (F0 m 524 ls []) := by
  obtain ⟨hx, hb, -, hml, hown, hts, -⟩ := id C0
  intro σ v1 v2 v4 v6 v8 v10 v12 v15 v16 v28 v30 v32 hq cl hcl H locs hP hS ls hl
  unfold kw_L_built_524 at hq
  refine lv_aload_n hx hb dL_built_524 rfl (lv_at hl 0 rfl) ?_
  refine lv_iload hx hb dL_built_525 (lv_at hl 8 rfl) ?_
  refine lv_iload hx hb dL_built_527 (lv_at hl 12 rfl) ?_
  refine lv_iconst (v := 3) hx hb dL_built_529 (by decide) ?_
  refine kj_Wl (As := [.ref (ka_a G (22, 0, 0)), .int v15, .int v32, .int (3 : Int32)]) (rest := []) C0 hK hT hN hP hS (fun _ h => h) hl (km0_L_part l hl0 hI hq) kd_L_part kq_609 ⟨rfl, rfl, Nat.le_of_ble_eq_true rfl, Nat.le_of_ble_eq_true rfl⟩ rfl (Nat.le_of_ble_eq_true rfl) dL_built_530 ⟨by show _ ≤ 0; omega, by show _ ≤ 0; omega⟩ (fun r150 σ151 H locs hq hP hkp hS => ?_)
  refine lv_ldc2 hx hb hown (hts _ kq_957) dL_built_533 ?_
  refine kr_ceq (tgt := 570) C0 dL_built_536 dL_built_537 (by decide) (fun hc => ?_) (fun hc => ?_)
  · have hq := hq.1 hc
    refine W.widen (k := (cl + 0)) (n := 6 * (cl + 0)) (by omega) (by omega) ?_
    exact kb_L_built_570 (R38 := R38) (R381 := R381) hl0 hI C0 hK hT hN hk38 hk381 σ151 v1 v2 v4 v6 v8 v10 v12 v15 v16 v28 v30 v32 hq (cl + 0) (by omega) H locs hP hS ls (lv_sub hl [0, 1, 2, 3, 4, 5, 6, 7, 8, 9, 10, 11, 12] rfl)
  · have hq := hq.2 hc
    refine lv_aload_n hx hb dL_built_540 rfl (lv_at hl 0 rfl) ?_
    refine lv_aload_n hx hb dL_built_541 rfl (lv_at hl 0 rfl) ?_
    refine lv_iload hx hb dL_built_542 (lv_at hl 8 rfl) ?_
    refine lv_iload hx hb dL_built_544 (lv_at hl 12 rfl) ?_
    refine lv_iconst (v := 3) hx hb dL_built_546 (by decide) ?_
    refine kj_Wl (As := [.ref (ka_a G (22, 0, 0)), .int v15, .int v32, .int (3 : Int32)]) (rest := [.ref (ka_a G (22, 0, 0))]) C0 hK hT hN hP hS (fun _ h => h) hl (km0_L_part l hl0 hI hq) kd_L_part kq_609 ⟨rfl, rfl, Nat.le_of_ble_eq_true rfl, Nat.le_of_ble_eq_true rfl⟩ rfl (Nat.le_of_ble_eq_true rfl) dL_built_547 ⟨by show _ ≤ 0; omega, by show _ ≤ 0; omega⟩ (fun r152 σ153 H locs hq hP hkp hS => ?_)
    refine lv_l2i hx hb dL_built_550 rfl ?_
    refine lv_iconst (v := 0) hx hb dL_built_551 (by decide) ?_
    refine lv_iconst (v := 0) hx hb dL_built_552 (by decide) ?_
    refine kj_Wl (As := [.ref (ka_a G (22, 0, 0)), .int r152.toInt32, .int (0 : Int32), .int (0 : Int32)]) (rest := []) C0 hK hT hN hP hS (fun _ h => h) hl (km0_L_entry l hl0 hI hq) kd_L_entry kq_620 ⟨rfl, rfl, Nat.le_of_ble_eq_true rfl, Nat.le_of_ble_eq_true rfl⟩ rfl (Nat.le_of_ble_eq_true rfl) dL_built_553 ⟨by show _ ≤ 0; omega, by show _ ≤ 0; omega⟩ (fun r154 σ155 H locs hq hP hkp hS => ?_)
    refine lv_aload_n hx hb dL_built_556 rfl (lv_at hl 0 rfl) ?_
    refine lv_iload hx hb dL_built_557 (lv_at hl 8 rfl) ?_
    refine lv_iload hx hb dL_built_559 (lv_at hl 12 rfl) ?_
    refine lv_iconst (v := 0) hx hb dL_built_561 (by decide) ?_
    refine lv_iconst (v := 0) hx hb dL_built_562 (by decide) ?_
    refine kj_Wl (As := [.ref (ka_a G (22, 0, 0)), .int v15, .int v32, .int (0 : Int32), .int (0 : Int32)]) (rest := [.long r154]) C0 hK hT hN hP hS (fun _ h => h) hl (km0_L_letter l hl0 hI hq) kd_L_letter kq_582 ⟨rfl, rfl, Nat.le_of_ble_eq_true rfl, Nat.le_of_ble_eq_true rfl⟩ rfl (Nat.le_of_ble_eq_true rfl) dL_built_563 ⟨by show _ ≤ 0; omega, by show _ ≤ 0; omega⟩ (fun r156 σ157 H locs hq hP hkp hS => ?_)
    refine kr_cne (tgt := 630) C0 dL_built_566 dL_built_567 (by decide) (fun hc => ?_) (fun hc => ?_)
    · have hq := hq.2 hc
      refine lv_iconst (v := 0) hx hb dL_built_630 (by decide) ?_
      refine lv_istore (lv' := [(14, .int (0 : Int32)), (0, .ref (ka_a G (22, 0, 0))), (1, .int v1), (2, .long v2), (4, .long v4), (6, .long v6), (8, .long v8), (10, .long v10), (12, .long v12), (15, .int v15), (16, .long v16), (28, .long v28), (30, .long v30), (32, .int v32)]) hx hb dL_built_631 hl (by decide) rfl (fun ls hl => ?_)
      obtain ⟨x158, ex158⟩ : ∃ y : Int32, y = v32 + (1 : Int32) := ⟨_, rfl⟩
      have hq := hq x158 ex158
      refine lv_iinc (v := x158) (lv' := [(32, .int x158), (14, .int (0 : Int32)), (0, .ref (ka_a G (22, 0, 0))), (1, .int v1), (2, .long v2), (4, .long v4), (6, .long v6), (8, .long v8), (10, .long v10), (12, .long v12), (15, .int v15), (16, .long v16), (28, .long v28), (30, .long v30)]) hx hb dL_built_633 hl (k := 13) rfl (by rw [ex158]; rfl) (by decide) rfl (fun ls hl => ?_)
      refine lv_goto (tgt := 381) hx hb dL_built_636 (by decide) ?_
      refine W.widen (k := (cl + 0)) (n := 6 * (cl + 0)) (by omega) (by omega) ?_
      exact hk381 σ157 v1 v2 v4 v6 v8 v10 v12 (0 : Int32) v15 v16 v28 v30 x158 hq (cl + 0) (by omega) H locs hP hS ls (lv_sub hl [2, 3, 4, 5, 6, 7, 8, 9, 1, 10, 11, 12, 13, 0] rfl)
    · have hq := hq.1 hc
      refine W.widen (k := (cl + 0)) (n := 6 * (cl + 0)) (by omega) (by omega) ?_
      exact kb_L_built_570 (R38 := R38) (R381 := R381) hl0 hI C0 hK hT hN hk38 hk381 σ157 v1 v2 v4 v6 v8 v10 v12 v15 v16 v28 v30 v32 hq (cl + 0) (by omega) H locs hP hS ls (lv_sub hl [0, 1, 2, 3, 4, 5, 6, 7, 8, 9, 10, 11, 12] rfl)
def kw_L_built_639 (K38 : ka_S → Int32 → Int64 → Int64 → Int64 → Int64 → Int64 → Int64 → Int32 → Int32 → Prop) (Q : Int32 → ka_S → Prop) (σ : ka_S) (v1 : Int32) (v2 : Int64) (v4 : Int64) (v6 : Int64) (v8 : Int64) (v10 : Int64) (v12 : Int64) (v14 : Int32) (v15 : Int32) (v16 : Int64) (v28 : Int64) (v30 : Int64) : Prop := (v14 = (0 : Int32) → ∀ x146 : Int32, x146 = v15 + (1 : Int32) →
    K38 σ v1 v2 v4 v6 v8 v10 v12 (0 : Int32) x146) ∧
  (¬ v14 = (0 : Int32) → (v16 < v28 → ∀ x147 : Int32, x147 = v15 + (1 : Int32) →
      K38 σ v1 v2 v4 v6 v8 v10 v12 (0 : Int32) x147) ∧
    (¬ v16 < v28 → (v30 < v16 → ∀ x148 : Int32, x148 = v15 + (1 : Int32) →
        K38 σ v1 v2 v4 v6 v8 v10 v12 (0 : Int32) x148) ∧
      (¬ v30 < v16 → ∀ x149 : Int32, x149 = v15 + (1 : Int32) →
        K38 σ v1 v2 v4 v6 v8 v10 v12 (1 : Int32) x149)))
set_option maxHeartbeats 4000000 in
set_option maxRecDepth 100000 in
theorem kb_L_built_639 {p : Program} {l : Launch} {e : Env} {s : State} {m : MethodId} {below : List Frame} {meth : Method} {c : Code} {G : ka_G} {args : Array Value} (hl0 : l.stackTraces = false) (hI : ka_I G) (C0 : ka_C p s m args meth c cL_built 37 "GlossRowsLaw" (some .boolean)) (hK : ka_Kn G s) (hT : ka_T9 (ka_A G) s) (hN : kl_Nc s) {Q : Int32 → ka_S → Prop} {K38 : ka_S → Int32 → Int64 → Int64 → Int64 → Int64 → Int64 → Int64 → Int32 → Int32 → Prop} {R38 : Nat} (hk38 : ∀ (σ : ka_S) (v1 : Int32) (v2 : Int64) (v4 : Int64) (v6 : Int64) (v8 : Int64) (v10 : Int64) (v12 : Int64) (v14 : Int32) (v15 : Int32), K38 σ v1 v2 v4 v6 v8 v10 v12 v14 v15 → ∀ (cl : Nat), cl + R38 ≤ 0 → ∀ (H : Heap) (locs : List Loc), ka_P G σ H → va_S (ka_A G) s.heap H locs → ∀ ls : Array Slot, lv_has ls 37 [(0, .ref (ka_a G (22, 0, 0))), (1, .int v1), (2, .long v2), (4, .long v4), (6, .long v6), (8, .long v8), (10, .long v10), (12, .long v12), (14, .int v14), (15, .int v15)] → W p l e rm_L_built s m args below meth c H locs cl (6 * cl) (MQ below (va_Qi Q (ka_B G) (ka_A G)) args s 0 0 (ka_A G)) (F0 m 38 ls [])) : ∀ (σ : ka_S) (v1 : Int32) (v2 : Int64) (v4 : Int64) (v6 : Int64) (v8 : Int64) (v10 : Int64) (v12 : Int64) (v14 : Int32) (v15 : Int32) (v16 : Int64) (v28 : Int64) (v30 : Int64), kw_L_built_639 K38 Q σ v1 v2 v4 v6 v8 v10 v12 v14 v15 v16 v28 v30 → ∀ (cl : Nat), cl + 0 + R38 ≤ 0 → ∀ (H : Heap) (locs : List Loc), ka_P G σ H → va_S (ka_A G) s.heap H locs → ∀ ls : Array Slot, lv_has ls 37 [(0, .ref (ka_a G (22, 0, 0))), (1, .int v1), (2, .long v2), (4, .long v4), (6, .long v6), (8, .long v8), (10, .long v10), (12, .long v12), (14, .int v14), (15, .int v15), (16, .long v16), (28, .long v28), (30, .long v30)] → W p l e rm_L_built s m args below meth c H locs cl (6 * cl) (MQ below (va_Qi Q (ka_B G) (ka_A G)) args s 0 0 (ka_A G)) (F0 m 639 ls []) := by
  obtain ⟨hx, hb, -, hml, hown, hts, -⟩ := id C0
  intro σ v1 v2 v4 v6 v8 v10 v12 v14 v15 v16 v28 v30 hq cl hcl H locs hP hS ls hl
  unfold kw_L_built_639 at hq
  refine lv_iload hx hb dL_built_639 (lv_at hl 8 rfl) ?_
  refine lv_if_eq (tgt := 664) hx hb dL_built_641 (by decide) (fun hc => ?_) (fun hc => ?_)
  · have hq := hq.1 hc
    refine lv_iconst (v := 0) hx hb dL_built_664 (by decide) ?_
    refine lv_istore (lv' := [(14, .int (0 : Int32)), (0, .ref (ka_a G (22, 0, 0))), (1, .int v1), (2, .long v2), (4, .long v4), (6, .long v6), (8, .long v8), (10, .long v10), (12, .long v12), (15, .int v15), (16, .long v16), (28, .long v28), (30, .long v30)]) hx hb dL_built_665 hl (by decide) rfl (fun ls hl => ?_)
    obtain ⟨x146, ex146⟩ : ∃ y : Int32, y = v15 + (1 : Int32) := ⟨_, rfl⟩
    have hq := hq x146 ex146
    refine lv_iinc (v := x146) (lv' := [(15, .int x146), (14, .int (0 : Int32)), (0, .ref (ka_a G (22, 0, 0))), (1, .int v1), (2, .long v2), (4, .long v4), (6, .long v6), (8, .long v8), (10, .long v10), (12, .long v12), (16, .long v16), (28, .long v28), (30, .long v30)]) hx hb dL_built_667 hl (k := 9) rfl (by rw [ex146]; rfl) (by decide) rfl (fun ls hl => ?_)
    refine lv_goto (tgt := 38) hx hb dL_built_670 (by decide) ?_
    refine W.widen (k := (cl + 0)) (n := 6 * (cl + 0)) (by omega) (by omega) ?_
    exact hk38 σ v1 v2 v4 v6 v8 v10 v12 (0 : Int32) x146 hq (cl + 0) (by omega) H locs hP hS ls (lv_sub hl [2, 3, 4, 5, 6, 7, 8, 9, 1, 0] rfl)
  · have hq := hq.2 hc
    refine lv_lload hx hb dL_built_644 (lv_at hl 10 rfl) ?_
    refine lv_lload hx hb dL_built_646 (lv_at hl 11 rfl) ?_
    refine kr_clt (tgt := 664) C0 dL_built_648 dL_built_649 (by decide) (fun hc => ?_) (fun hc => ?_)
    · have hq := hq.1 hc
      refine lv_iconst (v := 0) hx hb dL_built_664 (by decide) ?_
      refine lv_istore (lv' := [(14, .int (0 : Int32)), (0, .ref (ka_a G (22, 0, 0))), (1, .int v1), (2, .long v2), (4, .long v4), (6, .long v6), (8, .long v8), (10, .long v10), (12, .long v12), (15, .int v15), (16, .long v16), (28, .long v28), (30, .long v30)]) hx hb dL_built_665 hl (by decide) rfl (fun ls hl => ?_)
      obtain ⟨x147, ex147⟩ : ∃ y : Int32, y = v15 + (1 : Int32) := ⟨_, rfl⟩
      have hq := hq x147 ex147
      refine lv_iinc (v := x147) (lv' := [(15, .int x147), (14, .int (0 : Int32)), (0, .ref (ka_a G (22, 0, 0))), (1, .int v1), (2, .long v2), (4, .long v4), (6, .long v6), (8, .long v8), (10, .long v10), (12, .long v12), (16, .long v16), (28, .long v28), (30, .long v30)]) hx hb dL_built_667 hl (k := 9) rfl (by rw [ex147]; rfl) (by decide) rfl (fun ls hl => ?_)
      refine lv_goto (tgt := 38) hx hb dL_built_670 (by decide) ?_
      refine W.widen (k := (cl + 0)) (n := 6 * (cl + 0)) (by omega) (by omega) ?_
      exact hk38 σ v1 v2 v4 v6 v8 v10 v12 (0 : Int32) x147 hq (cl + 0) (by omega) H locs hP hS ls (lv_sub hl [2, 3, 4, 5, 6, 7, 8, 9, 1, 0] rfl)
    · have hq := hq.2 hc
      refine lv_lload hx hb dL_built_652 (lv_at hl 10 rfl) ?_
      refine lv_lload hx hb dL_built_654 (lv_at hl 12 rfl) ?_
      refine kr_cgt (tgt := 664) C0 dL_built_656 dL_built_657 (by decide) (fun hc => ?_) (fun hc => ?_)
      · have hq := hq.1 hc
        refine lv_iconst (v := 0) hx hb dL_built_664 (by decide) ?_
        refine lv_istore (lv' := [(14, .int (0 : Int32)), (0, .ref (ka_a G (22, 0, 0))), (1, .int v1), (2, .long v2), (4, .long v4), (6, .long v6), (8, .long v8), (10, .long v10), (12, .long v12), (15, .int v15), (16, .long v16), (28, .long v28), (30, .long v30)]) hx hb dL_built_665 hl (by decide) rfl (fun ls hl => ?_)
        obtain ⟨x148, ex148⟩ : ∃ y : Int32, y = v15 + (1 : Int32) := ⟨_, rfl⟩
        have hq := hq x148 ex148
        refine lv_iinc (v := x148) (lv' := [(15, .int x148), (14, .int (0 : Int32)), (0, .ref (ka_a G (22, 0, 0))), (1, .int v1), (2, .long v2), (4, .long v4), (6, .long v6), (8, .long v8), (10, .long v10), (12, .long v12), (16, .long v16), (28, .long v28), (30, .long v30)]) hx hb dL_built_667 hl (k := 9) rfl (by rw [ex148]; rfl) (by decide) rfl (fun ls hl => ?_)
        refine lv_goto (tgt := 38) hx hb dL_built_670 (by decide) ?_
        refine W.widen (k := (cl + 0)) (n := 6 * (cl + 0)) (by omega) (by omega) ?_
        exact hk38 σ v1 v2 v4 v6 v8 v10 v12 (0 : Int32) x148 hq (cl + 0) (by omega) H locs hP hS ls (lv_sub hl [2, 3, 4, 5, 6, 7, 8, 9, 1, 0] rfl)
      · have hq := hq.2 hc
        refine lv_iconst (v := 1) hx hb dL_built_660 (by decide) ?_
        refine lv_goto (tgt := 665) hx hb dL_built_661 (by decide) ?_
        refine lv_istore (lv' := [(14, .int (1 : Int32)), (0, .ref (ka_a G (22, 0, 0))), (1, .int v1), (2, .long v2), (4, .long v4), (6, .long v6), (8, .long v8), (10, .long v10), (12, .long v12), (15, .int v15), (16, .long v16), (28, .long v28), (30, .long v30)]) hx hb dL_built_665 hl (by decide) rfl (fun ls hl => ?_)
        obtain ⟨x149, ex149⟩ : ∃ y : Int32, y = v15 + (1 : Int32) := ⟨_, rfl⟩
        have hq := hq x149 ex149
        refine lv_iinc (v := x149) (lv' := [(15, .int x149), (14, .int (1 : Int32)), (0, .ref (ka_a G (22, 0, 0))), (1, .int v1), (2, .long v2), (4, .long v4), (6, .long v6), (8, .long v8), (10, .long v10), (12, .long v12), (16, .long v16), (28, .long v28), (30, .long v30)]) hx hb dL_built_667 hl (k := 9) rfl (by rw [ex149]; rfl) (by decide) rfl (fun ls hl => ?_)
        refine lv_goto (tgt := 38) hx hb dL_built_670 (by decide) ?_
        refine W.widen (k := (cl + 0)) (n := 6 * (cl + 0)) (by omega) (by omega) ?_
        exact hk38 σ v1 v2 v4 v6 v8 v10 v12 (1 : Int32) x149 hq (cl + 0) (by omega) H locs hP hS ls (lv_sub hl [2, 3, 4, 5, 6, 7, 8, 9, 1, 0] rfl)
def kw_L_built_381 (K38 : ka_S → Int32 → Int64 → Int64 → Int64 → Int64 → Int64 → Int64 → Int32 → Int32 → Prop) (Q : Int32 → ka_S → Prop) : Nat → ka_S → Int32 → Int64 → Int64 → Int64 → Int64 → Int64 → Int64 → Int32 → Int32 → Int64 → Int64 → Int64 → Int32 → Prop
  | 0, _, _, _, _, _, _, _, _, _, _, _, _, _, _ => False
  | n + 1, σ, v1, v2, v4, v6, v8, v10, v12, v14, v15, v16, v28, v30, v32 => kw0_L_word σ v15 (0 : Int32) (fun r123 σ124 =>
    (r123 ≤ v32.toInt64 → kw_L_built_639 K38 Q σ124 v1 v2 v4 v6 v8 v10 v12 v14 v15 v16 v28 v30) ∧
    (¬ r123 ≤ v32.toInt64 → (v14 = (0 : Int32) → kw_L_built_639 K38 Q σ124 v1 v2 v4 v6 v8 v10 v12 v14 v15 v16 v28 v30) ∧
      (¬ v14 = (0 : Int32) → kw0_L_part σ124 v15 v32 (0 : Int32) (fun r125 σ126 =>
        kw0_L_part σ126 v15 v32 (1 : Int32) (fun r127 σ128 =>
        ∀ x129 : Int64, x129 = (v28 + r125) → 
        ∀ x130 : Int64, x130 = (v30 + ((r125 + r127) + (1 : Int64))) → 
        kw_L_in σ128 r125 (1 : Int64) (8 : Int64) (fun r131 σ132 =>
        (r131 = (0 : Int32) → ∀ x133 : Int32, x133 = v32 + (1 : Int32) →
          (kw_L_built_381 K38 Q n) σ132 v1 v2 v4 v6 v8 v10 v12 (0 : Int32) v15 v16 x129 x130 x133) ∧
        (¬ r131 = (0 : Int32) → kw_L_in σ132 r127 (0 : Int64) (8 : Int64) (fun r134 σ135 =>
          (r134 = (0 : Int32) → ∀ x136 : Int32, x136 = v32 + (1 : Int32) →
            (kw_L_built_381 K38 Q n) σ135 v1 v2 v4 v6 v8 v10 v12 (0 : Int32) v15 v16 x129 x130 x136) ∧
          (¬ r134 = (0 : Int32) → kw0_L_letter σ135 v15 v32 (0 : Int32) r125.toInt32 (fun r137 σ138 =>
            (r137 = (-9 : Int64) → kw0_L_letter σ138 v15 v32 (0 : Int32) (r125.toInt32 - (1 : Int32)) (fun r140 σ141 =>
              (r140 = (-9 : Int64) → ∀ x142 : Int32, x142 = v32 + (1 : Int32) →
                (kw_L_built_381 K38 Q n) σ141 v1 v2 v4 v6 v8 v10 v12 (0 : Int32) v15 v16 x129 x130 x142) ∧
              (¬ r140 = (-9 : Int64) → kw0_L_letter σ141 v15 v32 (1 : Int32) r127.toInt32 (fun r143 σ144 =>
                (r143 = (-9 : Int64) → kw_L_built_524 K38 (kw_L_built_381 K38 Q n) Q σ144 v1 v2 v4 v6 v8 v10 v12 v15 v16 x129 x130 v32) ∧
                (¬ r143 = (-9 : Int64) → ∀ x145 : Int32, x145 = v32 + (1 : Int32) →
                  (kw_L_built_381 K38 Q n) σ144 v1 v2 v4 v6 v8 v10 v12 (0 : Int32) v15 v16 x129 x130 x145))))) ∧
            (¬ r137 = (-9 : Int64) → ∀ x139 : Int32, x139 = v32 + (1 : Int32) →
              (kw_L_built_381 K38 Q n) σ138 v1 v2 v4 v6 v8 v10 v12 (0 : Int32) v15 v16 x129 x130 x139)))))))))))
set_option maxHeartbeats 4000000 in
set_option maxRecDepth 100000 in
theorem kb_L_built_381 {p : Program} {l : Launch} {e : Env} {s : State} {m : MethodId} {below : List Frame} {meth : Method} {c : Code} {G : ka_G} {args : Array Value} (hl0 : l.stackTraces = false) (hI : ka_I G) (C0 : ka_C p s m args meth c cL_built 37 "GlossRowsLaw" (some .boolean)) (hK : ka_Kn G s) (hT : ka_T9 (ka_A G) s) (hN : kl_Nc s) {Q : Int32 → ka_S → Prop} {K38 : ka_S → Int32 → Int64 → Int64 → Int64 → Int64 → Int64 → Int64 → Int32 → Int32 → Prop} {R38 : Nat} (hk38 : ∀ (σ : ka_S) (v1 : Int32) (v2 : Int64) (v4 : Int64) (v6 : Int64) (v8 : Int64) (v10 : Int64) (v12 : Int64) (v14 : Int32) (v15 : Int32), K38 σ v1 v2 v4 v6 v8 v10 v12 v14 v15 → ∀ (cl : Nat), cl + R38 ≤ 0 → ∀ (H : Heap) (locs : List Loc), ka_P G σ H → va_S (ka_A G) s.heap H locs → ∀ ls : Array Slot, lv_has ls 37 [(0, .ref (ka_a G (22, 0, 0))), (1, .int v1), (2, .long v2), (4, .long v4), (6, .long v6), (8, .long v8), (10, .long v10), (12, .long v12), (14, .int v14), (15, .int v15)] → W p l e rm_L_built s m args below meth c H locs cl (6 * cl) (MQ below (va_Qi Q (ka_B G) (ka_A G)) args s 0 0 (ka_A G)) (F0 m 38 ls [])) : ∀ (n : Nat) (σ : ka_S) (v1 : Int32) (v2 : Int64) (v4 : Int64) (v6 : Int64) (v8 : Int64) (v10 : Int64) (v12 : Int64) (v14 : Int32) (v15 : Int32) (v16 : Int64) (v28 : Int64) (v30 : Int64) (v32 : Int32), kw_L_built_381 K38 Q n σ v1 v2 v4 v6 v8 v10 v12 v14 v15 v16 v28 v30 v32 → ∀ (cl : Nat), cl + 0 + R38 ≤ 0 → ∀ (H : Heap) (locs : List Loc), ka_P G σ H → va_S (ka_A G) s.heap H locs → ∀ ls : Array Slot, lv_has ls 37 [(0, .ref (ka_a G (22, 0, 0))), (1, .int v1), (2, .long v2), (4, .long v4), (6, .long v6), (8, .long v8), (10, .long v10), (12, .long v12), (14, .int v14), (15, .int v15), (16, .long v16), (28, .long v28), (30, .long v30), (32, .int v32)] → W p l e rm_L_built s m args below meth c H locs cl (6 * cl) (MQ below (va_Qi Q (ka_B G) (ka_A G)) args s 0 0 (ka_A G)) (F0 m 381 ls []) := by
  obtain ⟨hx, hb, -, hml, hown, hts, -⟩ := id C0
  intro n
  induction n with
  | zero =>
    intro σ v1 v2 v4 v6 v8 v10 v12 v14 v15 v16 v28 v30 v32 hq
    rw [kw_L_built_381] at hq
    exact hq.elim
  | succ n ih =>
    have ih9 : ∀ (σ : ka_S) (v1 : Int32) (v2 : Int64) (v4 : Int64) (v6 : Int64) (v8 : Int64) (v10 : Int64) (v12 : Int64) (v14 : Int32) (v15 : Int32) (v16 : Int64) (v28 : Int64) (v30 : Int64) (v32 : Int32), kw_L_built_381 K38 Q n σ v1 v2 v4 v6 v8 v10 v12 v14 v15 v16 v28 v30 v32 → ∀ (cl : Nat), cl + (0 + R38) ≤ 0 → ∀ (H : Heap) (locs : List Loc), ka_P G σ H → va_S (ka_A G) s.heap H locs → ∀ ls : Array Slot, lv_has ls 37 [(0, .ref (ka_a G (22, 0, 0))), (1, .int v1), (2, .long v2), (4, .long v4), (6, .long v6), (8, .long v8), (10, .long v10), (12, .long v12), (14, .int v14), (15, .int v15), (16, .long v16), (28, .long v28), (30, .long v30), (32, .int v32)] → W p l e rm_L_built s m args below meth c H locs cl (6 * cl) (MQ below (va_Qi Q (ka_B G) (ka_A G)) args s 0 0 (ka_A G)) (F0 m 381 ls []) := fun σ v1 v2 v4 v6 v8 v10 v12 v14 v15 v16 v28 v30 v32 hq cl h9 => ih σ v1 v2 v4 v6 v8 v10 v12 v14 v15 v16 v28 v30 v32 hq cl (by omega)
    intro σ v1 v2 v4 v6 v8 v10 v12 v14 v15 v16 v28 v30 v32 hq cl hcl H locs hP hS ls hl
    rw [kw_L_built_381] at hq
    refine lv_iload hx hb dL_built_381 (lv_at hl 13 rfl) ?_
    refine lv_i2l hx hb dL_built_383 rfl ?_
    refine lv_aload_n hx hb dL_built_384 rfl (lv_at hl 0 rfl) ?_
    refine lv_iload hx hb dL_built_385 (lv_at hl 9 rfl) ?_
    refine lv_iconst (v := 0) hx hb dL_built_387 (by decide) ?_
    refine kj_Wl (As := [.ref (ka_a G (22, 0, 0)), .int v15, .int (0 : Int32)]) (rest := [.long v32.toInt64]) C0 hK hT hN hP hS (fun _ h => h) hl (km0_L_word l hl0 hI hq) kd_L_word kq_563 ⟨rfl, rfl, Nat.le_of_ble_eq_true rfl, Nat.le_of_ble_eq_true rfl⟩ rfl (Nat.le_of_ble_eq_true rfl) dL_built_388 ⟨by show _ ≤ 0; omega, by show _ ≤ 0; omega⟩ (fun r123 σ124 H locs hq hP hkp hS => ?_)
    refine kr_cge (tgt := 639) C0 dL_built_391 dL_built_392 (by decide) (fun hc => ?_) (fun hc => ?_)
    · have hq := hq.1 hc
      refine W.widen (k := (cl + 0)) (n := 6 * (cl + 0)) (by omega) (by omega) ?_
      exact kb_L_built_639 (R38 := R38) hl0 hI C0 hK hT hN hk38 σ124 v1 v2 v4 v6 v8 v10 v12 v14 v15 v16 v28 v30 hq (cl + 0) (by omega) H locs hP hS ls (lv_sub hl [0, 1, 2, 3, 4, 5, 6, 7, 8, 9, 10, 11, 12] rfl)
    · have hq := hq.2 hc
      refine lv_iload hx hb dL_built_395 (lv_at hl 8 rfl) ?_
      refine lv_if_eq (tgt := 639) hx hb dL_built_397 (by decide) (fun hc => ?_) (fun hc => ?_)
      · have hq := hq.1 hc
        refine W.widen (k := (cl + 0)) (n := 6 * (cl + 0)) (by omega) (by omega) ?_
        exact kb_L_built_639 (R38 := R38) hl0 hI C0 hK hT hN hk38 σ124 v1 v2 v4 v6 v8 v10 v12 v14 v15 v16 v28 v30 hq (cl + 0) (by omega) H locs hP hS ls (lv_sub hl [0, 1, 2, 3, 4, 5, 6, 7, 8, 9, 10, 11, 12] rfl)
      · have hq := hq.2 hc
        refine lv_aload_n hx hb dL_built_400 rfl (lv_at hl 0 rfl) ?_
        refine lv_iload hx hb dL_built_401 (lv_at hl 9 rfl) ?_
        refine lv_iload hx hb dL_built_403 (lv_at hl 13 rfl) ?_
        refine lv_iconst (v := 0) hx hb dL_built_405 (by decide) ?_
        refine kj_Wl (As := [.ref (ka_a G (22, 0, 0)), .int v15, .int v32, .int (0 : Int32)]) (rest := []) C0 hK hT hN hP hS (fun _ h => h) hl (km0_L_part l hl0 hI hq) kd_L_part kq_609 ⟨rfl, rfl, Nat.le_of_ble_eq_true rfl, Nat.le_of_ble_eq_true rfl⟩ rfl (Nat.le_of_ble_eq_true rfl) dL_built_406 ⟨by show _ ≤ 0; omega, by show _ ≤ 0; omega⟩ (fun r125 σ126 H locs hq hP hkp hS => ?_)
        refine lv_lstore (lv' := [(33, .long r125), (0, .ref (ka_a G (22, 0, 0))), (1, .int v1), (2, .long v2), (4, .long v4), (6, .long v6), (8, .long v8), (10, .long v10), (12, .long v12), (14, .int v14), (15, .int v15), (16, .long v16), (28, .long v28), (30, .long v30), (32, .int v32)]) hx hb dL_built_409 hl (by decide) rfl (fun ls hl => ?_)
        refine lv_aload_n hx hb dL_built_411 rfl (lv_at hl 1 rfl) ?_
        refine lv_iload hx hb dL_built_412 (lv_at hl 10 rfl) ?_
        refine lv_iload hx hb dL_built_414 (lv_at hl 14 rfl) ?_
        refine lv_iconst (v := 1) hx hb dL_built_416 (by decide) ?_
        refine kj_Wl (As := [.ref (ka_a G (22, 0, 0)), .int v15, .int v32, .int (1 : Int32)]) (rest := []) C0 hK hT hN hP hS (fun _ h => h) hl (km0_L_part l hl0 hI hq) kd_L_part kq_609 ⟨rfl, rfl, Nat.le_of_ble_eq_true rfl, Nat.le_of_ble_eq_true rfl⟩ rfl (Nat.le_of_ble_eq_true rfl) dL_built_417 ⟨by show _ ≤ 0; omega, by show _ ≤ 0; omega⟩ (fun r127 σ128 H locs hq hP hkp hS => ?_)
        refine lv_lstore (lv' := [(35, .long r127), (33, .long r125), (0, .ref (ka_a G (22, 0, 0))), (1, .int v1), (2, .long v2), (4, .long v4), (6, .long v6), (8, .long v8), (10, .long v10), (12, .long v12), (14, .int v14), (15, .int v15), (16, .long v16), (28, .long v28), (30, .long v30), (32, .int v32)]) hx hb dL_built_420 hl (by decide) rfl (fun ls hl => ?_)
        refine lv_lload hx hb dL_built_422 (lv_at hl 13 rfl) ?_
        refine lv_lload hx hb dL_built_424 (lv_at hl 1 rfl) ?_
        refine lv_ladd hx hb dL_built_426 ?_
        refine lv_topl (fun x129 ex129 => ?_)
        have hq := hq x129 ex129
        refine lv_lstore (lv' := [(28, .long x129), (35, .long r127), (33, .long r125), (0, .ref (ka_a G (22, 0, 0))), (1, .int v1), (2, .long v2), (4, .long v4), (6, .long v6), (8, .long v8), (10, .long v10), (12, .long v12), (14, .int v14), (15, .int v15), (16, .long v16), (30, .long v30), (32, .int v32)]) hx hb dL_built_427 hl (by decide) rfl (fun ls hl => ?_)
        refine lv_lload hx hb dL_built_429 (lv_at hl 14 rfl) ?_
        refine lv_lload hx hb dL_built_431 (lv_at hl 2 rfl) ?_
        refine lv_lload hx hb dL_built_433 (lv_at hl 1 rfl) ?_
        refine lv_ladd hx hb dL_built_435 ?_
        refine lv_lconst (v := 1) hx hb dL_built_436 (by decide) ?_
        refine lv_ladd hx hb dL_built_437 ?_
        refine lv_ladd hx hb dL_built_438 ?_
        refine lv_topl (fun x130 ex130 => ?_)
        have hq := hq x130 ex130
        refine lv_lstore (lv' := [(30, .long x130), (28, .long x129), (35, .long r127), (33, .long r125), (0, .ref (ka_a G (22, 0, 0))), (1, .int v1), (2, .long v2), (4, .long v4), (6, .long v6), (8, .long v8), (10, .long v10), (12, .long v12), (14, .int v14), (15, .int v15), (16, .long v16), (32, .int v32)]) hx hb dL_built_439 hl (by decide) rfl (fun ls hl => ?_)
        refine lv_lload hx hb dL_built_441 (lv_at hl 3 rfl) ?_
        refine lv_lconst (v := 1) hx hb dL_built_443 (by decide) ?_
        refine lv_ldc2 hx hb hown (hts _ kq_953) dL_built_444 ?_
        refine kr_Si (As := [.long r125, .long (1 : Int64), .long (8 : Int64)]) (rest := []) C0 hK hP hS hl (km_L_in l hI hq) kd_L_in kq_954 ⟨rfl, rfl, Nat.le_of_ble_eq_true rfl, Nat.le_of_ble_eq_true rfl⟩ rfl (Nat.le_of_ble_eq_true rfl) dL_built_447 ⟨by show _ ≤ 0; omega, by show _ ≤ 0; omega⟩ (fun r131 σ132 H locs hq hP hS => ?_)
        refine lv_if_eq (tgt := 630) hx hb dL_built_450 (by decide) (fun hc => ?_) (fun hc => ?_)
        · have hq := hq.1 hc
          refine lv_iconst (v := 0) hx hb dL_built_630 (by decide) ?_
          refine lv_istore (lv' := [(14, .int (0 : Int32)), (30, .long x130), (28, .long x129), (35, .long r127), (33, .long r125), (0, .ref (ka_a G (22, 0, 0))), (1, .int v1), (2, .long v2), (4, .long v4), (6, .long v6), (8, .long v8), (10, .long v10), (12, .long v12), (15, .int v15), (16, .long v16), (32, .int v32)]) hx hb dL_built_631 hl (by decide) rfl (fun ls hl => ?_)
          obtain ⟨x133, ex133⟩ : ∃ y : Int32, y = v32 + (1 : Int32) := ⟨_, rfl⟩
          have hq := hq x133 ex133
          refine lv_iinc (v := x133) (lv' := [(32, .int x133), (14, .int (0 : Int32)), (30, .long x130), (28, .long x129), (35, .long r127), (33, .long r125), (0, .ref (ka_a G (22, 0, 0))), (1, .int v1), (2, .long v2), (4, .long v4), (6, .long v6), (8, .long v8), (10, .long v10), (12, .long v12), (15, .int v15), (16, .long v16)]) hx hb dL_built_633 hl (k := 15) rfl (by rw [ex133]; rfl) (by decide) rfl (fun ls hl => ?_)
          refine lv_goto (tgt := 381) hx hb dL_built_636 (by decide) ?_
          refine W.widen (k := (cl + 0)) (n := 6 * (cl + 0)) (by omega) (by omega) ?_
          exact ih9 σ132 v1 v2 v4 v6 v8 v10 v12 (0 : Int32) v15 v16 x129 x130 x133 hq (cl + 0) (by omega) H locs hP hS ls (lv_sub hl [6, 7, 8, 9, 10, 11, 12, 13, 1, 14, 15, 3, 2, 0] rfl)
        · have hq := hq.2 hc
          refine lv_lload hx hb dL_built_453 (lv_at hl 2 rfl) ?_
          refine lv_lconst (v := 0) hx hb dL_built_455 (by decide) ?_
          refine lv_ldc2 hx hb hown (hts _ kq_953) dL_built_456 ?_
          refine kr_Si (As := [.long r127, .long (0 : Int64), .long (8 : Int64)]) (rest := []) C0 hK hP hS hl (km_L_in l hI hq) kd_L_in kq_954 ⟨rfl, rfl, Nat.le_of_ble_eq_true rfl, Nat.le_of_ble_eq_true rfl⟩ rfl (Nat.le_of_ble_eq_true rfl) dL_built_459 ⟨by show _ ≤ 0; omega, by show _ ≤ 0; omega⟩ (fun r134 σ135 H locs hq hP hS => ?_)
          refine lv_if_eq (tgt := 630) hx hb dL_built_462 (by decide) (fun hc => ?_) (fun hc => ?_)
          · have hq := hq.1 hc
            refine lv_iconst (v := 0) hx hb dL_built_630 (by decide) ?_
            refine lv_istore (lv' := [(14, .int (0 : Int32)), (30, .long x130), (28, .long x129), (35, .long r127), (33, .long r125), (0, .ref (ka_a G (22, 0, 0))), (1, .int v1), (2, .long v2), (4, .long v4), (6, .long v6), (8, .long v8), (10, .long v10), (12, .long v12), (15, .int v15), (16, .long v16), (32, .int v32)]) hx hb dL_built_631 hl (by decide) rfl (fun ls hl => ?_)
            obtain ⟨x136, ex136⟩ : ∃ y : Int32, y = v32 + (1 : Int32) := ⟨_, rfl⟩
            have hq := hq x136 ex136
            refine lv_iinc (v := x136) (lv' := [(32, .int x136), (14, .int (0 : Int32)), (30, .long x130), (28, .long x129), (35, .long r127), (33, .long r125), (0, .ref (ka_a G (22, 0, 0))), (1, .int v1), (2, .long v2), (4, .long v4), (6, .long v6), (8, .long v8), (10, .long v10), (12, .long v12), (15, .int v15), (16, .long v16)]) hx hb dL_built_633 hl (k := 15) rfl (by rw [ex136]; rfl) (by decide) rfl (fun ls hl => ?_)
            refine lv_goto (tgt := 381) hx hb dL_built_636 (by decide) ?_
            refine W.widen (k := (cl + 0)) (n := 6 * (cl + 0)) (by omega) (by omega) ?_
            exact ih9 σ135 v1 v2 v4 v6 v8 v10 v12 (0 : Int32) v15 v16 x129 x130 x136 hq (cl + 0) (by omega) H locs hP hS ls (lv_sub hl [6, 7, 8, 9, 10, 11, 12, 13, 1, 14, 15, 3, 2, 0] rfl)
          · have hq := hq.2 hc
            refine lv_aload_n hx hb dL_built_465 rfl (lv_at hl 4 rfl) ?_
            refine lv_iload hx hb dL_built_466 (lv_at hl 13 rfl) ?_
            refine lv_iload hx hb dL_built_468 (lv_at hl 15 rfl) ?_
            refine lv_iconst (v := 0) hx hb dL_built_470 (by decide) ?_
            refine lv_lload hx hb dL_built_471 (lv_at hl 3 rfl) ?_
            refine lv_l2i hx hb dL_built_473 rfl ?_
            refine kj_Wl (As := [.ref (ka_a G (22, 0, 0)), .int v15, .int v32, .int (0 : Int32), .int r125.toInt32]) (rest := []) C0 hK hT hN hP hS (fun _ h => h) hl (km0_L_letter l hl0 hI hq) kd_L_letter kq_582 ⟨rfl, rfl, Nat.le_of_ble_eq_true rfl, Nat.le_of_ble_eq_true rfl⟩ rfl (Nat.le_of_ble_eq_true rfl) dL_built_474 ⟨by show _ ≤ 0; omega, by show _ ≤ 0; omega⟩ (fun r137 σ138 H locs hq hP hkp hS => ?_)
            refine lv_ldc2 hx hb hown (hts _ kq_957) dL_built_477 ?_
            refine kr_cne (tgt := 630) C0 dL_built_480 dL_built_481 (by decide) (fun hc => ?_) (fun hc => ?_)
            · have hq := hq.2 hc
              refine lv_iconst (v := 0) hx hb dL_built_630 (by decide) ?_
              refine lv_istore (lv' := [(14, .int (0 : Int32)), (30, .long x130), (28, .long x129), (35, .long r127), (33, .long r125), (0, .ref (ka_a G (22, 0, 0))), (1, .int v1), (2, .long v2), (4, .long v4), (6, .long v6), (8, .long v8), (10, .long v10), (12, .long v12), (15, .int v15), (16, .long v16), (32, .int v32)]) hx hb dL_built_631 hl (by decide) rfl (fun ls hl => ?_)
              obtain ⟨x139, ex139⟩ : ∃ y : Int32, y = v32 + (1 : Int32) := ⟨_, rfl⟩
              have hq := hq x139 ex139
              refine lv_iinc (v := x139) (lv' := [(32, .int x139), (14, .int (0 : Int32)), (30, .long x130), (28, .long x129), (35, .long r127), (33, .long r125), (0, .ref (ka_a G (22, 0, 0))), (1, .int v1), (2, .long v2), (4, .long v4), (6, .long v6), (8, .long v8), (10, .long v10), (12, .long v12), (15, .int v15), (16, .long v16)]) hx hb dL_built_633 hl (k := 15) rfl (by rw [ex139]; rfl) (by decide) rfl (fun ls hl => ?_)
              refine lv_goto (tgt := 381) hx hb dL_built_636 (by decide) ?_
              refine W.widen (k := (cl + 0)) (n := 6 * (cl + 0)) (by omega) (by omega) ?_
              exact ih9 σ138 v1 v2 v4 v6 v8 v10 v12 (0 : Int32) v15 v16 x129 x130 x139 hq (cl + 0) (by omega) H locs hP hS ls (lv_sub hl [6, 7, 8, 9, 10, 11, 12, 13, 1, 14, 15, 3, 2, 0] rfl)
            · have hq := hq.1 hc
              refine lv_aload_n hx hb dL_built_484 rfl (lv_at hl 4 rfl) ?_
              refine lv_iload hx hb dL_built_485 (lv_at hl 13 rfl) ?_
              refine lv_iload hx hb dL_built_487 (lv_at hl 15 rfl) ?_
              refine lv_iconst (v := 0) hx hb dL_built_489 (by decide) ?_
              refine lv_lload hx hb dL_built_490 (lv_at hl 3 rfl) ?_
              refine lv_l2i hx hb dL_built_492 rfl ?_
              refine lv_iconst (v := 1) hx hb dL_built_493 (by decide) ?_
              refine lv_isub hx hb dL_built_494 ?_
              refine kj_Wl (As := [.ref (ka_a G (22, 0, 0)), .int v15, .int v32, .int (0 : Int32), .int (r125.toInt32 - (1 : Int32))]) (rest := []) C0 hK hT hN hP hS (fun _ h => h) hl (km0_L_letter l hl0 hI hq) kd_L_letter kq_582 ⟨rfl, rfl, Nat.le_of_ble_eq_true rfl, Nat.le_of_ble_eq_true rfl⟩ rfl (Nat.le_of_ble_eq_true rfl) dL_built_495 ⟨by show _ ≤ 0; omega, by show _ ≤ 0; omega⟩ (fun r140 σ141 H locs hq hP hkp hS => ?_)
              refine lv_ldc2 hx hb hown (hts _ kq_957) dL_built_498 ?_
              refine kr_ceq (tgt := 630) C0 dL_built_501 dL_built_502 (by decide) (fun hc => ?_) (fun hc => ?_)
              · have hq := hq.1 hc
                refine lv_iconst (v := 0) hx hb dL_built_630 (by decide) ?_
                refine lv_istore (lv' := [(14, .int (0 : Int32)), (30, .long x130), (28, .long x129), (35, .long r127), (33, .long r125), (0, .ref (ka_a G (22, 0, 0))), (1, .int v1), (2, .long v2), (4, .long v4), (6, .long v6), (8, .long v8), (10, .long v10), (12, .long v12), (15, .int v15), (16, .long v16), (32, .int v32)]) hx hb dL_built_631 hl (by decide) rfl (fun ls hl => ?_)
                obtain ⟨x142, ex142⟩ : ∃ y : Int32, y = v32 + (1 : Int32) := ⟨_, rfl⟩
                have hq := hq x142 ex142
                refine lv_iinc (v := x142) (lv' := [(32, .int x142), (14, .int (0 : Int32)), (30, .long x130), (28, .long x129), (35, .long r127), (33, .long r125), (0, .ref (ka_a G (22, 0, 0))), (1, .int v1), (2, .long v2), (4, .long v4), (6, .long v6), (8, .long v8), (10, .long v10), (12, .long v12), (15, .int v15), (16, .long v16)]) hx hb dL_built_633 hl (k := 15) rfl (by rw [ex142]; rfl) (by decide) rfl (fun ls hl => ?_)
                refine lv_goto (tgt := 381) hx hb dL_built_636 (by decide) ?_
                refine W.widen (k := (cl + 0)) (n := 6 * (cl + 0)) (by omega) (by omega) ?_
                exact ih9 σ141 v1 v2 v4 v6 v8 v10 v12 (0 : Int32) v15 v16 x129 x130 x142 hq (cl + 0) (by omega) H locs hP hS ls (lv_sub hl [6, 7, 8, 9, 10, 11, 12, 13, 1, 14, 15, 3, 2, 0] rfl)
              · have hq := hq.2 hc
                refine lv_aload_n hx hb dL_built_505 rfl (lv_at hl 4 rfl) ?_
                refine lv_iload hx hb dL_built_506 (lv_at hl 13 rfl) ?_
                refine lv_iload hx hb dL_built_508 (lv_at hl 15 rfl) ?_
                refine lv_iconst (v := 1) hx hb dL_built_510 (by decide) ?_
                refine lv_lload hx hb dL_built_511 (lv_at hl 2 rfl) ?_
                refine lv_l2i hx hb dL_built_513 rfl ?_
                refine kj_Wl (As := [.ref (ka_a G (22, 0, 0)), .int v15, .int v32, .int (1 : Int32), .int r127.toInt32]) (rest := []) C0 hK hT hN hP hS (fun _ h => h) hl (km0_L_letter l hl0 hI hq) kd_L_letter kq_582 ⟨rfl, rfl, Nat.le_of_ble_eq_true rfl, Nat.le_of_ble_eq_true rfl⟩ rfl (Nat.le_of_ble_eq_true rfl) dL_built_514 ⟨by show _ ≤ 0; omega, by show _ ≤ 0; omega⟩ (fun r143 σ144 H locs hq hP hkp hS => ?_)
                refine lv_ldc2 hx hb hown (hts _ kq_957) dL_built_517 ?_
                refine kr_cne (tgt := 630) C0 dL_built_520 dL_built_521 (by decide) (fun hc => ?_) (fun hc => ?_)
                · have hq := hq.2 hc
                  refine lv_iconst (v := 0) hx hb dL_built_630 (by decide) ?_
                  refine lv_istore (lv' := [(14, .int (0 : Int32)), (30, .long x130), (28, .long x129), (35, .long r127), (33, .long r125), (0, .ref (ka_a G (22, 0, 0))), (1, .int v1), (2, .long v2), (4, .long v4), (6, .long v6), (8, .long v8), (10, .long v10), (12, .long v12), (15, .int v15), (16, .long v16), (32, .int v32)]) hx hb dL_built_631 hl (by decide) rfl (fun ls hl => ?_)
                  obtain ⟨x145, ex145⟩ : ∃ y : Int32, y = v32 + (1 : Int32) := ⟨_, rfl⟩
                  have hq := hq x145 ex145
                  refine lv_iinc (v := x145) (lv' := [(32, .int x145), (14, .int (0 : Int32)), (30, .long x130), (28, .long x129), (35, .long r127), (33, .long r125), (0, .ref (ka_a G (22, 0, 0))), (1, .int v1), (2, .long v2), (4, .long v4), (6, .long v6), (8, .long v8), (10, .long v10), (12, .long v12), (15, .int v15), (16, .long v16)]) hx hb dL_built_633 hl (k := 15) rfl (by rw [ex145]; rfl) (by decide) rfl (fun ls hl => ?_)
                  refine lv_goto (tgt := 381) hx hb dL_built_636 (by decide) ?_
                  refine W.widen (k := (cl + 0)) (n := 6 * (cl + 0)) (by omega) (by omega) ?_
                  exact ih9 σ144 v1 v2 v4 v6 v8 v10 v12 (0 : Int32) v15 v16 x129 x130 x145 hq (cl + 0) (by omega) H locs hP hS ls (lv_sub hl [6, 7, 8, 9, 10, 11, 12, 13, 1, 14, 15, 3, 2, 0] rfl)
                · have hq := hq.1 hc
                  refine W.widen (k := (cl + 0)) (n := 6 * (cl + 0)) (by omega) (by omega) ?_
                  exact kb_L_built_524 (R38 := R38) (R381 := (0 + R38)) hl0 hI C0 hK hT hN hk38 ih9 σ144 v1 v2 v4 v6 v8 v10 v12 v15 v16 x129 x130 v32 hq (cl + 0) (by omega) H locs hP hS ls (lv_sub hl [4, 5, 6, 7, 8, 9, 10, 11, 13, 14, 1, 0, 15] rfl)
def kw_L_built_361 (K38 : ka_S → Int32 → Int64 → Int64 → Int64 → Int64 → Int64 → Int64 → Int32 → Int32 → Prop) (Q : Int32 → ka_S → Prop) (σ : ka_S) (v1 : Int32) (v2 : Int64) (v4 : Int64) (v6 : Int64) (v8 : Int64) (v10 : Int64) (v12 : Int64) (v15 : Int32) (v16 : Int64) (t0 : Int32) : Prop := kw0_L_word σ v15 (0 : Int32) (fun r119 σ120 =>
  ∀ x121 : Int64, x121 = (r119 - (1 : Int64)) → 
  ∃ n122 : Nat, kw_L_built_381 K38 Q n122 σ120 v1 v2 v4 v6 v8 v10 v12 t0 v15 v16 x121 x121 (0 : Int32))
set_option maxHeartbeats 4000000 in
set_option maxRecDepth 100000 in
theorem kb_L_built_361 {p : Program} {l : Launch} {e : Env} {s : State} {m : MethodId} {below : List Frame} {meth : Method} {c : Code} {G : ka_G} {args : Array Value} (hl0 : l.stackTraces = false) (hI : ka_I G) (C0 : ka_C p s m args meth c cL_built 37 "GlossRowsLaw" (some .boolean)) (hK : ka_Kn G s) (hT : ka_T9 (ka_A G) s) (hN : kl_Nc s) {Q : Int32 → ka_S → Prop} {K38 : ka_S → Int32 → Int64 → Int64 → Int64 → Int64 → Int64 → Int64 → Int32 → Int32 → Prop} {R38 : Nat} (hk38 : ∀ (σ : ka_S) (v1 : Int32) (v2 : Int64) (v4 : Int64) (v6 : Int64) (v8 : Int64) (v10 : Int64) (v12 : Int64) (v14 : Int32) (v15 : Int32), K38 σ v1 v2 v4 v6 v8 v10 v12 v14 v15 → ∀ (cl : Nat), cl + R38 ≤ 0 → ∀ (H : Heap) (locs : List Loc), ka_P G σ H → va_S (ka_A G) s.heap H locs → ∀ ls : Array Slot, lv_has ls 37 [(0, .ref (ka_a G (22, 0, 0))), (1, .int v1), (2, .long v2), (4, .long v4), (6, .long v6), (8, .long v8), (10, .long v10), (12, .long v12), (14, .int v14), (15, .int v15)] → W p l e rm_L_built s m args below meth c H locs cl (6 * cl) (MQ below (va_Qi Q (ka_B G) (ka_A G)) args s 0 0 (ka_A G)) (F0 m 38 ls [])) : ∀ (σ : ka_S) (v1 : Int32) (v2 : Int64) (v4 : Int64) (v6 : Int64) (v8 : Int64) (v10 : Int64) (v12 : Int64) (v15 : Int32) (v16 : Int64) (t0 : Int32), kw_L_built_361 K38 Q σ v1 v2 v4 v6 v8 v10 v12 v15 v16 t0 → ∀ (cl : Nat), cl + 0 + R38 ≤ 0 → ∀ (H : Heap) (locs : List Loc), ka_P G σ H → va_S (ka_A G) s.heap H locs → ∀ ls : Array Slot, lv_has ls 37 [(0, .ref (ka_a G (22, 0, 0))), (1, .int v1), (2, .long v2), (4, .long v4), (6, .long v6), (8, .long v8), (10, .long v10), (12, .long v12), (15, .int v15), (16, .long v16)] → W p l e rm_L_built s m args below meth c H locs cl (6 * cl) (MQ below (va_Qi Q (ka_B G) (ka_A G)) args s 0 0 (ka_A G)) (F0 m 361 ls [.int t0]) := by
  obtain ⟨hx, hb, -, hml, hown, hts, -⟩ := id C0
  intro σ v1 v2 v4 v6 v8 v10 v12 v15 v16 t0 hq cl hcl H locs hP hS ls hl
  unfold kw_L_built_361 at hq
  refine lv_istore (lv' := [(14, .int t0), (0, .ref (ka_a G (22, 0, 0))), (1, .int v1), (2, .long v2), (4, .long v4), (6, .long v6), (8, .long v8), (10, .long v10), (12, .long v12), (15, .int v15), (16, .long v16)]) hx hb dL_built_361 hl (by decide) rfl (fun ls hl => ?_)
  refine lv_aload_n hx hb dL_built_363 rfl (lv_at hl 1 rfl) ?_
  refine lv_iload hx hb dL_built_364 (lv_at hl 9 rfl) ?_
  refine lv_iconst (v := 0) hx hb dL_built_366 (by decide) ?_
  refine kj_Wl (As := [.ref (ka_a G (22, 0, 0)), .int v15, .int (0 : Int32)]) (rest := []) C0 hK hT hN hP hS (fun _ h => h) hl (km0_L_word l hl0 hI hq) kd_L_word kq_563 ⟨rfl, rfl, Nat.le_of_ble_eq_true rfl, Nat.le_of_ble_eq_true rfl⟩ rfl (Nat.le_of_ble_eq_true rfl) dL_built_367 ⟨by show _ ≤ 0; omega, by show _ ≤ 0; omega⟩ (fun r119 σ120 H locs hq hP hkp hS => ?_)
  refine lv_lconst (v := 1) hx hb dL_built_370 (by decide) ?_
  refine lv_lsub hx hb dL_built_371 ?_
  refine lv_topl (fun x121 ex121 => ?_)
  have hq := hq x121 ex121
  refine lv_lstore (lv' := [(28, .long x121), (14, .int t0), (0, .ref (ka_a G (22, 0, 0))), (1, .int v1), (2, .long v2), (4, .long v4), (6, .long v6), (8, .long v8), (10, .long v10), (12, .long v12), (15, .int v15), (16, .long v16)]) hx hb dL_built_372 hl (by decide) rfl (fun ls hl => ?_)
  refine lv_lload hx hb dL_built_374 (lv_at hl 0 rfl) ?_
  refine lv_lstore (lv' := [(30, .long x121), (28, .long x121), (14, .int t0), (0, .ref (ka_a G (22, 0, 0))), (1, .int v1), (2, .long v2), (4, .long v4), (6, .long v6), (8, .long v8), (10, .long v10), (12, .long v12), (15, .int v15), (16, .long v16)]) hx hb dL_built_376 hl (by decide) rfl (fun ls hl => ?_)
  refine lv_iconst (v := 0) hx hb dL_built_378 (by decide) ?_
  refine lv_istore (lv' := [(32, .int (0 : Int32)), (30, .long x121), (28, .long x121), (14, .int t0), (0, .ref (ka_a G (22, 0, 0))), (1, .int v1), (2, .long v2), (4, .long v4), (6, .long v6), (8, .long v8), (10, .long v10), (12, .long v12), (15, .int v15), (16, .long v16)]) hx hb dL_built_379 hl (by decide) rfl (fun ls hl => ?_)
  obtain ⟨n122, hq⟩ := hq
  refine W.widen (k := (cl + 0)) (n := 6 * (cl + 0)) (by omega) (by omega) ?_
  exact kb_L_built_381 (R38 := R38) hl0 hI C0 hK hT hN hk38 n122 σ120 v1 v2 v4 v6 v8 v10 v12 t0 v15 v16 x121 x121 (0 : Int32) hq (cl + 0) (by omega) H locs hP hS ls (lv_sub hl [4, 5, 6, 7, 8, 9, 10, 11, 3, 12, 13, 2, 1, 0] rfl)
def kw_L_built_356 (K38 : ka_S → Int32 → Int64 → Int64 → Int64 → Int64 → Int64 → Int64 → Int32 → Int32 → Prop) (Q : Int32 → ka_S → Prop) (σ : ka_S) (v1 : Int32) (v2 : Int64) (v4 : Int64) (v6 : Int64) (v8 : Int64) (v10 : Int64) (v12 : Int64) (v15 : Int32) (v16 : Int64) : Prop := kw_L_built_361 K38 Q σ v1 v2 v4 v6 v8 v10 v12 v15 v16 (1 : Int32)
set_option maxHeartbeats 4000000 in
set_option maxRecDepth 100000 in
theorem kb_L_built_356 {p : Program} {l : Launch} {e : Env} {s : State} {m : MethodId} {below : List Frame} {meth : Method} {c : Code} {G : ka_G} {args : Array Value} (hl0 : l.stackTraces = false) (hI : ka_I G) (C0 : ka_C p s m args meth c cL_built 37 "GlossRowsLaw" (some .boolean)) (hK : ka_Kn G s) (hT : ka_T9 (ka_A G) s) (hN : kl_Nc s) {Q : Int32 → ka_S → Prop} {K38 : ka_S → Int32 → Int64 → Int64 → Int64 → Int64 → Int64 → Int64 → Int32 → Int32 → Prop} {R38 : Nat} (hk38 : ∀ (σ : ka_S) (v1 : Int32) (v2 : Int64) (v4 : Int64) (v6 : Int64) (v8 : Int64) (v10 : Int64) (v12 : Int64) (v14 : Int32) (v15 : Int32), K38 σ v1 v2 v4 v6 v8 v10 v12 v14 v15 → ∀ (cl : Nat), cl + R38 ≤ 0 → ∀ (H : Heap) (locs : List Loc), ka_P G σ H → va_S (ka_A G) s.heap H locs → ∀ ls : Array Slot, lv_has ls 37 [(0, .ref (ka_a G (22, 0, 0))), (1, .int v1), (2, .long v2), (4, .long v4), (6, .long v6), (8, .long v8), (10, .long v10), (12, .long v12), (14, .int v14), (15, .int v15)] → W p l e rm_L_built s m args below meth c H locs cl (6 * cl) (MQ below (va_Qi Q (ka_B G) (ka_A G)) args s 0 0 (ka_A G)) (F0 m 38 ls [])) : ∀ (σ : ka_S) (v1 : Int32) (v2 : Int64) (v4 : Int64) (v6 : Int64) (v8 : Int64) (v10 : Int64) (v12 : Int64) (v15 : Int32) (v16 : Int64), kw_L_built_356 K38 Q σ v1 v2 v4 v6 v8 v10 v12 v15 v16 → ∀ (cl : Nat), cl + 0 + R38 ≤ 0 → ∀ (H : Heap) (locs : List Loc), ka_P G σ H → va_S (ka_A G) s.heap H locs → ∀ ls : Array Slot, lv_has ls 37 [(0, .ref (ka_a G (22, 0, 0))), (1, .int v1), (2, .long v2), (4, .long v4), (6, .long v6), (8, .long v8), (10, .long v10), (12, .long v12), (15, .int v15), (16, .long v16)] → W p l e rm_L_built s m args below meth c H locs cl (6 * cl) (MQ below (va_Qi Q (ka_B G) (ka_A G)) args s 0 0 (ka_A G)) (F0 m 356 ls []) := by
  obtain ⟨hx, hb, -, hml, hown, hts, -⟩ := id C0
  intro σ v1 v2 v4 v6 v8 v10 v12 v15 v16 hq cl hcl H locs hP hS ls hl
  unfold kw_L_built_356 at hq
  refine lv_iconst (v := 1) hx hb dL_built_356 (by decide) ?_
  refine lv_goto (tgt := 361) hx hb dL_built_357 (by decide) ?_
  refine W.widen (k := (cl + 0)) (n := 6 * (cl + 0)) (by omega) (by omega) ?_
  exact kb_L_built_361 (R38 := R38) hl0 hI C0 hK hT hN hk38 σ v1 v2 v4 v6 v8 v10 v12 v15 v16 (1 : Int32) hq (cl + 0) (by omega) H locs hP hS ls (lv_sub hl [0, 1, 2, 3, 4, 5, 6, 7, 8, 9] rfl)
def kw_L_built_360 (K38 : ka_S → Int32 → Int64 → Int64 → Int64 → Int64 → Int64 → Int64 → Int32 → Int32 → Prop) (Q : Int32 → ka_S → Prop) (σ : ka_S) (v1 : Int32) (v2 : Int64) (v4 : Int64) (v6 : Int64) (v8 : Int64) (v10 : Int64) (v12 : Int64) (v15 : Int32) (v16 : Int64) : Prop := kw_L_built_361 K38 Q σ v1 v2 v4 v6 v8 v10 v12 v15 v16 (0 : Int32)
set_option maxHeartbeats 4000000 in
set_option maxRecDepth 100000 in
theorem kb_L_built_360 {p : Program} {l : Launch} {e : Env} {s : State} {m : MethodId} {below : List Frame} {meth : Method} {c : Code} {G : ka_G} {args : Array Value} (hl0 : l.stackTraces = false) (hI : ka_I G) (C0 : ka_C p s m args meth c cL_built 37 "GlossRowsLaw" (some .boolean)) (hK : ka_Kn G s) (hT : ka_T9 (ka_A G) s) (hN : kl_Nc s) {Q : Int32 → ka_S → Prop} {K38 : ka_S → Int32 → Int64 → Int64 → Int64 → Int64 → Int64 → Int64 → Int32 → Int32 → Prop} {R38 : Nat} (hk38 : ∀ (σ : ka_S) (v1 : Int32) (v2 : Int64) (v4 : Int64) (v6 : Int64) (v8 : Int64) (v10 : Int64) (v12 : Int64) (v14 : Int32) (v15 : Int32), K38 σ v1 v2 v4 v6 v8 v10 v12 v14 v15 → ∀ (cl : Nat), cl + R38 ≤ 0 → ∀ (H : Heap) (locs : List Loc), ka_P G σ H → va_S (ka_A G) s.heap H locs → ∀ ls : Array Slot, lv_has ls 37 [(0, .ref (ka_a G (22, 0, 0))), (1, .int v1), (2, .long v2), (4, .long v4), (6, .long v6), (8, .long v8), (10, .long v10), (12, .long v12), (14, .int v14), (15, .int v15)] → W p l e rm_L_built s m args below meth c H locs cl (6 * cl) (MQ below (va_Qi Q (ka_B G) (ka_A G)) args s 0 0 (ka_A G)) (F0 m 38 ls [])) : ∀ (σ : ka_S) (v1 : Int32) (v2 : Int64) (v4 : Int64) (v6 : Int64) (v8 : Int64) (v10 : Int64) (v12 : Int64) (v15 : Int32) (v16 : Int64), kw_L_built_360 K38 Q σ v1 v2 v4 v6 v8 v10 v12 v15 v16 → ∀ (cl : Nat), cl + 0 + R38 ≤ 0 → ∀ (H : Heap) (locs : List Loc), ka_P G σ H → va_S (ka_A G) s.heap H locs → ∀ ls : Array Slot, lv_has ls 37 [(0, .ref (ka_a G (22, 0, 0))), (1, .int v1), (2, .long v2), (4, .long v4), (6, .long v6), (8, .long v8), (10, .long v10), (12, .long v12), (15, .int v15), (16, .long v16)] → W p l e rm_L_built s m args below meth c H locs cl (6 * cl) (MQ below (va_Qi Q (ka_B G) (ka_A G)) args s 0 0 (ka_A G)) (F0 m 360 ls []) := by
  obtain ⟨hx, hb, -, hml, hown, hts, -⟩ := id C0
  intro σ v1 v2 v4 v6 v8 v10 v12 v15 v16 hq cl hcl H locs hP hS ls hl
  unfold kw_L_built_360 at hq
  refine lv_iconst (v := 0) hx hb dL_built_360 (by decide) ?_
  refine W.widen (k := (cl + 0)) (n := 6 * (cl + 0)) (by omega) (by omega) ?_
  exact kb_L_built_361 (R38 := R38) hl0 hI C0 hK hT hN hk38 σ v1 v2 v4 v6 v8 v10 v12 v15 v16 (0 : Int32) hq (cl + 0) (by omega) H locs hP hS ls (lv_sub hl [0, 1, 2, 3, 4, 5, 6, 7, 8, 9] rfl)
def kw_L_built_331 (K38 : ka_S → Int32 → Int64 → Int64 → Int64 → Int64 → Int64 → Int64 → Int32 → Int32 → Prop) (Q : Int32 → ka_S → Prop) (σ : ka_S) (v1 : Int32) (v2 : Int64) (v4 : Int64) (v6 : Int64) (v8 : Int64) (v10 : Int64) (v12 : Int64) (v15 : Int32) (v16 : Int64) : Prop := kw0_L_word σ v15 (7 : Int32) (fun r115 σ116 =>
  (r115 = (0 : Int64) → kw_L_built_356 K38 Q σ116 v1 v2 v4 v6 v8 v10 v12 v15 v16) ∧
  (¬ r115 = (0 : Int64) → kw0_L_word σ116 v15 (5 : Int32) (fun r117 σ118 =>
    (r117 = (1 : Int64) → kw_L_built_356 K38 Q σ118 v1 v2 v4 v6 v8 v10 v12 v15 v16) ∧
    (¬ r117 = (1 : Int64) → kw_L_built_360 K38 Q σ118 v1 v2 v4 v6 v8 v10 v12 v15 v16))))
set_option maxHeartbeats 4000000 in
set_option maxRecDepth 100000 in
theorem kb_L_built_331 {p : Program} {l : Launch} {e : Env} {s : State} {m : MethodId} {below : List Frame} {meth : Method} {c : Code} {G : ka_G} {args : Array Value} (hl0 : l.stackTraces = false) (hI : ka_I G) (C0 : ka_C p s m args meth c cL_built 37 "GlossRowsLaw" (some .boolean)) (hK : ka_Kn G s) (hT : ka_T9 (ka_A G) s) (hN : kl_Nc s) {Q : Int32 → ka_S → Prop} {K38 : ka_S → Int32 → Int64 → Int64 → Int64 → Int64 → Int64 → Int64 → Int32 → Int32 → Prop} {R38 : Nat} (hk38 : ∀ (σ : ka_S) (v1 : Int32) (v2 : Int64) (v4 : Int64) (v6 : Int64) (v8 : Int64) (v10 : Int64) (v12 : Int64) (v14 : Int32) (v15 : Int32), K38 σ v1 v2 v4 v6 v8 v10 v12 v14 v15 → ∀ (cl : Nat), cl + R38 ≤ 0 → ∀ (H : Heap) (locs : List Loc), ka_P G σ H → va_S (ka_A G) s.heap H locs → ∀ ls : Array Slot, lv_has ls 37 [(0, .ref (ka_a G (22, 0, 0))), (1, .int v1), (2, .long v2), (4, .long v4), (6, .long v6), (8, .long v8), (10, .long v10), (12, .long v12), (14, .int v14), (15, .int v15)] → W p l e rm_L_built s m args below meth c H locs cl (6 * cl) (MQ below (va_Qi Q (ka_B G) (ka_A G)) args s 0 0 (ka_A G)) (F0 m 38 ls [])) : ∀ (σ : ka_S) (v1 : Int32) (v2 : Int64) (v4 : Int64) (v6 : Int64) (v8 : Int64) (v10 : Int64) (v12 : Int64) (v15 : Int32) (v16 : Int64), kw_L_built_331 K38 Q σ v1 v2 v4 v6 v8 v10 v12 v15 v16 → ∀ (cl : Nat), cl + 0 + R38 ≤ 0 → ∀ (H : Heap) (locs : List Loc), ka_P G σ H → va_S (ka_A G) s.heap H locs → ∀ ls : Array Slot, lv_has ls 37 [(0, .ref (ka_a G (22, 0, 0))), (1, .int v1), (2, .long v2), (4, .long v4), (6, .long v6), (8, .long v8), (10, .long v10), (12, .long v12), (15, .int v15), (16, .long v16)] → W p l e rm_L_built s m args below meth c H locs cl (6 * cl) (MQ below (va_Qi Q (ka_B G) (ka_A G)) args s 0 0 (ka_A G)) (F0 m 331 ls []) := by
  obtain ⟨hx, hb, -, hml, hown, hts, -⟩ := id C0
  intro σ v1 v2 v4 v6 v8 v10 v12 v15 v16 hq cl hcl H locs hP hS ls hl
  unfold kw_L_built_331 at hq
  refine lv_aload_n hx hb dL_built_331 rfl (lv_at hl 0 rfl) ?_
  refine lv_iload hx hb dL_built_332 (lv_at hl 8 rfl) ?_
  refine lv_bipush (v := 7) hx hb dL_built_334 (by decide) ?_
  refine kj_Wl (As := [.ref (ka_a G (22, 0, 0)), .int v15, .int (7 : Int32)]) (rest := []) C0 hK hT hN hP hS (fun _ h => h) hl (km0_L_word l hl0 hI hq) kd_L_word kq_563 ⟨rfl, rfl, Nat.le_of_ble_eq_true rfl, Nat.le_of_ble_eq_true rfl⟩ rfl (Nat.le_of_ble_eq_true rfl) dL_built_336 ⟨by show _ ≤ 0; omega, by show _ ≤ 0; omega⟩ (fun r115 σ116 H locs hq hP hkp hS => ?_)
  refine lv_lconst (v := 0) hx hb dL_built_339 (by decide) ?_
  refine kr_ceq (tgt := 356) C0 dL_built_340 dL_built_341 (by decide) (fun hc => ?_) (fun hc => ?_)
  · have hq := hq.1 hc
    refine W.widen (k := (cl + 0)) (n := 6 * (cl + 0)) (by omega) (by omega) ?_
    exact kb_L_built_356 (R38 := R38) hl0 hI C0 hK hT hN hk38 σ116 v1 v2 v4 v6 v8 v10 v12 v15 v16 hq (cl + 0) (by omega) H locs hP hS ls (lv_sub hl [0, 1, 2, 3, 4, 5, 6, 7, 8, 9] rfl)
  · have hq := hq.2 hc
    refine lv_aload_n hx hb dL_built_344 rfl (lv_at hl 0 rfl) ?_
    refine lv_iload hx hb dL_built_345 (lv_at hl 8 rfl) ?_
    refine lv_iconst (v := 5) hx hb dL_built_347 (by decide) ?_
    refine kj_Wl (As := [.ref (ka_a G (22, 0, 0)), .int v15, .int (5 : Int32)]) (rest := []) C0 hK hT hN hP hS (fun _ h => h) hl (km0_L_word l hl0 hI hq) kd_L_word kq_563 ⟨rfl, rfl, Nat.le_of_ble_eq_true rfl, Nat.le_of_ble_eq_true rfl⟩ rfl (Nat.le_of_ble_eq_true rfl) dL_built_348 ⟨by show _ ≤ 0; omega, by show _ ≤ 0; omega⟩ (fun r117 σ118 H locs hq hP hkp hS => ?_)
    refine lv_lconst (v := 1) hx hb dL_built_351 (by decide) ?_
    refine kr_cne (tgt := 360) C0 dL_built_352 dL_built_353 (by decide) (fun hc => ?_) (fun hc => ?_)
    · have hq := hq.2 hc
      refine W.widen (k := (cl + 0)) (n := 6 * (cl + 0)) (by omega) (by omega) ?_
      exact kb_L_built_360 (R38 := R38) hl0 hI C0 hK hT hN hk38 σ118 v1 v2 v4 v6 v8 v10 v12 v15 v16 hq (cl + 0) (by omega) H locs hP hS ls (lv_sub hl [0, 1, 2, 3, 4, 5, 6, 7, 8, 9] rfl)
    · have hq := hq.1 hc
      refine W.widen (k := (cl + 0)) (n := 6 * (cl + 0)) (by omega) (by omega) ?_
      exact kb_L_built_356 (R38 := R38) hl0 hI C0 hK hT hN hk38 σ118 v1 v2 v4 v6 v8 v10 v12 v15 v16 hq (cl + 0) (by omega) H locs hP hS ls (lv_sub hl [0, 1, 2, 3, 4, 5, 6, 7, 8, 9] rfl)
def kw_L_built_284 (K38 : ka_S → Int32 → Int64 → Int64 → Int64 → Int64 → Int64 → Int64 → Int32 → Int32 → Prop) (Q : Int32 → ka_S → Prop) (σ : ka_S) (v1 : Int32) (v2 : Int64) (v4 : Int64) (v6 : Int64) (v8 : Int64) (v10 : Int64) (v12 : Int64) (v15 : Int32) (v16 : Int64) (v18 : Int64) (v24 : Int64) (v26 : Int64) (t0 : Int64) (t1 : Int64) : Prop := (t0 = t1 → kw0_L_word σ v15 (2 : Int32) (fun r111 σ112 =>
    (r111 = v24 → kw0_L_word σ112 v15 (4 : Int32) (fun r113 σ114 =>
      (r113 = v26 → (v18 = (0 : Int64) → kw_L_built_331 K38 Q σ114 v1 v2 v4 v6 v8 v10 v12 v15 v16) ∧
        (¬ v18 = (0 : Int64) → (v2 < (v18 + v16) → kw_L_built_360 K38 Q σ114 v1 v2 v4 v6 v8 v10 v12 v15 v16) ∧
          (¬ v2 < (v18 + v16) → kw_L_built_331 K38 Q σ114 v1 v2 v4 v6 v8 v10 v12 v15 v16))) ∧
      (¬ r113 = v26 → kw_L_built_360 K38 Q σ114 v1 v2 v4 v6 v8 v10 v12 v15 v16))) ∧
    (¬ r111 = v24 → kw_L_built_360 K38 Q σ112 v1 v2 v4 v6 v8 v10 v12 v15 v16))) ∧
  (¬ t0 = t1 → kw_L_built_360 K38 Q σ v1 v2 v4 v6 v8 v10 v12 v15 v16)
set_option maxHeartbeats 4000000 in
set_option maxRecDepth 100000 in
theorem kb_L_built_284 {p : Program} {l : Launch} {e : Env} {s : State} {m : MethodId} {below : List Frame} {meth : Method} {c : Code} {G : ka_G} {args : Array Value} (hl0 : l.stackTraces = false) (hI : ka_I G) (C0 : ka_C p s m args meth c cL_built 37 "GlossRowsLaw" (some .boolean)) (hK : ka_Kn G s) (hT : ka_T9 (ka_A G) s) (hN : kl_Nc s) {Q : Int32 → ka_S → Prop} {K38 : ka_S → Int32 → Int64 → Int64 → Int64 → Int64 → Int64 → Int64 → Int32 → Int32 → Prop} {R38 : Nat} (hk38 : ∀ (σ : ka_S) (v1 : Int32) (v2 : Int64) (v4 : Int64) (v6 : Int64) (v8 : Int64) (v10 : Int64) (v12 : Int64) (v14 : Int32) (v15 : Int32), K38 σ v1 v2 v4 v6 v8 v10 v12 v14 v15 → ∀ (cl : Nat), cl + R38 ≤ 0 → ∀ (H : Heap) (locs : List Loc), ka_P G σ H → va_S (ka_A G) s.heap H locs → ∀ ls : Array Slot, lv_has ls 37 [(0, .ref (ka_a G (22, 0, 0))), (1, .int v1), (2, .long v2), (4, .long v4), (6, .long v6), (8, .long v8), (10, .long v10), (12, .long v12), (14, .int v14), (15, .int v15)] → W p l e rm_L_built s m args below meth c H locs cl (6 * cl) (MQ below (va_Qi Q (ka_B G) (ka_A G)) args s 0 0 (ka_A G)) (F0 m 38 ls [])) : ∀ (σ : ka_S) (v1 : Int32) (v2 : Int64) (v4 : Int64) (v6 : Int64) (v8 : Int64) (v10 : Int64) (v12 : Int64) (v15 : Int32) (v16 : Int64) (v18 : Int64) (v24 : Int64) (v26 : Int64) (t0 : Int64) (t1 : Int64), kw_L_built_284 K38 Q σ v1 v2 v4 v6 v8 v10 v12 v15 v16 v18 v24 v26 t0 t1 → ∀ (cl : Nat), cl + 0 + R38 ≤ 0 → ∀ (H : Heap) (locs : List Loc), ka_P G σ H → va_S (ka_A G) s.heap H locs → ∀ ls : Array Slot, lv_has ls 37 [(0, .ref (ka_a G (22, 0, 0))), (1, .int v1), (2, .long v2), (4, .long v4), (6, .long v6), (8, .long v8), (10, .long v10), (12, .long v12), (15, .int v15), (16, .long v16), (18, .long v18), (24, .long v24), (26, .long v26)] → W p l e rm_L_built s m args below meth c H locs cl (6 * cl) (MQ below (va_Qi Q (ka_B G) (ka_A G)) args s 0 0 (ka_A G)) (F0 m 284 ls [.long t1, .long t0]) := by
  obtain ⟨hx, hb, -, hml, hown, hts, -⟩ := id C0
  intro σ v1 v2 v4 v6 v8 v10 v12 v15 v16 v18 v24 v26 t0 t1 hq cl hcl H locs hP hS ls hl
  unfold kw_L_built_284 at hq
  refine kr_cne (tgt := 360) C0 dL_built_284 dL_built_285 (by decide) (fun hc => ?_) (fun hc => ?_)
  · have hq := hq.2 hc
    refine W.widen (k := (cl + 0)) (n := 6 * (cl + 0)) (by omega) (by omega) ?_
    exact kb_L_built_360 (R38 := R38) hl0 hI C0 hK hT hN hk38 σ v1 v2 v4 v6 v8 v10 v12 v15 v16 hq (cl + 0) (by omega) H locs hP hS ls (lv_sub hl [0, 1, 2, 3, 4, 5, 6, 7, 8, 9] rfl)
  · have hq := hq.1 hc
    refine lv_aload_n hx hb dL_built_288 rfl (lv_at hl 0 rfl) ?_
    refine lv_iload hx hb dL_built_289 (lv_at hl 8 rfl) ?_
    refine lv_iconst (v := 2) hx hb dL_built_291 (by decide) ?_
    refine kj_Wl (As := [.ref (ka_a G (22, 0, 0)), .int v15, .int (2 : Int32)]) (rest := []) C0 hK hT hN hP hS (fun _ h => h) hl (km0_L_word l hl0 hI hq) kd_L_word kq_563 ⟨rfl, rfl, Nat.le_of_ble_eq_true rfl, Nat.le_of_ble_eq_true rfl⟩ rfl (Nat.le_of_ble_eq_true rfl) dL_built_292 ⟨by show _ ≤ 0; omega, by show _ ≤ 0; omega⟩ (fun r111 σ112 H locs hq hP hkp hS => ?_)
    refine lv_lload hx hb dL_built_295 (lv_at hl 11 rfl) ?_
    refine kr_cne (tgt := 360) C0 dL_built_297 dL_built_298 (by decide) (fun hc => ?_) (fun hc => ?_)
    · have hq := hq.2 hc
      refine W.widen (k := (cl + 0)) (n := 6 * (cl + 0)) (by omega) (by omega) ?_
      exact kb_L_built_360 (R38 := R38) hl0 hI C0 hK hT hN hk38 σ112 v1 v2 v4 v6 v8 v10 v12 v15 v16 hq (cl + 0) (by omega) H locs hP hS ls (lv_sub hl [0, 1, 2, 3, 4, 5, 6, 7, 8, 9] rfl)
    · have hq := hq.1 hc
      refine lv_aload_n hx hb dL_built_301 rfl (lv_at hl 0 rfl) ?_
      refine lv_iload hx hb dL_built_302 (lv_at hl 8 rfl) ?_
      refine lv_iconst (v := 4) hx hb dL_built_304 (by decide) ?_
      refine kj_Wl (As := [.ref (ka_a G (22, 0, 0)), .int v15, .int (4 : Int32)]) (rest := []) C0 hK hT hN hP hS (fun _ h => h) hl (km0_L_word l hl0 hI hq) kd_L_word kq_563 ⟨rfl, rfl, Nat.le_of_ble_eq_true rfl, Nat.le_of_ble_eq_true rfl⟩ rfl (Nat.le_of_ble_eq_true rfl) dL_built_305 ⟨by show _ ≤ 0; omega, by show _ ≤ 0; omega⟩ (fun r113 σ114 H locs hq hP hkp hS => ?_)
      refine lv_lload hx hb dL_built_308 (lv_at hl 12 rfl) ?_
      refine kr_cne (tgt := 360) C0 dL_built_310 dL_built_311 (by decide) (fun hc => ?_) (fun hc => ?_)
      · have hq := hq.2 hc
        refine W.widen (k := (cl + 0)) (n := 6 * (cl + 0)) (by omega) (by omega) ?_
        exact kb_L_built_360 (R38 := R38) hl0 hI C0 hK hT hN hk38 σ114 v1 v2 v4 v6 v8 v10 v12 v15 v16 hq (cl + 0) (by omega) H locs hP hS ls (lv_sub hl [0, 1, 2, 3, 4, 5, 6, 7, 8, 9] rfl)
      · have hq := hq.1 hc
        refine lv_lload hx hb dL_built_314 (lv_at hl 10 rfl) ?_
        refine lv_lconst (v := 0) hx hb dL_built_316 (by decide) ?_
        refine kr_ceq (tgt := 331) C0 dL_built_317 dL_built_318 (by decide) (fun hc => ?_) (fun hc => ?_)
        · have hq := hq.1 hc
          refine W.widen (k := (cl + 0)) (n := 6 * (cl + 0)) (by omega) (by omega) ?_
          exact kb_L_built_331 (R38 := R38) hl0 hI C0 hK hT hN hk38 σ114 v1 v2 v4 v6 v8 v10 v12 v15 v16 hq (cl + 0) (by omega) H locs hP hS ls (lv_sub hl [0, 1, 2, 3, 4, 5, 6, 7, 8, 9] rfl)
        · have hq := hq.2 hc
          refine lv_lload hx hb dL_built_321 (lv_at hl 10 rfl) ?_
          refine lv_lload hx hb dL_built_323 (lv_at hl 9 rfl) ?_
          refine lv_ladd hx hb dL_built_325 ?_
          refine lv_lload_n hx hb dL_built_326 rfl (lv_at hl 2 rfl) ?_
          refine kr_cgt (tgt := 360) C0 dL_built_327 dL_built_328 (by decide) (fun hc => ?_) (fun hc => ?_)
          · have hq := hq.1 hc
            refine W.widen (k := (cl + 0)) (n := 6 * (cl + 0)) (by omega) (by omega) ?_
            exact kb_L_built_360 (R38 := R38) hl0 hI C0 hK hT hN hk38 σ114 v1 v2 v4 v6 v8 v10 v12 v15 v16 hq (cl + 0) (by omega) H locs hP hS ls (lv_sub hl [0, 1, 2, 3, 4, 5, 6, 7, 8, 9] rfl)
          · have hq := hq.2 hc
            refine W.widen (k := (cl + 0)) (n := 6 * (cl + 0)) (by omega) (by omega) ?_
            exact kb_L_built_331 (R38 := R38) hl0 hI C0 hK hT hN hk38 σ114 v1 v2 v4 v6 v8 v10 v12 v15 v16 hq (cl + 0) (by omega) H locs hP hS ls (lv_sub hl [0, 1, 2, 3, 4, 5, 6, 7, 8, 9] rfl)
def kw_L_built_249 (K38 : ka_S → Int32 → Int64 → Int64 → Int64 → Int64 → Int64 → Int64 → Int32 → Int32 → Prop) (Q : Int32 → ka_S → Prop) (σ : ka_S) (v1 : Int32) (v2 : Int64) (v4 : Int64) (v6 : Int64) (v8 : Int64) (v12 : Int64) (v15 : Int32) (v16 : Int64) (v18 : Int64) (v21 : Int64) (v23 : Int32) (v24 : Int64) (v26 : Int64) (t0 : Int64) (t1 : Int64) : Prop := ∀ x102 : Int64, x102 = (t0 + t1) → 
  kw0_L_word σ v15 (7 : Int32) (fun r103 σ104 =>
  ¬ v2 = 0 ∧
  ∀ x105 : Int64, x105 = (v12 + (((r103 + v2) - (1 : Int64)) / v2)) → 
  (v23 = (0 : Int32) → kw_L_built_284 K38 Q σ104 v1 v2 v4 v6 v8 x102 x105 v15 v16 v18 v24 v26 v18 (0 : Int64)) ∧
  (¬ v23 = (0 : Int32) → kw_L_built_284 K38 Q σ104 v1 v2 v4 v6 v8 x102 x105 v15 v16 v18 v24 v26 v18 v21))
set_option maxHeartbeats 4000000 in
set_option maxRecDepth 100000 in
theorem kb_L_built_249 {p : Program} {l : Launch} {e : Env} {s : State} {m : MethodId} {below : List Frame} {meth : Method} {c : Code} {G : ka_G} {args : Array Value} (hl0 : l.stackTraces = false) (hI : ka_I G) (C0 : ka_C p s m args meth c cL_built 37 "GlossRowsLaw" (some .boolean)) (hK : ka_Kn G s) (hT : ka_T9 (ka_A G) s) (hN : kl_Nc s) {Q : Int32 → ka_S → Prop} {K38 : ka_S → Int32 → Int64 → Int64 → Int64 → Int64 → Int64 → Int64 → Int32 → Int32 → Prop} {R38 : Nat} (hk38 : ∀ (σ : ka_S) (v1 : Int32) (v2 : Int64) (v4 : Int64) (v6 : Int64) (v8 : Int64) (v10 : Int64) (v12 : Int64) (v14 : Int32) (v15 : Int32), K38 σ v1 v2 v4 v6 v8 v10 v12 v14 v15 → ∀ (cl : Nat), cl + R38 ≤ 0 → ∀ (H : Heap) (locs : List Loc), ka_P G σ H → va_S (ka_A G) s.heap H locs → ∀ ls : Array Slot, lv_has ls 37 [(0, .ref (ka_a G (22, 0, 0))), (1, .int v1), (2, .long v2), (4, .long v4), (6, .long v6), (8, .long v8), (10, .long v10), (12, .long v12), (14, .int v14), (15, .int v15)] → W p l e rm_L_built s m args below meth c H locs cl (6 * cl) (MQ below (va_Qi Q (ka_B G) (ka_A G)) args s 0 0 (ka_A G)) (F0 m 38 ls [])) : ∀ (σ : ka_S) (v1 : Int32) (v2 : Int64) (v4 : Int64) (v6 : Int64) (v8 : Int64) (v12 : Int64) (v15 : Int32) (v16 : Int64) (v18 : Int64) (v21 : Int64) (v23 : Int32) (v24 : Int64) (v26 : Int64) (t0 : Int64) (t1 : Int64), kw_L_built_249 K38 Q σ v1 v2 v4 v6 v8 v12 v15 v16 v18 v21 v23 v24 v26 t0 t1 → ∀ (cl : Nat), cl + 0 + R38 ≤ 0 → ∀ (H : Heap) (locs : List Loc), ka_P G σ H → va_S (ka_A G) s.heap H locs → ∀ ls : Array Slot, lv_has ls 37 [(0, .ref (ka_a G (22, 0, 0))), (1, .int v1), (2, .long v2), (4, .long v4), (6, .long v6), (8, .long v8), (12, .long v12), (15, .int v15), (16, .long v16), (18, .long v18), (21, .long v21), (23, .int v23), (24, .long v24), (26, .long v26)] → W p l e rm_L_built s m args below meth c H locs cl (6 * cl) (MQ below (va_Qi Q (ka_B G) (ka_A G)) args s 0 0 (ka_A G)) (F0 m 249 ls [.long t1, .long t0]) := by
  obtain ⟨hx, hb, -, hml, hown, hts, -⟩ := id C0
  intro σ v1 v2 v4 v6 v8 v12 v15 v16 v18 v21 v23 v24 v26 t0 t1 hq cl hcl H locs hP hS ls hl
  unfold kw_L_built_249 at hq
  refine lv_ladd hx hb dL_built_249 ?_
  refine lv_topl (fun x102 ex102 => ?_)
  have hq := hq x102 ex102
  refine lv_lstore (lv' := [(10, .long x102), (0, .ref (ka_a G (22, 0, 0))), (1, .int v1), (2, .long v2), (4, .long v4), (6, .long v6), (8, .long v8), (12, .long v12), (15, .int v15), (16, .long v16), (18, .long v18), (21, .long v21), (23, .int v23), (24, .long v24), (26, .long v26)]) hx hb dL_built_250 hl (by decide) rfl (fun ls hl => ?_)
  refine lv_lload hx hb dL_built_252 (lv_at hl 7 rfl) ?_
  refine lv_aload_n hx hb dL_built_254 rfl (lv_at hl 1 rfl) ?_
  refine lv_iload hx hb dL_built_255 (lv_at hl 8 rfl) ?_
  refine lv_bipush (v := 7) hx hb dL_built_257 (by decide) ?_
  refine kj_Wl (As := [.ref (ka_a G (22, 0, 0)), .int v15, .int (7 : Int32)]) (rest := [.long v12]) C0 hK hT hN hP hS (fun _ h => h) hl (km0_L_word l hl0 hI hq) kd_L_word kq_563 ⟨rfl, rfl, Nat.le_of_ble_eq_true rfl, Nat.le_of_ble_eq_true rfl⟩ rfl (Nat.le_of_ble_eq_true rfl) dL_built_259 ⟨by show _ ≤ 0; omega, by show _ ≤ 0; omega⟩ (fun r103 σ104 H locs hq hP hkp hS => ?_)
  refine lv_lload_n hx hb dL_built_262 rfl (lv_at hl 3 rfl) ?_
  refine lv_ladd hx hb dL_built_263 ?_
  refine lv_lconst (v := 1) hx hb dL_built_264 (by decide) ?_
  refine lv_lsub hx hb dL_built_265 ?_
  refine lv_lload_n hx hb dL_built_266 rfl (lv_at hl 3 rfl) ?_
  obtain ⟨hne, hq⟩ := hq
  refine lv_ldiv hx hb dL_built_267 hne ?_
  refine lv_ladd hx hb dL_built_268 ?_
  refine lv_topl (fun x105 ex105 => ?_)
  have hq := hq x105 ex105
  refine lv_lstore (lv' := [(12, .long x105), (10, .long x102), (0, .ref (ka_a G (22, 0, 0))), (1, .int v1), (2, .long v2), (4, .long v4), (6, .long v6), (8, .long v8), (15, .int v15), (16, .long v16), (18, .long v18), (21, .long v21), (23, .int v23), (24, .long v24), (26, .long v26)]) hx hb dL_built_269 hl (by decide) rfl (fun ls hl => ?_)
  refine lv_lload hx hb dL_built_271 (lv_at hl 10 rfl) ?_
  refine lv_iload hx hb dL_built_273 (lv_at hl 12 rfl) ?_
  refine lv_if_eq (tgt := 283) hx hb dL_built_275 (by decide) (fun hc => ?_) (fun hc => ?_)
  · have hq := hq.1 hc
    refine lv_lconst (v := 0) hx hb dL_built_283 (by decide) ?_
    refine W.widen (k := (cl + 0)) (n := 6 * (cl + 0)) (by omega) (by omega) ?_
    exact kb_L_built_284 (R38 := R38) hl0 hI C0 hK hT hN hk38 σ104 v1 v2 v4 v6 v8 x102 x105 v15 v16 v18 v24 v26 v18 (0 : Int64) hq (cl + 0) (by omega) H locs hP hS ls (lv_sub hl [2, 3, 4, 5, 6, 7, 1, 0, 8, 9, 10, 13, 14] rfl)
  · have hq := hq.2 hc
    refine lv_lload hx hb dL_built_278 (lv_at hl 11 rfl) ?_
    refine lv_goto (tgt := 284) hx hb dL_built_280 (by decide) ?_
    refine W.widen (k := (cl + 0)) (n := 6 * (cl + 0)) (by omega) (by omega) ?_
    exact kb_L_built_284 (R38 := R38) hl0 hI C0 hK hT hN hk38 σ104 v1 v2 v4 v6 v8 x102 x105 v15 v16 v18 v24 v26 v18 v21 hq (cl + 0) (by omega) H locs hP hS ls (lv_sub hl [2, 3, 4, 5, 6, 7, 1, 0, 8, 9, 10, 13, 14] rfl)
def kw_L_built_208 (K38 : ka_S → Int32 → Int64 → Int64 → Int64 → Int64 → Int64 → Int64 → Int32 → Int32 → Prop) (Q : Int32 → ka_S → Prop) (σ : ka_S) (v1 : Int32) (v2 : Int64) (v4 : Int64) (v6 : Int64) (v8 : Int64) (v10 : Int64) (v12 : Int64) (v15 : Int32) (v16 : Int64) (v18 : Int64) (v21 : Int64) (v23 : Int32) (v24 : Int64) (t0 : Int64) : Prop := kw0_L_word σ v15 (0 : Int32) (fun r64 σ65 =>
  ∀ x66 : Int64, x66 = (v6 + r64) → 
  kw0_L_word σ65 v15 (6 : Int32) (fun r67 σ68 =>
  ∀ x69 : Int64, x69 = (v8 + r67) → 
  (v16 ≤ v2 → kw_L_built_249 K38 Q σ68 v1 v2 v4 x66 x69 v12 v15 v16 v18 v21 v23 v24 t0 v10 (0 : Int64)) ∧
  (¬ v16 ≤ v2 → kw_L_built_249 K38 Q σ68 v1 v2 v4 x66 x69 v12 v15 v16 v18 v21 v23 v24 t0 v10 (1 : Int64))))
set_option maxHeartbeats 4000000 in
set_option maxRecDepth 100000 in
theorem kb_L_built_208 {p : Program} {l : Launch} {e : Env} {s : State} {m : MethodId} {below : List Frame} {meth : Method} {c : Code} {G : ka_G} {args : Array Value} (hl0 : l.stackTraces = false) (hI : ka_I G) (C0 : ka_C p s m args meth c cL_built 37 "GlossRowsLaw" (some .boolean)) (hK : ka_Kn G s) (hT : ka_T9 (ka_A G) s) (hN : kl_Nc s) {Q : Int32 → ka_S → Prop} {K38 : ka_S → Int32 → Int64 → Int64 → Int64 → Int64 → Int64 → Int64 → Int32 → Int32 → Prop} {R38 : Nat} (hk38 : ∀ (σ : ka_S) (v1 : Int32) (v2 : Int64) (v4 : Int64) (v6 : Int64) (v8 : Int64) (v10 : Int64) (v12 : Int64) (v14 : Int32) (v15 : Int32), K38 σ v1 v2 v4 v6 v8 v10 v12 v14 v15 → ∀ (cl : Nat), cl + R38 ≤ 0 → ∀ (H : Heap) (locs : List Loc), ka_P G σ H → va_S (ka_A G) s.heap H locs → ∀ ls : Array Slot, lv_has ls 37 [(0, .ref (ka_a G (22, 0, 0))), (1, .int v1), (2, .long v2), (4, .long v4), (6, .long v6), (8, .long v8), (10, .long v10), (12, .long v12), (14, .int v14), (15, .int v15)] → W p l e rm_L_built s m args below meth c H locs cl (6 * cl) (MQ below (va_Qi Q (ka_B G) (ka_A G)) args s 0 0 (ka_A G)) (F0 m 38 ls [])) : ∀ (σ : ka_S) (v1 : Int32) (v2 : Int64) (v4 : Int64) (v6 : Int64) (v8 : Int64) (v10 : Int64) (v12 : Int64) (v15 : Int32) (v16 : Int64) (v18 : Int64) (v21 : Int64) (v23 : Int32) (v24 : Int64) (t0 : Int64), kw_L_built_208 K38 Q σ v1 v2 v4 v6 v8 v10 v12 v15 v16 v18 v21 v23 v24 t0 → ∀ (cl : Nat), cl + 0 + R38 ≤ 0 → ∀ (H : Heap) (locs : List Loc), ka_P G σ H → va_S (ka_A G) s.heap H locs → ∀ ls : Array Slot, lv_has ls 37 [(0, .ref (ka_a G (22, 0, 0))), (1, .int v1), (2, .long v2), (4, .long v4), (6, .long v6), (8, .long v8), (10, .long v10), (12, .long v12), (15, .int v15), (16, .long v16), (18, .long v18), (21, .long v21), (23, .int v23), (24, .long v24)] → W p l e rm_L_built s m args below meth c H locs cl (6 * cl) (MQ below (va_Qi Q (ka_B G) (ka_A G)) args s 0 0 (ka_A G)) (F0 m 208 ls [.long t0]) := by
  obtain ⟨hx, hb, -, hml, hown, hts, -⟩ := id C0
  intro σ v1 v2 v4 v6 v8 v10 v12 v15 v16 v18 v21 v23 v24 t0 hq cl hcl H locs hP hS ls hl
  unfold kw_L_built_208 at hq
  refine lv_lstore (lv' := [(26, .long t0), (0, .ref (ka_a G (22, 0, 0))), (1, .int v1), (2, .long v2), (4, .long v4), (6, .long v6), (8, .long v8), (10, .long v10), (12, .long v12), (15, .int v15), (16, .long v16), (18, .long v18), (21, .long v21), (23, .int v23), (24, .long v24)]) hx hb dL_built_208 hl (by decide) rfl (fun ls hl => ?_)
  refine lv_lload hx hb dL_built_210 (lv_at hl 5 rfl) ?_
  refine lv_aload_n hx hb dL_built_212 rfl (lv_at hl 1 rfl) ?_
  refine lv_iload hx hb dL_built_213 (lv_at hl 9 rfl) ?_
  refine lv_iconst (v := 0) hx hb dL_built_215 (by decide) ?_
  refine kj_Wl (As := [.ref (ka_a G (22, 0, 0)), .int v15, .int (0 : Int32)]) (rest := [.long v6]) C0 hK hT hN hP hS (fun _ h => h) hl (km0_L_word l hl0 hI hq) kd_L_word kq_563 ⟨rfl, rfl, Nat.le_of_ble_eq_true rfl, Nat.le_of_ble_eq_true rfl⟩ rfl (Nat.le_of_ble_eq_true rfl) dL_built_216 ⟨by show _ ≤ 0; omega, by show _ ≤ 0; omega⟩ (fun r64 σ65 H locs hq hP hkp hS => ?_)
  refine lv_ladd hx hb dL_built_219 ?_
  refine lv_topl (fun x66 ex66 => ?_)
  have hq := hq x66 ex66
  refine lv_lstore (lv' := [(6, .long x66), (26, .long t0), (0, .ref (ka_a G (22, 0, 0))), (1, .int v1), (2, .long v2), (4, .long v4), (8, .long v8), (10, .long v10), (12, .long v12), (15, .int v15), (16, .long v16), (18, .long v18), (21, .long v21), (23, .int v23), (24, .long v24)]) hx hb dL_built_220 hl (by decide) rfl (fun ls hl => ?_)
  refine lv_lload hx hb dL_built_222 (lv_at hl 6 rfl) ?_
  refine lv_aload_n hx hb dL_built_224 rfl (lv_at hl 2 rfl) ?_
  refine lv_iload hx hb dL_built_225 (lv_at hl 9 rfl) ?_
  refine lv_bipush (v := 6) hx hb dL_built_227 (by decide) ?_
  refine kj_Wl (As := [.ref (ka_a G (22, 0, 0)), .int v15, .int (6 : Int32)]) (rest := [.long v8]) C0 hK hT hN hP hS (fun _ h => h) hl (km0_L_word l hl0 hI hq) kd_L_word kq_563 ⟨rfl, rfl, Nat.le_of_ble_eq_true rfl, Nat.le_of_ble_eq_true rfl⟩ rfl (Nat.le_of_ble_eq_true rfl) dL_built_229 ⟨by show _ ≤ 0; omega, by show _ ≤ 0; omega⟩ (fun r67 σ68 H locs hq hP hkp hS => ?_)
  refine lv_ladd hx hb dL_built_232 ?_
  refine lv_topl (fun x69 ex69 => ?_)
  have hq := hq x69 ex69
  refine lv_lstore (lv' := [(8, .long x69), (6, .long x66), (26, .long t0), (0, .ref (ka_a G (22, 0, 0))), (1, .int v1), (2, .long v2), (4, .long v4), (10, .long v10), (12, .long v12), (15, .int v15), (16, .long v16), (18, .long v18), (21, .long v21), (23, .int v23), (24, .long v24)]) hx hb dL_built_233 hl (by decide) rfl (fun ls hl => ?_)
  refine lv_lload hx hb dL_built_235 (lv_at hl 7 rfl) ?_
  refine lv_lload hx hb dL_built_237 (lv_at hl 10 rfl) ?_
  refine lv_lload_n hx hb dL_built_239 rfl (lv_at hl 5 rfl) ?_
  refine kr_cle (tgt := 248) C0 dL_built_240 dL_built_241 (by decide) (fun hc => ?_) (fun hc => ?_)
  · have hq := hq.1 hc
    refine lv_lconst (v := 0) hx hb dL_built_248 (by decide) ?_
    refine W.widen (k := (cl + 0)) (n := 6 * (cl + 0)) (by omega) (by omega) ?_
    exact kb_L_built_249 (R38 := R38) hl0 hI C0 hK hT hN hk38 σ68 v1 v2 v4 x66 x69 v12 v15 v16 v18 v21 v23 v24 t0 v10 (0 : Int64) hq (cl + 0) (by omega) H locs hP hS ls (lv_sub hl [3, 4, 5, 6, 1, 0, 8, 9, 10, 11, 12, 13, 14, 2] rfl)
  · have hq := hq.2 hc
    refine lv_lconst (v := 1) hx hb dL_built_244 (by decide) ?_
    refine lv_goto (tgt := 249) hx hb dL_built_245 (by decide) ?_
    refine W.widen (k := (cl + 0)) (n := 6 * (cl + 0)) (by omega) (by omega) ?_
    exact kb_L_built_249 (R38 := R38) hl0 hI C0 hK hT hN hk38 σ68 v1 v2 v4 x66 x69 v12 v15 v16 v18 v21 v23 v24 t0 v10 (1 : Int64) hq (cl + 0) (by omega) H locs hP hS ls (lv_sub hl [3, 4, 5, 6, 1, 0, 8, 9, 10, 11, 12, 13, 14, 2] rfl)
def kw_L_built_207 (K38 : ka_S → Int32 → Int64 → Int64 → Int64 → Int64 → Int64 → Int64 → Int32 → Int32 → Prop) (Q : Int32 → ka_S → Prop) (σ : ka_S) (v1 : Int32) (v2 : Int64) (v4 : Int64) (v6 : Int64) (v8 : Int64) (v10 : Int64) (v12 : Int64) (v15 : Int32) (v16 : Int64) (v18 : Int64) (v21 : Int64) (v23 : Int32) (v24 : Int64) (t0 : Int64) (t1 : Int64) : Prop := kw_L_built_208 K38 Q σ v1 v2 v4 v6 v8 v10 v12 v15 v16 v18 v21 v23 v24 (t0 + t1)
set_option maxHeartbeats 4000000 in
set_option maxRecDepth 100000 in
theorem kb_L_built_207 {p : Program} {l : Launch} {e : Env} {s : State} {m : MethodId} {below : List Frame} {meth : Method} {c : Code} {G : ka_G} {args : Array Value} (hl0 : l.stackTraces = false) (hI : ka_I G) (C0 : ka_C p s m args meth c cL_built 37 "GlossRowsLaw" (some .boolean)) (hK : ka_Kn G s) (hT : ka_T9 (ka_A G) s) (hN : kl_Nc s) {Q : Int32 → ka_S → Prop} {K38 : ka_S → Int32 → Int64 → Int64 → Int64 → Int64 → Int64 → Int64 → Int32 → Int32 → Prop} {R38 : Nat} (hk38 : ∀ (σ : ka_S) (v1 : Int32) (v2 : Int64) (v4 : Int64) (v6 : Int64) (v8 : Int64) (v10 : Int64) (v12 : Int64) (v14 : Int32) (v15 : Int32), K38 σ v1 v2 v4 v6 v8 v10 v12 v14 v15 → ∀ (cl : Nat), cl + R38 ≤ 0 → ∀ (H : Heap) (locs : List Loc), ka_P G σ H → va_S (ka_A G) s.heap H locs → ∀ ls : Array Slot, lv_has ls 37 [(0, .ref (ka_a G (22, 0, 0))), (1, .int v1), (2, .long v2), (4, .long v4), (6, .long v6), (8, .long v8), (10, .long v10), (12, .long v12), (14, .int v14), (15, .int v15)] → W p l e rm_L_built s m args below meth c H locs cl (6 * cl) (MQ below (va_Qi Q (ka_B G) (ka_A G)) args s 0 0 (ka_A G)) (F0 m 38 ls [])) : ∀ (σ : ka_S) (v1 : Int32) (v2 : Int64) (v4 : Int64) (v6 : Int64) (v8 : Int64) (v10 : Int64) (v12 : Int64) (v15 : Int32) (v16 : Int64) (v18 : Int64) (v21 : Int64) (v23 : Int32) (v24 : Int64) (t0 : Int64) (t1 : Int64), kw_L_built_207 K38 Q σ v1 v2 v4 v6 v8 v10 v12 v15 v16 v18 v21 v23 v24 t0 t1 → ∀ (cl : Nat), cl + 0 + R38 ≤ 0 → ∀ (H : Heap) (locs : List Loc), ka_P G σ H → va_S (ka_A G) s.heap H locs → ∀ ls : Array Slot, lv_has ls 37 [(0, .ref (ka_a G (22, 0, 0))), (1, .int v1), (2, .long v2), (4, .long v4), (6, .long v6), (8, .long v8), (10, .long v10), (12, .long v12), (15, .int v15), (16, .long v16), (18, .long v18), (21, .long v21), (23, .int v23), (24, .long v24)] → W p l e rm_L_built s m args below meth c H locs cl (6 * cl) (MQ below (va_Qi Q (ka_B G) (ka_A G)) args s 0 0 (ka_A G)) (F0 m 207 ls [.long t1, .long t0]) := by
  obtain ⟨hx, hb, -, hml, hown, hts, -⟩ := id C0
  intro σ v1 v2 v4 v6 v8 v10 v12 v15 v16 v18 v21 v23 v24 t0 t1 hq cl hcl H locs hP hS ls hl
  unfold kw_L_built_207 at hq
  refine lv_ladd hx hb dL_built_207 ?_
  refine W.widen (k := (cl + 0)) (n := 6 * (cl + 0)) (by omega) (by omega) ?_
  exact kb_L_built_208 (R38 := R38) hl0 hI C0 hK hT hN hk38 σ v1 v2 v4 v6 v8 v10 v12 v15 v16 v18 v21 v23 v24 (t0 + t1) hq (cl + 0) (by omega) H locs hP hS ls (lv_sub hl [0, 1, 2, 3, 4, 5, 6, 7, 8, 9, 10, 11, 12, 13] rfl)
def kw_L_built_177 (K38 : ka_S → Int32 → Int64 → Int64 → Int64 → Int64 → Int64 → Int64 → Int32 → Int32 → Prop) (Q : Int32 → ka_S → Prop) (σ : ka_S) (v1 : Int32) (v2 : Int64) (v4 : Int64) (v6 : Int64) (v8 : Int64) (v10 : Int64) (v12 : Int64) (v15 : Int32) (v16 : Int64) (v18 : Int64) (v20 : Int32) (v21 : Int64) (v23 : Int32) (t0 : Int64) : Prop := (v15 = (0 : Int32) → kw_L_built_208 K38 Q σ v1 v2 v4 v6 v8 v10 v12 v15 v16 v18 v21 v23 t0 (0 : Int64)) ∧
  (¬ v15 = (0 : Int32) → kw0_L_word σ (v15 - (1 : Int32)) (4 : Int32) (fun r47 σ48 =>
    (v20 = (0 : Int32) → kw_L_built_207 K38 Q σ48 v1 v2 v4 v6 v8 v10 v12 v15 v16 v18 v21 v23 t0 r47 (0 : Int64)) ∧
    (¬ v20 = (0 : Int32) → kw_L_built_207 K38 Q σ48 v1 v2 v4 v6 v8 v10 v12 v15 v16 v18 v21 v23 t0 r47 (1 : Int64))))
set_option maxHeartbeats 4000000 in
set_option maxRecDepth 100000 in
theorem kb_L_built_177 {p : Program} {l : Launch} {e : Env} {s : State} {m : MethodId} {below : List Frame} {meth : Method} {c : Code} {G : ka_G} {args : Array Value} (hl0 : l.stackTraces = false) (hI : ka_I G) (C0 : ka_C p s m args meth c cL_built 37 "GlossRowsLaw" (some .boolean)) (hK : ka_Kn G s) (hT : ka_T9 (ka_A G) s) (hN : kl_Nc s) {Q : Int32 → ka_S → Prop} {K38 : ka_S → Int32 → Int64 → Int64 → Int64 → Int64 → Int64 → Int64 → Int32 → Int32 → Prop} {R38 : Nat} (hk38 : ∀ (σ : ka_S) (v1 : Int32) (v2 : Int64) (v4 : Int64) (v6 : Int64) (v8 : Int64) (v10 : Int64) (v12 : Int64) (v14 : Int32) (v15 : Int32), K38 σ v1 v2 v4 v6 v8 v10 v12 v14 v15 → ∀ (cl : Nat), cl + R38 ≤ 0 → ∀ (H : Heap) (locs : List Loc), ka_P G σ H → va_S (ka_A G) s.heap H locs → ∀ ls : Array Slot, lv_has ls 37 [(0, .ref (ka_a G (22, 0, 0))), (1, .int v1), (2, .long v2), (4, .long v4), (6, .long v6), (8, .long v8), (10, .long v10), (12, .long v12), (14, .int v14), (15, .int v15)] → W p l e rm_L_built s m args below meth c H locs cl (6 * cl) (MQ below (va_Qi Q (ka_B G) (ka_A G)) args s 0 0 (ka_A G)) (F0 m 38 ls [])) : ∀ (σ : ka_S) (v1 : Int32) (v2 : Int64) (v4 : Int64) (v6 : Int64) (v8 : Int64) (v10 : Int64) (v12 : Int64) (v15 : Int32) (v16 : Int64) (v18 : Int64) (v20 : Int32) (v21 : Int64) (v23 : Int32) (t0 : Int64), kw_L_built_177 K38 Q σ v1 v2 v4 v6 v8 v10 v12 v15 v16 v18 v20 v21 v23 t0 → ∀ (cl : Nat), cl + 0 + R38 ≤ 0 → ∀ (H : Heap) (locs : List Loc), ka_P G σ H → va_S (ka_A G) s.heap H locs → ∀ ls : Array Slot, lv_has ls 37 [(0, .ref (ka_a G (22, 0, 0))), (1, .int v1), (2, .long v2), (4, .long v4), (6, .long v6), (8, .long v8), (10, .long v10), (12, .long v12), (15, .int v15), (16, .long v16), (18, .long v18), (20, .int v20), (21, .long v21), (23, .int v23)] → W p l e rm_L_built s m args below meth c H locs cl (6 * cl) (MQ below (va_Qi Q (ka_B G) (ka_A G)) args s 0 0 (ka_A G)) (F0 m 177 ls [.long t0]) := by
  obtain ⟨hx, hb, -, hml, hown, hts, -⟩ := id C0
  intro σ v1 v2 v4 v6 v8 v10 v12 v15 v16 v18 v20 v21 v23 t0 hq cl hcl H locs hP hS ls hl
  unfold kw_L_built_177 at hq
  refine lv_lstore (lv' := [(24, .long t0), (0, .ref (ka_a G (22, 0, 0))), (1, .int v1), (2, .long v2), (4, .long v4), (6, .long v6), (8, .long v8), (10, .long v10), (12, .long v12), (15, .int v15), (16, .long v16), (18, .long v18), (20, .int v20), (21, .long v21), (23, .int v23)]) hx hb dL_built_177 hl (by decide) rfl (fun ls hl => ?_)
  refine lv_iload hx hb dL_built_179 (lv_at hl 9 rfl) ?_
  refine lv_if_ne (tgt := 188) hx hb dL_built_181 (by decide) (fun hc => ?_) (fun hc => ?_)
  · have hq := hq.2 hc
    refine lv_aload_n hx hb dL_built_188 rfl (lv_at hl 1 rfl) ?_
    refine lv_iload hx hb dL_built_189 (lv_at hl 9 rfl) ?_
    refine lv_iconst (v := 1) hx hb dL_built_191 (by decide) ?_
    refine lv_isub hx hb dL_built_192 ?_
    refine lv_iconst (v := 4) hx hb dL_built_193 (by decide) ?_
    refine kj_Wl (As := [.ref (ka_a G (22, 0, 0)), .int (v15 - (1 : Int32)), .int (4 : Int32)]) (rest := []) C0 hK hT hN hP hS (fun _ h => h) hl (km0_L_word l hl0 hI hq) kd_L_word kq_563 ⟨rfl, rfl, Nat.le_of_ble_eq_true rfl, Nat.le_of_ble_eq_true rfl⟩ rfl (Nat.le_of_ble_eq_true rfl) dL_built_194 ⟨by show _ ≤ 0; omega, by show _ ≤ 0; omega⟩ (fun r47 σ48 H locs hq hP hkp hS => ?_)
    refine lv_iload hx hb dL_built_197 (lv_at hl 12 rfl) ?_
    refine lv_if_eq (tgt := 206) hx hb dL_built_199 (by decide) (fun hc => ?_) (fun hc => ?_)
    · have hq := hq.1 hc
      refine lv_lconst (v := 0) hx hb dL_built_206 (by decide) ?_
      refine W.widen (k := (cl + 0)) (n := 6 * (cl + 0)) (by omega) (by omega) ?_
      exact kb_L_built_207 (R38 := R38) hl0 hI C0 hK hT hN hk38 σ48 v1 v2 v4 v6 v8 v10 v12 v15 v16 v18 v21 v23 t0 r47 (0 : Int64) hq (cl + 0) (by omega) H locs hP hS ls (lv_sub hl [1, 2, 3, 4, 5, 6, 7, 8, 9, 10, 11, 13, 14, 0] rfl)
    · have hq := hq.2 hc
      refine lv_lconst (v := 1) hx hb dL_built_202 (by decide) ?_
      refine lv_goto (tgt := 207) hx hb dL_built_203 (by decide) ?_
      refine W.widen (k := (cl + 0)) (n := 6 * (cl + 0)) (by omega) (by omega) ?_
      exact kb_L_built_207 (R38 := R38) hl0 hI C0 hK hT hN hk38 σ48 v1 v2 v4 v6 v8 v10 v12 v15 v16 v18 v21 v23 t0 r47 (1 : Int64) hq (cl + 0) (by omega) H locs hP hS ls (lv_sub hl [1, 2, 3, 4, 5, 6, 7, 8, 9, 10, 11, 13, 14, 0] rfl)
  · have hq := hq.1 hc
    refine lv_lconst (v := 0) hx hb dL_built_184 (by decide) ?_
    refine lv_goto (tgt := 208) hx hb dL_built_185 (by decide) ?_
    refine W.widen (k := (cl + 0)) (n := 6 * (cl + 0)) (by omega) (by omega) ?_
    exact kb_L_built_208 (R38 := R38) hl0 hI C0 hK hT hN hk38 σ v1 v2 v4 v6 v8 v10 v12 v15 v16 v18 v21 v23 t0 (0 : Int64) hq (cl + 0) (by omega) H locs hP hS ls (lv_sub hl [1, 2, 3, 4, 5, 6, 7, 8, 9, 10, 11, 13, 14, 0] rfl)
def kw_L_built_176 (K38 : ka_S → Int32 → Int64 → Int64 → Int64 → Int64 → Int64 → Int64 → Int32 → Int32 → Prop) (Q : Int32 → ka_S → Prop) (σ : ka_S) (v1 : Int32) (v2 : Int64) (v4 : Int64) (v6 : Int64) (v8 : Int64) (v10 : Int64) (v12 : Int64) (v15 : Int32) (v16 : Int64) (v18 : Int64) (v20 : Int32) (v21 : Int64) (v23 : Int32) (t0 : Int64) (t1 : Int64) : Prop := kw_L_built_177 K38 Q σ v1 v2 v4 v6 v8 v10 v12 v15 v16 v18 v20 v21 v23 (t0 + t1)
set_option maxHeartbeats 4000000 in
set_option maxRecDepth 100000 in
theorem kb_L_built_176 {p : Program} {l : Launch} {e : Env} {s : State} {m : MethodId} {below : List Frame} {meth : Method} {c : Code} {G : ka_G} {args : Array Value} (hl0 : l.stackTraces = false) (hI : ka_I G) (C0 : ka_C p s m args meth c cL_built 37 "GlossRowsLaw" (some .boolean)) (hK : ka_Kn G s) (hT : ka_T9 (ka_A G) s) (hN : kl_Nc s) {Q : Int32 → ka_S → Prop} {K38 : ka_S → Int32 → Int64 → Int64 → Int64 → Int64 → Int64 → Int64 → Int32 → Int32 → Prop} {R38 : Nat} (hk38 : ∀ (σ : ka_S) (v1 : Int32) (v2 : Int64) (v4 : Int64) (v6 : Int64) (v8 : Int64) (v10 : Int64) (v12 : Int64) (v14 : Int32) (v15 : Int32), K38 σ v1 v2 v4 v6 v8 v10 v12 v14 v15 → ∀ (cl : Nat), cl + R38 ≤ 0 → ∀ (H : Heap) (locs : List Loc), ka_P G σ H → va_S (ka_A G) s.heap H locs → ∀ ls : Array Slot, lv_has ls 37 [(0, .ref (ka_a G (22, 0, 0))), (1, .int v1), (2, .long v2), (4, .long v4), (6, .long v6), (8, .long v8), (10, .long v10), (12, .long v12), (14, .int v14), (15, .int v15)] → W p l e rm_L_built s m args below meth c H locs cl (6 * cl) (MQ below (va_Qi Q (ka_B G) (ka_A G)) args s 0 0 (ka_A G)) (F0 m 38 ls [])) : ∀ (σ : ka_S) (v1 : Int32) (v2 : Int64) (v4 : Int64) (v6 : Int64) (v8 : Int64) (v10 : Int64) (v12 : Int64) (v15 : Int32) (v16 : Int64) (v18 : Int64) (v20 : Int32) (v21 : Int64) (v23 : Int32) (t0 : Int64) (t1 : Int64), kw_L_built_176 K38 Q σ v1 v2 v4 v6 v8 v10 v12 v15 v16 v18 v20 v21 v23 t0 t1 → ∀ (cl : Nat), cl + 0 + R38 ≤ 0 → ∀ (H : Heap) (locs : List Loc), ka_P G σ H → va_S (ka_A G) s.heap H locs → ∀ ls : Array Slot, lv_has ls 37 [(0, .ref (ka_a G (22, 0, 0))), (1, .int v1), (2, .long v2), (4, .long v4), (6, .long v6), (8, .long v8), (10, .long v10), (12, .long v12), (15, .int v15), (16, .long v16), (18, .long v18), (20, .int v20), (21, .long v21), (23, .int v23)] → W p l e rm_L_built s m args below meth c H locs cl (6 * cl) (MQ below (va_Qi Q (ka_B G) (ka_A G)) args s 0 0 (ka_A G)) (F0 m 176 ls [.long t1, .long t0]) := by
  obtain ⟨hx, hb, -, hml, hown, hts, -⟩ := id C0
  intro σ v1 v2 v4 v6 v8 v10 v12 v15 v16 v18 v20 v21 v23 t0 t1 hq cl hcl H locs hP hS ls hl
  unfold kw_L_built_176 at hq
  refine lv_ladd hx hb dL_built_176 ?_
  refine W.widen (k := (cl + 0)) (n := 6 * (cl + 0)) (by omega) (by omega) ?_
  exact kb_L_built_177 (R38 := R38) hl0 hI C0 hK hT hN hk38 σ v1 v2 v4 v6 v8 v10 v12 v15 v16 v18 v20 v21 v23 (t0 + t1) hq (cl + 0) (by omega) H locs hP hS ls (lv_sub hl [0, 1, 2, 3, 4, 5, 6, 7, 8, 9, 10, 11, 12, 13] rfl)
def kw_L_built_146 (K38 : ka_S → Int32 → Int64 → Int64 → Int64 → Int64 → Int64 → Int64 → Int32 → Int32 → Prop) (Q : Int32 → ka_S → Prop) (σ : ka_S) (v1 : Int32) (v2 : Int64) (v4 : Int64) (v6 : Int64) (v8 : Int64) (v10 : Int64) (v12 : Int64) (v15 : Int32) (v16 : Int64) (v18 : Int64) (v20 : Int32) (v21 : Int64) (t0 : Int32) : Prop := (v15 = (0 : Int32) → kw_L_built_177 K38 Q σ v1 v2 v4 v6 v8 v10 v12 v15 v16 v18 v20 v21 t0 (0 : Int64)) ∧
  (¬ v15 = (0 : Int32) → kw0_L_word σ (v15 - (1 : Int32)) (2 : Int32) (fun r41 σ42 =>
    (t0 = (0 : Int32) → kw_L_built_176 K38 Q σ42 v1 v2 v4 v6 v8 v10 v12 v15 v16 v18 v20 v21 t0 r41 (1 : Int64)) ∧
    (¬ t0 = (0 : Int32) → kw_L_built_176 K38 Q σ42 v1 v2 v4 v6 v8 v10 v12 v15 v16 v18 v20 v21 t0 r41 (0 : Int64))))
set_option maxHeartbeats 4000000 in
set_option maxRecDepth 100000 in
theorem kb_L_built_146 {p : Program} {l : Launch} {e : Env} {s : State} {m : MethodId} {below : List Frame} {meth : Method} {c : Code} {G : ka_G} {args : Array Value} (hl0 : l.stackTraces = false) (hI : ka_I G) (C0 : ka_C p s m args meth c cL_built 37 "GlossRowsLaw" (some .boolean)) (hK : ka_Kn G s) (hT : ka_T9 (ka_A G) s) (hN : kl_Nc s) {Q : Int32 → ka_S → Prop} {K38 : ka_S → Int32 → Int64 → Int64 → Int64 → Int64 → Int64 → Int64 → Int32 → Int32 → Prop} {R38 : Nat} (hk38 : ∀ (σ : ka_S) (v1 : Int32) (v2 : Int64) (v4 : Int64) (v6 : Int64) (v8 : Int64) (v10 : Int64) (v12 : Int64) (v14 : Int32) (v15 : Int32), K38 σ v1 v2 v4 v6 v8 v10 v12 v14 v15 → ∀ (cl : Nat), cl + R38 ≤ 0 → ∀ (H : Heap) (locs : List Loc), ka_P G σ H → va_S (ka_A G) s.heap H locs → ∀ ls : Array Slot, lv_has ls 37 [(0, .ref (ka_a G (22, 0, 0))), (1, .int v1), (2, .long v2), (4, .long v4), (6, .long v6), (8, .long v8), (10, .long v10), (12, .long v12), (14, .int v14), (15, .int v15)] → W p l e rm_L_built s m args below meth c H locs cl (6 * cl) (MQ below (va_Qi Q (ka_B G) (ka_A G)) args s 0 0 (ka_A G)) (F0 m 38 ls [])) : ∀ (σ : ka_S) (v1 : Int32) (v2 : Int64) (v4 : Int64) (v6 : Int64) (v8 : Int64) (v10 : Int64) (v12 : Int64) (v15 : Int32) (v16 : Int64) (v18 : Int64) (v20 : Int32) (v21 : Int64) (t0 : Int32), kw_L_built_146 K38 Q σ v1 v2 v4 v6 v8 v10 v12 v15 v16 v18 v20 v21 t0 → ∀ (cl : Nat), cl + 0 + R38 ≤ 0 → ∀ (H : Heap) (locs : List Loc), ka_P G σ H → va_S (ka_A G) s.heap H locs → ∀ ls : Array Slot, lv_has ls 37 [(0, .ref (ka_a G (22, 0, 0))), (1, .int v1), (2, .long v2), (4, .long v4), (6, .long v6), (8, .long v8), (10, .long v10), (12, .long v12), (15, .int v15), (16, .long v16), (18, .long v18), (20, .int v20), (21, .long v21)] → W p l e rm_L_built s m args below meth c H locs cl (6 * cl) (MQ below (va_Qi Q (ka_B G) (ka_A G)) args s 0 0 (ka_A G)) (F0 m 146 ls [.int t0]) := by
  obtain ⟨hx, hb, -, hml, hown, hts, -⟩ := id C0
  intro σ v1 v2 v4 v6 v8 v10 v12 v15 v16 v18 v20 v21 t0 hq cl hcl H locs hP hS ls hl
  unfold kw_L_built_146 at hq
  refine lv_istore (lv' := [(23, .int t0), (0, .ref (ka_a G (22, 0, 0))), (1, .int v1), (2, .long v2), (4, .long v4), (6, .long v6), (8, .long v8), (10, .long v10), (12, .long v12), (15, .int v15), (16, .long v16), (18, .long v18), (20, .int v20), (21, .long v21)]) hx hb dL_built_146 hl (by decide) rfl (fun ls hl => ?_)
  refine lv_iload hx hb dL_built_148 (lv_at hl 9 rfl) ?_
  refine lv_if_ne (tgt := 157) hx hb dL_built_150 (by decide) (fun hc => ?_) (fun hc => ?_)
  · have hq := hq.2 hc
    refine lv_aload_n hx hb dL_built_157 rfl (lv_at hl 1 rfl) ?_
    refine lv_iload hx hb dL_built_158 (lv_at hl 9 rfl) ?_
    refine lv_iconst (v := 1) hx hb dL_built_160 (by decide) ?_
    refine lv_isub hx hb dL_built_161 ?_
    refine lv_iconst (v := 2) hx hb dL_built_162 (by decide) ?_
    refine kj_Wl (As := [.ref (ka_a G (22, 0, 0)), .int (v15 - (1 : Int32)), .int (2 : Int32)]) (rest := []) C0 hK hT hN hP hS (fun _ h => h) hl (km0_L_word l hl0 hI hq) kd_L_word kq_563 ⟨rfl, rfl, Nat.le_of_ble_eq_true rfl, Nat.le_of_ble_eq_true rfl⟩ rfl (Nat.le_of_ble_eq_true rfl) dL_built_163 ⟨by show _ ≤ 0; omega, by show _ ≤ 0; omega⟩ (fun r41 σ42 H locs hq hP hkp hS => ?_)
    refine lv_iload hx hb dL_built_166 (lv_at hl 0 rfl) ?_
    refine lv_if_eq (tgt := 175) hx hb dL_built_168 (by decide) (fun hc => ?_) (fun hc => ?_)
    · have hq := hq.1 hc
      refine lv_lconst (v := 1) hx hb dL_built_175 (by decide) ?_
      refine W.widen (k := (cl + 0)) (n := 6 * (cl + 0)) (by omega) (by omega) ?_
      exact kb_L_built_176 (R38 := R38) hl0 hI C0 hK hT hN hk38 σ42 v1 v2 v4 v6 v8 v10 v12 v15 v16 v18 v20 v21 t0 r41 (1 : Int64) hq (cl + 0) (by omega) H locs hP hS ls (lv_sub hl [1, 2, 3, 4, 5, 6, 7, 8, 9, 10, 11, 12, 13, 0] rfl)
    · have hq := hq.2 hc
      refine lv_lconst (v := 0) hx hb dL_built_171 (by decide) ?_
      refine lv_goto (tgt := 176) hx hb dL_built_172 (by decide) ?_
      refine W.widen (k := (cl + 0)) (n := 6 * (cl + 0)) (by omega) (by omega) ?_
      exact kb_L_built_176 (R38 := R38) hl0 hI C0 hK hT hN hk38 σ42 v1 v2 v4 v6 v8 v10 v12 v15 v16 v18 v20 v21 t0 r41 (0 : Int64) hq (cl + 0) (by omega) H locs hP hS ls (lv_sub hl [1, 2, 3, 4, 5, 6, 7, 8, 9, 10, 11, 12, 13, 0] rfl)
  · have hq := hq.1 hc
    refine lv_lconst (v := 0) hx hb dL_built_153 (by decide) ?_
    refine lv_goto (tgt := 177) hx hb dL_built_154 (by decide) ?_
    refine W.widen (k := (cl + 0)) (n := 6 * (cl + 0)) (by omega) (by omega) ?_
    exact kb_L_built_177 (R38 := R38) hl0 hI C0 hK hT hN hk38 σ v1 v2 v4 v6 v8 v10 v12 v15 v16 v18 v20 v21 t0 (0 : Int64) hq (cl + 0) (by omega) H locs hP hS ls (lv_sub hl [1, 2, 3, 4, 5, 6, 7, 8, 9, 10, 11, 12, 13, 0] rfl)
def kw_L_built_145 (K38 : ka_S → Int32 → Int64 → Int64 → Int64 → Int64 → Int64 → Int64 → Int32 → Int32 → Prop) (Q : Int32 → ka_S → Prop) (σ : ka_S) (v1 : Int32) (v2 : Int64) (v4 : Int64) (v6 : Int64) (v8 : Int64) (v10 : Int64) (v12 : Int64) (v15 : Int32) (v16 : Int64) (v18 : Int64) (v20 : Int32) (v21 : Int64) : Prop := kw_L_built_146 K38 Q σ v1 v2 v4 v6 v8 v10 v12 v15 v16 v18 v20 v21 (0 : Int32)
set_option maxHeartbeats 4000000 in
set_option maxRecDepth 100000 in
theorem kb_L_built_145 {p : Program} {l : Launch} {e : Env} {s : State} {m : MethodId} {below : List Frame} {meth : Method} {c : Code} {G : ka_G} {args : Array Value} (hl0 : l.stackTraces = false) (hI : ka_I G) (C0 : ka_C p s m args meth c cL_built 37 "GlossRowsLaw" (some .boolean)) (hK : ka_Kn G s) (hT : ka_T9 (ka_A G) s) (hN : kl_Nc s) {Q : Int32 → ka_S → Prop} {K38 : ka_S → Int32 → Int64 → Int64 → Int64 → Int64 → Int64 → Int64 → Int32 → Int32 → Prop} {R38 : Nat} (hk38 : ∀ (σ : ka_S) (v1 : Int32) (v2 : Int64) (v4 : Int64) (v6 : Int64) (v8 : Int64) (v10 : Int64) (v12 : Int64) (v14 : Int32) (v15 : Int32), K38 σ v1 v2 v4 v6 v8 v10 v12 v14 v15 → ∀ (cl : Nat), cl + R38 ≤ 0 → ∀ (H : Heap) (locs : List Loc), ka_P G σ H → va_S (ka_A G) s.heap H locs → ∀ ls : Array Slot, lv_has ls 37 [(0, .ref (ka_a G (22, 0, 0))), (1, .int v1), (2, .long v2), (4, .long v4), (6, .long v6), (8, .long v8), (10, .long v10), (12, .long v12), (14, .int v14), (15, .int v15)] → W p l e rm_L_built s m args below meth c H locs cl (6 * cl) (MQ below (va_Qi Q (ka_B G) (ka_A G)) args s 0 0 (ka_A G)) (F0 m 38 ls [])) : ∀ (σ : ka_S) (v1 : Int32) (v2 : Int64) (v4 : Int64) (v6 : Int64) (v8 : Int64) (v10 : Int64) (v12 : Int64) (v15 : Int32) (v16 : Int64) (v18 : Int64) (v20 : Int32) (v21 : Int64), kw_L_built_145 K38 Q σ v1 v2 v4 v6 v8 v10 v12 v15 v16 v18 v20 v21 → ∀ (cl : Nat), cl + 0 + R38 ≤ 0 → ∀ (H : Heap) (locs : List Loc), ka_P G σ H → va_S (ka_A G) s.heap H locs → ∀ ls : Array Slot, lv_has ls 37 [(0, .ref (ka_a G (22, 0, 0))), (1, .int v1), (2, .long v2), (4, .long v4), (6, .long v6), (8, .long v8), (10, .long v10), (12, .long v12), (15, .int v15), (16, .long v16), (18, .long v18), (20, .int v20), (21, .long v21)] → W p l e rm_L_built s m args below meth c H locs cl (6 * cl) (MQ below (va_Qi Q (ka_B G) (ka_A G)) args s 0 0 (ka_A G)) (F0 m 145 ls []) := by
  obtain ⟨hx, hb, -, hml, hown, hts, -⟩ := id C0
  intro σ v1 v2 v4 v6 v8 v10 v12 v15 v16 v18 v20 v21 hq cl hcl H locs hP hS ls hl
  unfold kw_L_built_145 at hq
  refine lv_iconst (v := 0) hx hb dL_built_145 (by decide) ?_
  refine W.widen (k := (cl + 0)) (n := 6 * (cl + 0)) (by omega) (by omega) ?_
  exact kb_L_built_146 (R38 := R38) hl0 hI C0 hK hT hN hk38 σ v1 v2 v4 v6 v8 v10 v12 v15 v16 v18 v20 v21 (0 : Int32) hq (cl + 0) (by omega) H locs hP hS ls (lv_sub hl [0, 1, 2, 3, 4, 5, 6, 7, 8, 9, 10, 11, 12] rfl)
def kw_L_built_124 (K38 : ka_S → Int32 → Int64 → Int64 → Int64 → Int64 → Int64 → Int64 → Int32 → Int32 → Prop) (Q : Int32 → ka_S → Prop) (σ : ka_S) (v1 : Int32) (v2 : Int64) (v4 : Int64) (v6 : Int64) (v8 : Int64) (v10 : Int64) (v12 : Int64) (v15 : Int32) (v16 : Int64) (v18 : Int64) (v20 : Int32) (t0 : Int64) : Prop := (v20 = (0 : Int32) → (v2 < (t0 + v16) → kw_L_built_145 K38 Q σ v1 v2 v4 v6 v8 v10 v12 v15 v16 v18 v20 t0) ∧
    (¬ v2 < (t0 + v16) → kw_L_built_146 K38 Q σ v1 v2 v4 v6 v8 v10 v12 v15 v16 v18 v20 t0 (1 : Int32))) ∧
  (¬ v20 = (0 : Int32) → kw_L_built_145 K38 Q σ v1 v2 v4 v6 v8 v10 v12 v15 v16 v18 v20 t0)
set_option maxHeartbeats 4000000 in
set_option maxRecDepth 100000 in
theorem kb_L_built_124 {p : Program} {l : Launch} {e : Env} {s : State} {m : MethodId} {below : List Frame} {meth : Method} {c : Code} {G : ka_G} {args : Array Value} (hl0 : l.stackTraces = false) (hI : ka_I G) (C0 : ka_C p s m args meth c cL_built 37 "GlossRowsLaw" (some .boolean)) (hK : ka_Kn G s) (hT : ka_T9 (ka_A G) s) (hN : kl_Nc s) {Q : Int32 → ka_S → Prop} {K38 : ka_S → Int32 → Int64 → Int64 → Int64 → Int64 → Int64 → Int64 → Int32 → Int32 → Prop} {R38 : Nat} (hk38 : ∀ (σ : ka_S) (v1 : Int32) (v2 : Int64) (v4 : Int64) (v6 : Int64) (v8 : Int64) (v10 : Int64) (v12 : Int64) (v14 : Int32) (v15 : Int32), K38 σ v1 v2 v4 v6 v8 v10 v12 v14 v15 → ∀ (cl : Nat), cl + R38 ≤ 0 → ∀ (H : Heap) (locs : List Loc), ka_P G σ H → va_S (ka_A G) s.heap H locs → ∀ ls : Array Slot, lv_has ls 37 [(0, .ref (ka_a G (22, 0, 0))), (1, .int v1), (2, .long v2), (4, .long v4), (6, .long v6), (8, .long v8), (10, .long v10), (12, .long v12), (14, .int v14), (15, .int v15)] → W p l e rm_L_built s m args below meth c H locs cl (6 * cl) (MQ below (va_Qi Q (ka_B G) (ka_A G)) args s 0 0 (ka_A G)) (F0 m 38 ls [])) : ∀ (σ : ka_S) (v1 : Int32) (v2 : Int64) (v4 : Int64) (v6 : Int64) (v8 : Int64) (v10 : Int64) (v12 : Int64) (v15 : Int32) (v16 : Int64) (v18 : Int64) (v20 : Int32) (t0 : Int64), kw_L_built_124 K38 Q σ v1 v2 v4 v6 v8 v10 v12 v15 v16 v18 v20 t0 → ∀ (cl : Nat), cl + 0 + R38 ≤ 0 → ∀ (H : Heap) (locs : List Loc), ka_P G σ H → va_S (ka_A G) s.heap H locs → ∀ ls : Array Slot, lv_has ls 37 [(0, .ref (ka_a G (22, 0, 0))), (1, .int v1), (2, .long v2), (4, .long v4), (6, .long v6), (8, .long v8), (10, .long v10), (12, .long v12), (15, .int v15), (16, .long v16), (18, .long v18), (20, .int v20)] → W p l e rm_L_built s m args below meth c H locs cl (6 * cl) (MQ below (va_Qi Q (ka_B G) (ka_A G)) args s 0 0 (ka_A G)) (F0 m 124 ls [.long t0]) := by
  obtain ⟨hx, hb, -, hml, hown, hts, -⟩ := id C0
  intro σ v1 v2 v4 v6 v8 v10 v12 v15 v16 v18 v20 t0 hq cl hcl H locs hP hS ls hl
  unfold kw_L_built_124 at hq
  refine lv_lstore (lv' := [(21, .long t0), (0, .ref (ka_a G (22, 0, 0))), (1, .int v1), (2, .long v2), (4, .long v4), (6, .long v6), (8, .long v8), (10, .long v10), (12, .long v12), (15, .int v15), (16, .long v16), (18, .long v18), (20, .int v20)]) hx hb dL_built_124 hl (by decide) rfl (fun ls hl => ?_)
  refine lv_iload hx hb dL_built_126 (lv_at hl 12 rfl) ?_
  refine lv_if_ne (tgt := 145) hx hb dL_built_128 (by decide) (fun hc => ?_) (fun hc => ?_)
  · have hq := hq.2 hc
    refine W.widen (k := (cl + 0)) (n := 6 * (cl + 0)) (by omega) (by omega) ?_
    exact kb_L_built_145 (R38 := R38) hl0 hI C0 hK hT hN hk38 σ v1 v2 v4 v6 v8 v10 v12 v15 v16 v18 v20 t0 hq (cl + 0) (by omega) H locs hP hS ls (lv_sub hl [1, 2, 3, 4, 5, 6, 7, 8, 9, 10, 11, 12, 0] rfl)
  · have hq := hq.1 hc
    refine lv_lload hx hb dL_built_131 (lv_at hl 0 rfl) ?_
    refine lv_lload hx hb dL_built_133 (lv_at hl 10 rfl) ?_
    refine lv_ladd hx hb dL_built_135 ?_
    refine lv_lload_n hx hb dL_built_136 rfl (lv_at hl 3 rfl) ?_
    refine kr_cgt (tgt := 145) C0 dL_built_137 dL_built_138 (by decide) (fun hc => ?_) (fun hc => ?_)
    · have hq := hq.1 hc
      refine W.widen (k := (cl + 0)) (n := 6 * (cl + 0)) (by omega) (by omega) ?_
      exact kb_L_built_145 (R38 := R38) hl0 hI C0 hK hT hN hk38 σ v1 v2 v4 v6 v8 v10 v12 v15 v16 v18 v20 t0 hq (cl + 0) (by omega) H locs hP hS ls (lv_sub hl [1, 2, 3, 4, 5, 6, 7, 8, 9, 10, 11, 12, 0] rfl)
    · have hq := hq.2 hc
      refine lv_iconst (v := 1) hx hb dL_built_141 (by decide) ?_
      refine lv_goto (tgt := 146) hx hb dL_built_142 (by decide) ?_
      refine W.widen (k := (cl + 0)) (n := 6 * (cl + 0)) (by omega) (by omega) ?_
      exact kb_L_built_146 (R38 := R38) hl0 hI C0 hK hT hN hk38 σ v1 v2 v4 v6 v8 v10 v12 v15 v16 v18 v20 t0 (1 : Int32) hq (cl + 0) (by omega) H locs hP hS ls (lv_sub hl [1, 2, 3, 4, 5, 6, 7, 8, 9, 10, 11, 12, 0] rfl)
def kw_L_built_91 (K38 : ka_S → Int32 → Int64 → Int64 → Int64 → Int64 → Int64 → Int64 → Int32 → Int32 → Prop) (Q : Int32 → ka_S → Prop) (σ : ka_S) (v1 : Int32) (v2 : Int64) (v4 : Int64) (v6 : Int64) (v8 : Int64) (v10 : Int64) (v12 : Int64) (v15 : Int32) (v16 : Int64) (v18 : Int64) (t0 : Int32) : Prop := (v15 = (0 : Int32) → kw_L_built_124 K38 Q σ v1 v2 v4 v6 v8 v10 v12 v15 v16 v18 t0 (0 : Int64)) ∧
  (¬ v15 = (0 : Int32) → kw0_L_word σ (v15 - (1 : Int32)) (3 : Int32) (fun r19 σ20 =>
    kw0_L_word σ20 (v15 - (1 : Int32)) (1 : Int32) (fun r21 σ22 =>
    kw_L_built_124 K38 Q σ22 v1 v2 v4 v6 v8 v10 v12 v15 v16 v18 t0 ((r19 + r21) + v4))))
set_option maxHeartbeats 4000000 in
set_option maxRecDepth 100000 in
theorem kb_L_built_91 {p : Program} {l : Launch} {e : Env} {s : State} {m : MethodId} {below : List Frame} {meth : Method} {c : Code} {G : ka_G} {args : Array Value} (hl0 : l.stackTraces = false) (hI : ka_I G) (C0 : ka_C p s m args meth c cL_built 37 "GlossRowsLaw" (some .boolean)) (hK : ka_Kn G s) (hT : ka_T9 (ka_A G) s) (hN : kl_Nc s) {Q : Int32 → ka_S → Prop} {K38 : ka_S → Int32 → Int64 → Int64 → Int64 → Int64 → Int64 → Int64 → Int32 → Int32 → Prop} {R38 : Nat} (hk38 : ∀ (σ : ka_S) (v1 : Int32) (v2 : Int64) (v4 : Int64) (v6 : Int64) (v8 : Int64) (v10 : Int64) (v12 : Int64) (v14 : Int32) (v15 : Int32), K38 σ v1 v2 v4 v6 v8 v10 v12 v14 v15 → ∀ (cl : Nat), cl + R38 ≤ 0 → ∀ (H : Heap) (locs : List Loc), ka_P G σ H → va_S (ka_A G) s.heap H locs → ∀ ls : Array Slot, lv_has ls 37 [(0, .ref (ka_a G (22, 0, 0))), (1, .int v1), (2, .long v2), (4, .long v4), (6, .long v6), (8, .long v8), (10, .long v10), (12, .long v12), (14, .int v14), (15, .int v15)] → W p l e rm_L_built s m args below meth c H locs cl (6 * cl) (MQ below (va_Qi Q (ka_B G) (ka_A G)) args s 0 0 (ka_A G)) (F0 m 38 ls [])) : ∀ (σ : ka_S) (v1 : Int32) (v2 : Int64) (v4 : Int64) (v6 : Int64) (v8 : Int64) (v10 : Int64) (v12 : Int64) (v15 : Int32) (v16 : Int64) (v18 : Int64) (t0 : Int32), kw_L_built_91 K38 Q σ v1 v2 v4 v6 v8 v10 v12 v15 v16 v18 t0 → ∀ (cl : Nat), cl + 0 + R38 ≤ 0 → ∀ (H : Heap) (locs : List Loc), ka_P G σ H → va_S (ka_A G) s.heap H locs → ∀ ls : Array Slot, lv_has ls 37 [(0, .ref (ka_a G (22, 0, 0))), (1, .int v1), (2, .long v2), (4, .long v4), (6, .long v6), (8, .long v8), (10, .long v10), (12, .long v12), (15, .int v15), (16, .long v16), (18, .long v18)] → W p l e rm_L_built s m args below meth c H locs cl (6 * cl) (MQ below (va_Qi Q (ka_B G) (ka_A G)) args s 0 0 (ka_A G)) (F0 m 91 ls [.int t0]) := by
  obtain ⟨hx, hb, -, hml, hown, hts, -⟩ := id C0
  intro σ v1 v2 v4 v6 v8 v10 v12 v15 v16 v18 t0 hq cl hcl H locs hP hS ls hl
  unfold kw_L_built_91 at hq
  refine lv_istore (lv' := [(20, .int t0), (0, .ref (ka_a G (22, 0, 0))), (1, .int v1), (2, .long v2), (4, .long v4), (6, .long v6), (8, .long v8), (10, .long v10), (12, .long v12), (15, .int v15), (16, .long v16), (18, .long v18)]) hx hb dL_built_91 hl (by decide) rfl (fun ls hl => ?_)
  refine lv_iload hx hb dL_built_93 (lv_at hl 9 rfl) ?_
  refine lv_if_ne (tgt := 102) hx hb dL_built_95 (by decide) (fun hc => ?_) (fun hc => ?_)
  · have hq := hq.2 hc
    refine lv_aload_n hx hb dL_built_102 rfl (lv_at hl 1 rfl) ?_
    refine lv_iload hx hb dL_built_103 (lv_at hl 9 rfl) ?_
    refine lv_iconst (v := 1) hx hb dL_built_105 (by decide) ?_
    refine lv_isub hx hb dL_built_106 ?_
    refine lv_iconst (v := 3) hx hb dL_built_107 (by decide) ?_
    refine kj_Wl (As := [.ref (ka_a G (22, 0, 0)), .int (v15 - (1 : Int32)), .int (3 : Int32)]) (rest := []) C0 hK hT hN hP hS (fun _ h => h) hl (km0_L_word l hl0 hI hq) kd_L_word kq_563 ⟨rfl, rfl, Nat.le_of_ble_eq_true rfl, Nat.le_of_ble_eq_true rfl⟩ rfl (Nat.le_of_ble_eq_true rfl) dL_built_108 ⟨by show _ ≤ 0; omega, by show _ ≤ 0; omega⟩ (fun r19 σ20 H locs hq hP hkp hS => ?_)
    refine lv_aload_n hx hb dL_built_111 rfl (lv_at hl 1 rfl) ?_
    refine lv_iload hx hb dL_built_112 (lv_at hl 9 rfl) ?_
    refine lv_iconst (v := 1) hx hb dL_built_114 (by decide) ?_
    refine lv_isub hx hb dL_built_115 ?_
    refine lv_iconst (v := 1) hx hb dL_built_116 (by decide) ?_
    refine kj_Wl (As := [.ref (ka_a G (22, 0, 0)), .int (v15 - (1 : Int32)), .int (1 : Int32)]) (rest := [.long r19]) C0 hK hT hN hP hS (fun _ h => h) hl (km0_L_word l hl0 hI hq) kd_L_word kq_563 ⟨rfl, rfl, Nat.le_of_ble_eq_true rfl, Nat.le_of_ble_eq_true rfl⟩ rfl (Nat.le_of_ble_eq_true rfl) dL_built_117 ⟨by show _ ≤ 0; omega, by show _ ≤ 0; omega⟩ (fun r21 σ22 H locs hq hP hkp hS => ?_)
    refine lv_ladd hx hb dL_built_120 ?_
    refine lv_lload hx hb dL_built_121 (lv_at hl 4 rfl) ?_
    refine lv_ladd hx hb dL_built_123 ?_
    refine W.widen (k := (cl + 0)) (n := 6 * (cl + 0)) (by omega) (by omega) ?_
    exact kb_L_built_124 (R38 := R38) hl0 hI C0 hK hT hN hk38 σ22 v1 v2 v4 v6 v8 v10 v12 v15 v16 v18 t0 ((r19 + r21) + v4) hq (cl + 0) (by omega) H locs hP hS ls (lv_sub hl [1, 2, 3, 4, 5, 6, 7, 8, 9, 10, 11, 0] rfl)
  · have hq := hq.1 hc
    refine lv_lconst (v := 0) hx hb dL_built_98 (by decide) ?_
    refine lv_goto (tgt := 124) hx hb dL_built_99 (by decide) ?_
    refine W.widen (k := (cl + 0)) (n := 6 * (cl + 0)) (by omega) (by omega) ?_
    exact kb_L_built_124 (R38 := R38) hl0 hI C0 hK hT hN hk38 σ v1 v2 v4 v6 v8 v10 v12 v15 v16 v18 t0 (0 : Int64) hq (cl + 0) (by omega) H locs hP hS ls (lv_sub hl [1, 2, 3, 4, 5, 6, 7, 8, 9, 10, 11, 0] rfl)
def kw_L_built_86 (K38 : ka_S → Int32 → Int64 → Int64 → Int64 → Int64 → Int64 → Int64 → Int32 → Int32 → Prop) (Q : Int32 → ka_S → Prop) (σ : ka_S) (v1 : Int32) (v2 : Int64) (v4 : Int64) (v6 : Int64) (v8 : Int64) (v10 : Int64) (v12 : Int64) (v15 : Int32) (v16 : Int64) (v18 : Int64) : Prop := kw_L_built_91 K38 Q σ v1 v2 v4 v6 v8 v10 v12 v15 v16 v18 (1 : Int32)
set_option maxHeartbeats 4000000 in
set_option maxRecDepth 100000 in
theorem kb_L_built_86 {p : Program} {l : Launch} {e : Env} {s : State} {m : MethodId} {below : List Frame} {meth : Method} {c : Code} {G : ka_G} {args : Array Value} (hl0 : l.stackTraces = false) (hI : ka_I G) (C0 : ka_C p s m args meth c cL_built 37 "GlossRowsLaw" (some .boolean)) (hK : ka_Kn G s) (hT : ka_T9 (ka_A G) s) (hN : kl_Nc s) {Q : Int32 → ka_S → Prop} {K38 : ka_S → Int32 → Int64 → Int64 → Int64 → Int64 → Int64 → Int64 → Int32 → Int32 → Prop} {R38 : Nat} (hk38 : ∀ (σ : ka_S) (v1 : Int32) (v2 : Int64) (v4 : Int64) (v6 : Int64) (v8 : Int64) (v10 : Int64) (v12 : Int64) (v14 : Int32) (v15 : Int32), K38 σ v1 v2 v4 v6 v8 v10 v12 v14 v15 → ∀ (cl : Nat), cl + R38 ≤ 0 → ∀ (H : Heap) (locs : List Loc), ka_P G σ H → va_S (ka_A G) s.heap H locs → ∀ ls : Array Slot, lv_has ls 37 [(0, .ref (ka_a G (22, 0, 0))), (1, .int v1), (2, .long v2), (4, .long v4), (6, .long v6), (8, .long v8), (10, .long v10), (12, .long v12), (14, .int v14), (15, .int v15)] → W p l e rm_L_built s m args below meth c H locs cl (6 * cl) (MQ below (va_Qi Q (ka_B G) (ka_A G)) args s 0 0 (ka_A G)) (F0 m 38 ls [])) : ∀ (σ : ka_S) (v1 : Int32) (v2 : Int64) (v4 : Int64) (v6 : Int64) (v8 : Int64) (v10 : Int64) (v12 : Int64) (v15 : Int32) (v16 : Int64) (v18 : Int64), kw_L_built_86 K38 Q σ v1 v2 v4 v6 v8 v10 v12 v15 v16 v18 → ∀ (cl : Nat), cl + 0 + R38 ≤ 0 → ∀ (H : Heap) (locs : List Loc), ka_P G σ H → va_S (ka_A G) s.heap H locs → ∀ ls : Array Slot, lv_has ls 37 [(0, .ref (ka_a G (22, 0, 0))), (1, .int v1), (2, .long v2), (4, .long v4), (6, .long v6), (8, .long v8), (10, .long v10), (12, .long v12), (15, .int v15), (16, .long v16), (18, .long v18)] → W p l e rm_L_built s m args below meth c H locs cl (6 * cl) (MQ below (va_Qi Q (ka_B G) (ka_A G)) args s 0 0 (ka_A G)) (F0 m 86 ls []) := by
  obtain ⟨hx, hb, -, hml, hown, hts, -⟩ := id C0
  intro σ v1 v2 v4 v6 v8 v10 v12 v15 v16 v18 hq cl hcl H locs hP hS ls hl
  unfold kw_L_built_86 at hq
  refine lv_iconst (v := 1) hx hb dL_built_86 (by decide) ?_
  refine lv_goto (tgt := 91) hx hb dL_built_87 (by decide) ?_
  refine W.widen (k := (cl + 0)) (n := 6 * (cl + 0)) (by omega) (by omega) ?_
  exact kb_L_built_91 (R38 := R38) hl0 hI C0 hK hT hN hk38 σ v1 v2 v4 v6 v8 v10 v12 v15 v16 v18 (1 : Int32) hq (cl + 0) (by omega) H locs hP hS ls (lv_sub hl [0, 1, 2, 3, 4, 5, 6, 7, 8, 9, 10] rfl)
def kw_L_built_734 (K676 : ka_S → Int32 → Int64 → Int64 → Int64 → Int64 → Int64 → Int32 → Int32 → Prop) (Q : Int32 → ka_S → Prop) (σ : ka_S) (v1 : Int32) (v2 : Int64) (v6 : Int64) (v8 : Int64) (v10 : Int64) (v12 : Int64) (v15 : Int32) (v16 : Int32) : Prop := ((8 : Int32) ≤ v16 → ∀ x34 : Int32, x34 = v15 + (1 : Int32) →
    K676 σ v1 v2 v6 v8 v10 v12 (0 : Int32) x34) ∧
  (¬ (8 : Int32) ≤ v16 → kw0_L_entry σ (v15 - (1 : Int32)) (0 : Int32) v16 (fun r35 σ36 =>
    kw0_L_entry σ36 v15 (0 : Int32) v16 (fun r37 σ38 =>
    (r37 ≤ r35 → ∀ x39 : Int32, x39 = v15 + (1 : Int32) →
      K676 σ38 v1 v2 v6 v8 v10 v12 (0 : Int32) x39) ∧
    (¬ r37 ≤ r35 → ∀ x40 : Int32, x40 = v15 + (1 : Int32) →
      K676 σ38 v1 v2 v6 v8 v10 v12 (1 : Int32) x40))))
set_option maxHeartbeats 4000000 in
set_option maxRecDepth 100000 in
theorem kb_L_built_734 {p : Program} {l : Launch} {e : Env} {s : State} {m : MethodId} {below : List Frame} {meth : Method} {c : Code} {G : ka_G} {args : Array Value} (hl0 : l.stackTraces = false) (hI : ka_I G) (C0 : ka_C p s m args meth c cL_built 37 "GlossRowsLaw" (some .boolean)) (hK : ka_Kn G s) (hT : ka_T9 (ka_A G) s) (hN : kl_Nc s) {Q : Int32 → ka_S → Prop} {K676 : ka_S → Int32 → Int64 → Int64 → Int64 → Int64 → Int64 → Int32 → Int32 → Prop} {R676 : Nat} (hk676 : ∀ (σ : ka_S) (v1 : Int32) (v2 : Int64) (v6 : Int64) (v8 : Int64) (v10 : Int64) (v12 : Int64) (v14 : Int32) (v15 : Int32), K676 σ v1 v2 v6 v8 v10 v12 v14 v15 → ∀ (cl : Nat), cl + R676 ≤ 0 → ∀ (H : Heap) (locs : List Loc), ka_P G σ H → va_S (ka_A G) s.heap H locs → ∀ ls : Array Slot, lv_has ls 37 [(0, .ref (ka_a G (22, 0, 0))), (1, .int v1), (2, .long v2), (6, .long v6), (8, .long v8), (10, .long v10), (12, .long v12), (14, .int v14), (15, .int v15)] → W p l e rm_L_built s m args below meth c H locs cl (6 * cl) (MQ below (va_Qi Q (ka_B G) (ka_A G)) args s 0 0 (ka_A G)) (F0 m 676 ls [])) : ∀ (σ : ka_S) (v1 : Int32) (v2 : Int64) (v6 : Int64) (v8 : Int64) (v10 : Int64) (v12 : Int64) (v15 : Int32) (v16 : Int32), kw_L_built_734 K676 Q σ v1 v2 v6 v8 v10 v12 v15 v16 → ∀ (cl : Nat), cl + 0 + R676 ≤ 0 → ∀ (H : Heap) (locs : List Loc), ka_P G σ H → va_S (ka_A G) s.heap H locs → ∀ ls : Array Slot, lv_has ls 37 [(0, .ref (ka_a G (22, 0, 0))), (1, .int v1), (2, .long v2), (6, .long v6), (8, .long v8), (10, .long v10), (12, .long v12), (15, .int v15), (16, .int v16)] → W p l e rm_L_built s m args below meth c H locs cl (6 * cl) (MQ below (va_Qi Q (ka_B G) (ka_A G)) args s 0 0 (ka_A G)) (F0 m 734 ls []) := by
  obtain ⟨hx, hb, -, hml, hown, hts, -⟩ := id C0
  intro σ v1 v2 v6 v8 v10 v12 v15 v16 hq cl hcl H locs hP hS ls hl
  unfold kw_L_built_734 at hq
  refine lv_iload hx hb dL_built_734 (lv_at hl 8 rfl) ?_
  refine lv_bipush (v := 8) hx hb dL_built_736 (by decide) ?_
  refine lv_icmp_ge (tgt := 769) hx hb dL_built_738 (by decide) (fun hc => ?_) (fun hc => ?_)
  · have hq := hq.1 hc
    refine lv_iconst (v := 0) hx hb dL_built_769 (by decide) ?_
    refine lv_istore (lv' := [(14, .int (0 : Int32)), (0, .ref (ka_a G (22, 0, 0))), (1, .int v1), (2, .long v2), (6, .long v6), (8, .long v8), (10, .long v10), (12, .long v12), (15, .int v15), (16, .int v16)]) hx hb dL_built_770 hl (by decide) rfl (fun ls hl => ?_)
    obtain ⟨x34, ex34⟩ : ∃ y : Int32, y = v15 + (1 : Int32) := ⟨_, rfl⟩
    have hq := hq x34 ex34
    refine lv_iinc (v := x34) (lv' := [(15, .int x34), (14, .int (0 : Int32)), (0, .ref (ka_a G (22, 0, 0))), (1, .int v1), (2, .long v2), (6, .long v6), (8, .long v8), (10, .long v10), (12, .long v12), (16, .int v16)]) hx hb dL_built_772 hl (k := 8) rfl (by rw [ex34]; rfl) (by decide) rfl (fun ls hl => ?_)
    refine lv_goto (tgt := 676) hx hb dL_built_775 (by decide) ?_
    refine W.widen (k := (cl + 0)) (n := 6 * (cl + 0)) (by omega) (by omega) ?_
    exact hk676 σ v1 v2 v6 v8 v10 v12 (0 : Int32) x34 hq (cl + 0) (by omega) H locs hP hS ls (lv_sub hl [2, 3, 4, 5, 6, 7, 8, 1, 0] rfl)
  · have hq := hq.2 hc
    refine lv_aload_n hx hb dL_built_741 rfl (lv_at hl 0 rfl) ?_
    refine lv_iload hx hb dL_built_742 (lv_at hl 7 rfl) ?_
    refine lv_iconst (v := 1) hx hb dL_built_744 (by decide) ?_
    refine lv_isub hx hb dL_built_745 ?_
    refine lv_iconst (v := 0) hx hb dL_built_746 (by decide) ?_
    refine lv_iload hx hb dL_built_747 (lv_at hl 8 rfl) ?_
    refine kj_Wl (As := [.ref (ka_a G (22, 0, 0)), .int (v15 - (1 : Int32)), .int (0 : Int32), .int v16]) (rest := []) C0 hK hT hN hP hS (fun _ h => h) hl (km0_L_entry l hl0 hI hq) kd_L_entry kq_620 ⟨rfl, rfl, Nat.le_of_ble_eq_true rfl, Nat.le_of_ble_eq_true rfl⟩ rfl (Nat.le_of_ble_eq_true rfl) dL_built_749 ⟨by show _ ≤ 0; omega, by show _ ≤ 0; omega⟩ (fun r35 σ36 H locs hq hP hkp hS => ?_)
    refine lv_aload_n hx hb dL_built_752 rfl (lv_at hl 0 rfl) ?_
    refine lv_iload hx hb dL_built_753 (lv_at hl 7 rfl) ?_
    refine lv_iconst (v := 0) hx hb dL_built_755 (by decide) ?_
    refine lv_iload hx hb dL_built_756 (lv_at hl 8 rfl) ?_
    refine kj_Wl (As := [.ref (ka_a G (22, 0, 0)), .int v15, .int (0 : Int32), .int v16]) (rest := [.long r35]) C0 hK hT hN hP hS (fun _ h => h) hl (km0_L_entry l hl0 hI hq) kd_L_entry kq_620 ⟨rfl, rfl, Nat.le_of_ble_eq_true rfl, Nat.le_of_ble_eq_true rfl⟩ rfl (Nat.le_of_ble_eq_true rfl) dL_built_758 ⟨by show _ ≤ 0; omega, by show _ ≤ 0; omega⟩ (fun r37 σ38 H locs hq hP hkp hS => ?_)
    refine kr_cge (tgt := 769) C0 dL_built_761 dL_built_762 (by decide) (fun hc => ?_) (fun hc => ?_)
    · have hq := hq.1 hc
      refine lv_iconst (v := 0) hx hb dL_built_769 (by decide) ?_
      refine lv_istore (lv' := [(14, .int (0 : Int32)), (0, .ref (ka_a G (22, 0, 0))), (1, .int v1), (2, .long v2), (6, .long v6), (8, .long v8), (10, .long v10), (12, .long v12), (15, .int v15), (16, .int v16)]) hx hb dL_built_770 hl (by decide) rfl (fun ls hl => ?_)
      obtain ⟨x39, ex39⟩ : ∃ y : Int32, y = v15 + (1 : Int32) := ⟨_, rfl⟩
      have hq := hq x39 ex39
      refine lv_iinc (v := x39) (lv' := [(15, .int x39), (14, .int (0 : Int32)), (0, .ref (ka_a G (22, 0, 0))), (1, .int v1), (2, .long v2), (6, .long v6), (8, .long v8), (10, .long v10), (12, .long v12), (16, .int v16)]) hx hb dL_built_772 hl (k := 8) rfl (by rw [ex39]; rfl) (by decide) rfl (fun ls hl => ?_)
      refine lv_goto (tgt := 676) hx hb dL_built_775 (by decide) ?_
      refine W.widen (k := (cl + 0)) (n := 6 * (cl + 0)) (by omega) (by omega) ?_
      exact hk676 σ38 v1 v2 v6 v8 v10 v12 (0 : Int32) x39 hq (cl + 0) (by omega) H locs hP hS ls (lv_sub hl [2, 3, 4, 5, 6, 7, 8, 1, 0] rfl)
    · have hq := hq.2 hc
      refine lv_iconst (v := 1) hx hb dL_built_765 (by decide) ?_
      refine lv_goto (tgt := 770) hx hb dL_built_766 (by decide) ?_
      refine lv_istore (lv' := [(14, .int (1 : Int32)), (0, .ref (ka_a G (22, 0, 0))), (1, .int v1), (2, .long v2), (6, .long v6), (8, .long v8), (10, .long v10), (12, .long v12), (15, .int v15), (16, .int v16)]) hx hb dL_built_770 hl (by decide) rfl (fun ls hl => ?_)
      obtain ⟨x40, ex40⟩ : ∃ y : Int32, y = v15 + (1 : Int32) := ⟨_, rfl⟩
      have hq := hq x40 ex40
      refine lv_iinc (v := x40) (lv' := [(15, .int x40), (14, .int (1 : Int32)), (0, .ref (ka_a G (22, 0, 0))), (1, .int v1), (2, .long v2), (6, .long v6), (8, .long v8), (10, .long v10), (12, .long v12), (16, .int v16)]) hx hb dL_built_772 hl (k := 8) rfl (by rw [ex40]; rfl) (by decide) rfl (fun ls hl => ?_)
      refine lv_goto (tgt := 676) hx hb dL_built_775 (by decide) ?_
      refine W.widen (k := (cl + 0)) (n := 6 * (cl + 0)) (by omega) (by omega) ?_
      exact hk676 σ38 v1 v2 v6 v8 v10 v12 (1 : Int32) x40 hq (cl + 0) (by omega) H locs hP hS ls (lv_sub hl [2, 3, 4, 5, 6, 7, 8, 1, 0] rfl)
def kw_L_built_697 (K676 : ka_S → Int32 → Int64 → Int64 → Int64 → Int64 → Int64 → Int32 → Int32 → Prop) (Q : Int32 → ka_S → Prop) : Nat → ka_S → Int32 → Int64 → Int64 → Int64 → Int64 → Int64 → Int32 → Int32 → Prop
  | 0, _, _, _, _, _, _, _, _, _ => False
  | n + 1, σ, v1, v2, v6, v8, v10, v12, v15, v16 => ((8 : Int32) ≤ v16 → kw_L_built_734 K676 Q σ v1 v2 v6 v8 v10 v12 v15 v16) ∧
    (¬ (8 : Int32) ≤ v16 → kw0_L_entry σ v15 (0 : Int32) v16 (fun r25 σ26 =>
      kw0_L_entry σ26 (v15 - (1 : Int32)) (0 : Int32) v16 (fun r27 σ28 =>
      (r25 = r27 → ∀ x29 : Int32, x29 = v16 + (1 : Int32) →
        (kw_L_built_697 K676 Q n) σ28 v1 v2 v6 v8 v10 v12 v15 x29) ∧
      (¬ r25 = r27 → kw_L_built_734 K676 Q σ28 v1 v2 v6 v8 v10 v12 v15 v16))))
set_option maxHeartbeats 4000000 in
set_option maxRecDepth 100000 in
theorem kb_L_built_697 {p : Program} {l : Launch} {e : Env} {s : State} {m : MethodId} {below : List Frame} {meth : Method} {c : Code} {G : ka_G} {args : Array Value} (hl0 : l.stackTraces = false) (hI : ka_I G) (C0 : ka_C p s m args meth c cL_built 37 "GlossRowsLaw" (some .boolean)) (hK : ka_Kn G s) (hT : ka_T9 (ka_A G) s) (hN : kl_Nc s) {Q : Int32 → ka_S → Prop} {K676 : ka_S → Int32 → Int64 → Int64 → Int64 → Int64 → Int64 → Int32 → Int32 → Prop} {R676 : Nat} (hk676 : ∀ (σ : ka_S) (v1 : Int32) (v2 : Int64) (v6 : Int64) (v8 : Int64) (v10 : Int64) (v12 : Int64) (v14 : Int32) (v15 : Int32), K676 σ v1 v2 v6 v8 v10 v12 v14 v15 → ∀ (cl : Nat), cl + R676 ≤ 0 → ∀ (H : Heap) (locs : List Loc), ka_P G σ H → va_S (ka_A G) s.heap H locs → ∀ ls : Array Slot, lv_has ls 37 [(0, .ref (ka_a G (22, 0, 0))), (1, .int v1), (2, .long v2), (6, .long v6), (8, .long v8), (10, .long v10), (12, .long v12), (14, .int v14), (15, .int v15)] → W p l e rm_L_built s m args below meth c H locs cl (6 * cl) (MQ below (va_Qi Q (ka_B G) (ka_A G)) args s 0 0 (ka_A G)) (F0 m 676 ls [])) : ∀ (n : Nat) (σ : ka_S) (v1 : Int32) (v2 : Int64) (v6 : Int64) (v8 : Int64) (v10 : Int64) (v12 : Int64) (v15 : Int32) (v16 : Int32), kw_L_built_697 K676 Q n σ v1 v2 v6 v8 v10 v12 v15 v16 → ∀ (cl : Nat), cl + 0 + R676 ≤ 0 → ∀ (H : Heap) (locs : List Loc), ka_P G σ H → va_S (ka_A G) s.heap H locs → ∀ ls : Array Slot, lv_has ls 37 [(0, .ref (ka_a G (22, 0, 0))), (1, .int v1), (2, .long v2), (6, .long v6), (8, .long v8), (10, .long v10), (12, .long v12), (15, .int v15), (16, .int v16)] → W p l e rm_L_built s m args below meth c H locs cl (6 * cl) (MQ below (va_Qi Q (ka_B G) (ka_A G)) args s 0 0 (ka_A G)) (F0 m 697 ls []) := by
  obtain ⟨hx, hb, -, hml, hown, hts, -⟩ := id C0
  intro n
  induction n with
  | zero =>
    intro σ v1 v2 v6 v8 v10 v12 v15 v16 hq
    rw [kw_L_built_697] at hq
    exact hq.elim
  | succ n ih =>
    have ih9 : ∀ (σ : ka_S) (v1 : Int32) (v2 : Int64) (v6 : Int64) (v8 : Int64) (v10 : Int64) (v12 : Int64) (v15 : Int32) (v16 : Int32), kw_L_built_697 K676 Q n σ v1 v2 v6 v8 v10 v12 v15 v16 → ∀ (cl : Nat), cl + (0 + R676) ≤ 0 → ∀ (H : Heap) (locs : List Loc), ka_P G σ H → va_S (ka_A G) s.heap H locs → ∀ ls : Array Slot, lv_has ls 37 [(0, .ref (ka_a G (22, 0, 0))), (1, .int v1), (2, .long v2), (6, .long v6), (8, .long v8), (10, .long v10), (12, .long v12), (15, .int v15), (16, .int v16)] → W p l e rm_L_built s m args below meth c H locs cl (6 * cl) (MQ below (va_Qi Q (ka_B G) (ka_A G)) args s 0 0 (ka_A G)) (F0 m 697 ls []) := fun σ v1 v2 v6 v8 v10 v12 v15 v16 hq cl h9 => ih σ v1 v2 v6 v8 v10 v12 v15 v16 hq cl (by omega)
    intro σ v1 v2 v6 v8 v10 v12 v15 v16 hq cl hcl H locs hP hS ls hl
    rw [kw_L_built_697] at hq
    refine lv_iload hx hb dL_built_697 (lv_at hl 8 rfl) ?_
    refine lv_bipush (v := 8) hx hb dL_built_699 (by decide) ?_
    refine lv_icmp_ge (tgt := 734) hx hb dL_built_701 (by decide) (fun hc => ?_) (fun hc => ?_)
    · have hq := hq.1 hc
      refine W.widen (k := (cl + 0)) (n := 6 * (cl + 0)) (by omega) (by omega) ?_
      exact kb_L_built_734 (R676 := R676) hl0 hI C0 hK hT hN hk676 σ v1 v2 v6 v8 v10 v12 v15 v16 hq (cl + 0) (by omega) H locs hP hS ls (lv_sub hl [0, 1, 2, 3, 4, 5, 6, 7, 8] rfl)
    · have hq := hq.2 hc
      refine lv_aload_n hx hb dL_built_704 rfl (lv_at hl 0 rfl) ?_
      refine lv_iload hx hb dL_built_705 (lv_at hl 7 rfl) ?_
      refine lv_iconst (v := 0) hx hb dL_built_707 (by decide) ?_
      refine lv_iload hx hb dL_built_708 (lv_at hl 8 rfl) ?_
      refine kj_Wl (As := [.ref (ka_a G (22, 0, 0)), .int v15, .int (0 : Int32), .int v16]) (rest := []) C0 hK hT hN hP hS (fun _ h => h) hl (km0_L_entry l hl0 hI hq) kd_L_entry kq_620 ⟨rfl, rfl, Nat.le_of_ble_eq_true rfl, Nat.le_of_ble_eq_true rfl⟩ rfl (Nat.le_of_ble_eq_true rfl) dL_built_710 ⟨by show _ ≤ 0; omega, by show _ ≤ 0; omega⟩ (fun r25 σ26 H locs hq hP hkp hS => ?_)
      refine lv_aload_n hx hb dL_built_713 rfl (lv_at hl 0 rfl) ?_
      refine lv_iload hx hb dL_built_714 (lv_at hl 7 rfl) ?_
      refine lv_iconst (v := 1) hx hb dL_built_716 (by decide) ?_
      refine lv_isub hx hb dL_built_717 ?_
      refine lv_iconst (v := 0) hx hb dL_built_718 (by decide) ?_
      refine lv_iload hx hb dL_built_719 (lv_at hl 8 rfl) ?_
      refine kj_Wl (As := [.ref (ka_a G (22, 0, 0)), .int (v15 - (1 : Int32)), .int (0 : Int32), .int v16]) (rest := [.long r25]) C0 hK hT hN hP hS (fun _ h => h) hl (km0_L_entry l hl0 hI hq) kd_L_entry kq_620 ⟨rfl, rfl, Nat.le_of_ble_eq_true rfl, Nat.le_of_ble_eq_true rfl⟩ rfl (Nat.le_of_ble_eq_true rfl) dL_built_721 ⟨by show _ ≤ 0; omega, by show _ ≤ 0; omega⟩ (fun r27 σ28 H locs hq hP hkp hS => ?_)
      refine kr_cne (tgt := 734) C0 dL_built_724 dL_built_725 (by decide) (fun hc => ?_) (fun hc => ?_)
      · have hq := hq.2 hc
        refine W.widen (k := (cl + 0)) (n := 6 * (cl + 0)) (by omega) (by omega) ?_
        exact kb_L_built_734 (R676 := R676) hl0 hI C0 hK hT hN hk676 σ28 v1 v2 v6 v8 v10 v12 v15 v16 hq (cl + 0) (by omega) H locs hP hS ls (lv_sub hl [0, 1, 2, 3, 4, 5, 6, 7, 8] rfl)
      · have hq := hq.1 hc
        obtain ⟨x29, ex29⟩ : ∃ y : Int32, y = v16 + (1 : Int32) := ⟨_, rfl⟩
        have hq := hq x29 ex29
        refine lv_iinc (v := x29) (lv' := [(16, .int x29), (0, .ref (ka_a G (22, 0, 0))), (1, .int v1), (2, .long v2), (6, .long v6), (8, .long v8), (10, .long v10), (12, .long v12), (15, .int v15)]) hx hb dL_built_728 hl (k := 8) rfl (by rw [ex29]; rfl) (by decide) rfl (fun ls hl => ?_)
        refine lv_goto (tgt := 697) hx hb dL_built_731 (by decide) ?_
        refine W.widen (k := (cl + 0)) (n := 6 * (cl + 0)) (by omega) (by omega) ?_
        exact ih9 σ28 v1 v2 v6 v8 v10 v12 v15 x29 hq (cl + 0) (by omega) H locs hP hS ls (lv_sub hl [1, 2, 3, 4, 5, 6, 7, 8, 0] rfl)
def kw_L_built_978 (K812 : ka_S → Int32 → Int64 → Int64 → Int64 → Int64 → Int64 → Int32 → Int64 → Int32 → Int64 → Int32 → Prop) (Q : Int32 → ka_S → Prop) (σ : ka_S) (v1 : Int32) (v2 : Int64) (v6 : Int64) (v8 : Int64) (v10 : Int64) (v12 : Int64) (v15 : Int64) (v17 : Int32) (v18 : Int64) (v20 : Int32) (v21 : Int64) : Prop := kw0_L_row σ v20 (0 : Int32) (fun r106 σ107 =>
  (r106 < (2 : Int64) → ∀ x108 : Int32, x108 = v20 + (1 : Int32) →
    K812 σ107 v1 v2 v6 v8 v10 v12 (1 : Int32) v15 v17 v18 x108) ∧
  (¬ r106 < (2 : Int64) → (v2 < v21 → ∀ x109 : Int32, x109 = v20 + (1 : Int32) →
      K812 σ107 v1 v2 v6 v8 v10 v12 (0 : Int32) v15 v17 v18 x109) ∧
    (¬ v2 < v21 → ∀ x110 : Int32, x110 = v20 + (1 : Int32) →
      K812 σ107 v1 v2 v6 v8 v10 v12 (1 : Int32) v15 v17 v18 x110)))
set_option maxHeartbeats 4000000 in
set_option maxRecDepth 100000 in
theorem kb_L_built_978 {p : Program} {l : Launch} {e : Env} {s : State} {m : MethodId} {below : List Frame} {meth : Method} {c : Code} {G : ka_G} {args : Array Value} (hl0 : l.stackTraces = false) (hI : ka_I G) (C0 : ka_C p s m args meth c cL_built 37 "GlossRowsLaw" (some .boolean)) (hK : ka_Kn G s) (hT : ka_T9 (ka_A G) s) (hN : kl_Nc s) {Q : Int32 → ka_S → Prop} {K812 : ka_S → Int32 → Int64 → Int64 → Int64 → Int64 → Int64 → Int32 → Int64 → Int32 → Int64 → Int32 → Prop} {R812 : Nat} (hk812 : ∀ (σ : ka_S) (v1 : Int32) (v2 : Int64) (v6 : Int64) (v8 : Int64) (v10 : Int64) (v12 : Int64) (v14 : Int32) (v15 : Int64) (v17 : Int32) (v18 : Int64) (v20 : Int32), K812 σ v1 v2 v6 v8 v10 v12 v14 v15 v17 v18 v20 → ∀ (cl : Nat), cl + R812 ≤ 0 → ∀ (H : Heap) (locs : List Loc), ka_P G σ H → va_S (ka_A G) s.heap H locs → ∀ ls : Array Slot, lv_has ls 37 [(0, .ref (ka_a G (22, 0, 0))), (1, .int v1), (2, .long v2), (6, .long v6), (8, .long v8), (10, .long v10), (12, .long v12), (14, .int v14), (15, .long v15), (17, .int v17), (18, .long v18), (20, .int v20)] → W p l e rm_L_built s m args below meth c H locs cl (6 * cl) (MQ below (va_Qi Q (ka_B G) (ka_A G)) args s 0 0 (ka_A G)) (F0 m 812 ls [])) : ∀ (σ : ka_S) (v1 : Int32) (v2 : Int64) (v6 : Int64) (v8 : Int64) (v10 : Int64) (v12 : Int64) (v15 : Int64) (v17 : Int32) (v18 : Int64) (v20 : Int32) (v21 : Int64), kw_L_built_978 K812 Q σ v1 v2 v6 v8 v10 v12 v15 v17 v18 v20 v21 → ∀ (cl : Nat), cl + 0 + R812 ≤ 0 → ∀ (H : Heap) (locs : List Loc), ka_P G σ H → va_S (ka_A G) s.heap H locs → ∀ ls : Array Slot, lv_has ls 37 [(0, .ref (ka_a G (22, 0, 0))), (1, .int v1), (2, .long v2), (6, .long v6), (8, .long v8), (10, .long v10), (12, .long v12), (15, .long v15), (17, .int v17), (18, .long v18), (20, .int v20), (21, .long v21)] → W p l e rm_L_built s m args below meth c H locs cl (6 * cl) (MQ below (va_Qi Q (ka_B G) (ka_A G)) args s 0 0 (ka_A G)) (F0 m 978 ls []) := by
  obtain ⟨hx, hb, -, hml, hown, hts, -⟩ := id C0
  intro σ v1 v2 v6 v8 v10 v12 v15 v17 v18 v20 v21 hq cl hcl H locs hP hS ls hl
  unfold kw_L_built_978 at hq
  refine lv_aload_n hx hb dL_built_978 rfl (lv_at hl 0 rfl) ?_
  refine lv_iload hx hb dL_built_979 (lv_at hl 10 rfl) ?_
  refine lv_iconst (v := 0) hx hb dL_built_981 (by decide) ?_
  refine kj_Wl (As := [.ref (ka_a G (22, 0, 0)), .int v20, .int (0 : Int32)]) (rest := []) C0 hK hT hN hP hS (fun _ h => h) hl (km0_L_row l hl0 hI hq) kd_L_row kq_687 ⟨rfl, rfl, Nat.le_of_ble_eq_true rfl, Nat.le_of_ble_eq_true rfl⟩ rfl (Nat.le_of_ble_eq_true rfl) dL_built_982 ⟨by show _ ≤ 0; omega, by show _ ≤ 0; omega⟩ (fun r106 σ107 H locs hq hP hkp hS => ?_)
  refine lv_ldc2 hx hb hown (hts _ kq_960) dL_built_985 ?_
  refine kr_clt (tgt := 999) C0 dL_built_988 dL_built_989 (by decide) (fun hc => ?_) (fun hc => ?_)
  · have hq := hq.1 hc
    refine lv_iconst (v := 1) hx hb dL_built_999 (by decide) ?_
    refine lv_goto (tgt := 1004) hx hb dL_built_1000 (by decide) ?_
    refine lv_istore (lv' := [(14, .int (1 : Int32)), (0, .ref (ka_a G (22, 0, 0))), (1, .int v1), (2, .long v2), (6, .long v6), (8, .long v8), (10, .long v10), (12, .long v12), (15, .long v15), (17, .int v17), (18, .long v18), (20, .int v20), (21, .long v21)]) hx hb dL_built_1004 hl (by decide) rfl (fun ls hl => ?_)
    obtain ⟨x108, ex108⟩ : ∃ y : Int32, y = v20 + (1 : Int32) := ⟨_, rfl⟩
    have hq := hq x108 ex108
    refine lv_iinc (v := x108) (lv' := [(20, .int x108), (14, .int (1 : Int32)), (0, .ref (ka_a G (22, 0, 0))), (1, .int v1), (2, .long v2), (6, .long v6), (8, .long v8), (10, .long v10), (12, .long v12), (15, .long v15), (17, .int v17), (18, .long v18), (21, .long v21)]) hx hb dL_built_1006 hl (k := 11) rfl (by rw [ex108]; rfl) (by decide) rfl (fun ls hl => ?_)
    refine lv_goto (tgt := 812) hx hb dL_built_1009 (by decide) ?_
    refine W.widen (k := (cl + 0)) (n := 6 * (cl + 0)) (by omega) (by omega) ?_
    exact hk812 σ107 v1 v2 v6 v8 v10 v12 (1 : Int32) v15 v17 v18 x108 hq (cl + 0) (by omega) H locs hP hS ls (lv_sub hl [2, 3, 4, 5, 6, 7, 8, 1, 9, 10, 11, 0] rfl)
  · have hq := hq.2 hc
    refine lv_lload hx hb dL_built_992 (lv_at hl 11 rfl) ?_
    refine lv_lload_n hx hb dL_built_994 rfl (lv_at hl 2 rfl) ?_
    refine kr_cgt (tgt := 1003) C0 dL_built_995 dL_built_996 (by decide) (fun hc => ?_) (fun hc => ?_)
    · have hq := hq.1 hc
      refine lv_iconst (v := 0) hx hb dL_built_1003 (by decide) ?_
      refine lv_istore (lv' := [(14, .int (0 : Int32)), (0, .ref (ka_a G (22, 0, 0))), (1, .int v1), (2, .long v2), (6, .long v6), (8, .long v8), (10, .long v10), (12, .long v12), (15, .long v15), (17, .int v17), (18, .long v18), (20, .int v20), (21, .long v21)]) hx hb dL_built_1004 hl (by decide) rfl (fun ls hl => ?_)
      obtain ⟨x109, ex109⟩ : ∃ y : Int32, y = v20 + (1 : Int32) := ⟨_, rfl⟩
      have hq := hq x109 ex109
      refine lv_iinc (v := x109) (lv' := [(20, .int x109), (14, .int (0 : Int32)), (0, .ref (ka_a G (22, 0, 0))), (1, .int v1), (2, .long v2), (6, .long v6), (8, .long v8), (10, .long v10), (12, .long v12), (15, .long v15), (17, .int v17), (18, .long v18), (21, .long v21)]) hx hb dL_built_1006 hl (k := 11) rfl (by rw [ex109]; rfl) (by decide) rfl (fun ls hl => ?_)
      refine lv_goto (tgt := 812) hx hb dL_built_1009 (by decide) ?_
      refine W.widen (k := (cl + 0)) (n := 6 * (cl + 0)) (by omega) (by omega) ?_
      exact hk812 σ107 v1 v2 v6 v8 v10 v12 (0 : Int32) v15 v17 v18 x109 hq (cl + 0) (by omega) H locs hP hS ls (lv_sub hl [2, 3, 4, 5, 6, 7, 8, 1, 9, 10, 11, 0] rfl)
    · have hq := hq.2 hc
      refine lv_iconst (v := 1) hx hb dL_built_999 (by decide) ?_
      refine lv_goto (tgt := 1004) hx hb dL_built_1000 (by decide) ?_
      refine lv_istore (lv' := [(14, .int (1 : Int32)), (0, .ref (ka_a G (22, 0, 0))), (1, .int v1), (2, .long v2), (6, .long v6), (8, .long v8), (10, .long v10), (12, .long v12), (15, .long v15), (17, .int v17), (18, .long v18), (20, .int v20), (21, .long v21)]) hx hb dL_built_1004 hl (by decide) rfl (fun ls hl => ?_)
      obtain ⟨x110, ex110⟩ : ∃ y : Int32, y = v20 + (1 : Int32) := ⟨_, rfl⟩
      have hq := hq x110 ex110
      refine lv_iinc (v := x110) (lv' := [(20, .int x110), (14, .int (1 : Int32)), (0, .ref (ka_a G (22, 0, 0))), (1, .int v1), (2, .long v2), (6, .long v6), (8, .long v8), (10, .long v10), (12, .long v12), (15, .long v15), (17, .int v17), (18, .long v18), (21, .long v21)]) hx hb dL_built_1006 hl (k := 11) rfl (by rw [ex110]; rfl) (by decide) rfl (fun ls hl => ?_)
      refine lv_goto (tgt := 812) hx hb dL_built_1009 (by decide) ?_
      refine W.widen (k := (cl + 0)) (n := 6 * (cl + 0)) (by omega) (by omega) ?_
      exact hk812 σ107 v1 v2 v6 v8 v10 v12 (1 : Int32) v15 v17 v18 x110 hq (cl + 0) (by omega) H locs hP hS ls (lv_sub hl [2, 3, 4, 5, 6, 7, 8, 1, 9, 10, 11, 0] rfl)
def kw_L_built_896 (K812 : ka_S → Int32 → Int64 → Int64 → Int64 → Int64 → Int64 → Int32 → Int64 → Int32 → Int64 → Int32 → Prop) (Q : Int32 → ka_S → Prop) (σ : ka_S) (v1 : Int32) (v2 : Int64) (v6 : Int64) (v8 : Int64) (v10 : Int64) (v12 : Int64) (v15 : Int64) (v17 : Int32) (v18 : Int64) (v20 : Int32) (v21 : Int64) : Prop := kw0_L_row σ v20 (2 : Int32) (fun r82 σ83 =>
  kw0_L_about σ83 (3 : Int32) (fun r84 σ85 =>
  kw_L_in σ85 r82 (0 : Int64) (r84 - (1 : Int64)) (fun r86 σ87 =>
  (r86 = (0 : Int32) → ∀ x88 : Int32, x88 = v20 + (1 : Int32) →
    K812 σ87 v1 v2 v6 v8 v10 v12 (0 : Int32) v15 v17 v18 x88) ∧
  (¬ r86 = (0 : Int32) → kw0_L_row σ87 v20 (0 : Int32) (fun r89 σ90 =>
    (r89 = (1 : Int64) → kw0_L_row σ90 (v20 - (1 : Int32)) (0 : Int32) (fun r91 σ92 =>
      (r91 = (0 : Int64) → kw0_L_row σ92 (v20 - (1 : Int32)) (1 : Int32) (fun r94 σ95 =>
        (r94 = v21 → kw0_L_row σ95 (v20 - (1 : Int32)) (2 : Int32) (fun r97 σ98 =>
          kw0_L_row σ98 v20 (2 : Int32) (fun r99 σ100 =>
          (r97 = r99 → kw_L_built_978 K812 Q σ100 v1 v2 v6 v8 v10 v12 v15 v17 v18 v20 v21) ∧
          (¬ r97 = r99 → ∀ x101 : Int32, x101 = v20 + (1 : Int32) →
            K812 σ100 v1 v2 v6 v8 v10 v12 (0 : Int32) v15 v17 v18 x101)))) ∧
        (¬ r94 = v21 → ∀ x96 : Int32, x96 = v20 + (1 : Int32) →
          K812 σ95 v1 v2 v6 v8 v10 v12 (0 : Int32) v15 v17 v18 x96))) ∧
      (¬ r91 = (0 : Int64) → ∀ x93 : Int32, x93 = v20 + (1 : Int32) →
        K812 σ92 v1 v2 v6 v8 v10 v12 (0 : Int32) v15 v17 v18 x93))) ∧
    (¬ r89 = (1 : Int64) → kw_L_built_978 K812 Q σ90 v1 v2 v6 v8 v10 v12 v15 v17 v18 v20 v21))))))
set_option maxHeartbeats 4000000 in
set_option maxRecDepth 100000 in
theorem kb_L_built_896 {p : Program} {l : Launch} {e : Env} {s : State} {m : MethodId} {below : List Frame} {meth : Method} {c : Code} {G : ka_G} {args : Array Value} (hl0 : l.stackTraces = false) (hI : ka_I G) (C0 : ka_C p s m args meth c cL_built 37 "GlossRowsLaw" (some .boolean)) (hK : ka_Kn G s) (hT : ka_T9 (ka_A G) s) (hN : kl_Nc s) {Q : Int32 → ka_S → Prop} {K812 : ka_S → Int32 → Int64 → Int64 → Int64 → Int64 → Int64 → Int32 → Int64 → Int32 → Int64 → Int32 → Prop} {R812 : Nat} (hk812 : ∀ (σ : ka_S) (v1 : Int32) (v2 : Int64) (v6 : Int64) (v8 : Int64) (v10 : Int64) (v12 : Int64) (v14 : Int32) (v15 : Int64) (v17 : Int32) (v18 : Int64) (v20 : Int32), K812 σ v1 v2 v6 v8 v10 v12 v14 v15 v17 v18 v20 → ∀ (cl : Nat), cl + R812 ≤ 0 → ∀ (H : Heap) (locs : List Loc), ka_P G σ H → va_S (ka_A G) s.heap H locs → ∀ ls : Array Slot, lv_has ls 37 [(0, .ref (ka_a G (22, 0, 0))), (1, .int v1), (2, .long v2), (6, .long v6), (8, .long v8), (10, .long v10), (12, .long v12), (14, .int v14), (15, .long v15), (17, .int v17), (18, .long v18), (20, .int v20)] → W p l e rm_L_built s m args below meth c H locs cl (6 * cl) (MQ below (va_Qi Q (ka_B G) (ka_A G)) args s 0 0 (ka_A G)) (F0 m 812 ls [])) : ∀ (σ : ka_S) (v1 : Int32) (v2 : Int64) (v6 : Int64) (v8 : Int64) (v10 : Int64) (v12 : Int64) (v15 : Int64) (v17 : Int32) (v18 : Int64) (v20 : Int32) (v21 : Int64), kw_L_built_896 K812 Q σ v1 v2 v6 v8 v10 v12 v15 v17 v18 v20 v21 → ∀ (cl : Nat), cl + 0 + R812 ≤ 0 → ∀ (H : Heap) (locs : List Loc), ka_P G σ H → va_S (ka_A G) s.heap H locs → ∀ ls : Array Slot, lv_has ls 37 [(0, .ref (ka_a G (22, 0, 0))), (1, .int v1), (2, .long v2), (6, .long v6), (8, .long v8), (10, .long v10), (12, .long v12), (15, .long v15), (17, .int v17), (18, .long v18), (20, .int v20), (21, .long v21)] → W p l e rm_L_built s m args below meth c H locs cl (6 * cl) (MQ below (va_Qi Q (ka_B G) (ka_A G)) args s 0 0 (ka_A G)) (F0 m 896 ls []) := by
  obtain ⟨hx, hb, -, hml, hown, hts, -⟩ := id C0
  intro σ v1 v2 v6 v8 v10 v12 v15 v17 v18 v20 v21 hq cl hcl H locs hP hS ls hl
  unfold kw_L_built_896 at hq
  refine lv_aload_n hx hb dL_built_896 rfl (lv_at hl 0 rfl) ?_
  refine lv_iload hx hb dL_built_897 (lv_at hl 10 rfl) ?_
  refine lv_iconst (v := 2) hx hb dL_built_899 (by decide) ?_
  refine kj_Wl (As := [.ref (ka_a G (22, 0, 0)), .int v20, .int (2 : Int32)]) (rest := []) C0 hK hT hN hP hS (fun _ h => h) hl (km0_L_row l hl0 hI hq) kd_L_row kq_687 ⟨rfl, rfl, Nat.le_of_ble_eq_true rfl, Nat.le_of_ble_eq_true rfl⟩ rfl (Nat.le_of_ble_eq_true rfl) dL_built_900 ⟨by show _ ≤ 0; omega, by show _ ≤ 0; omega⟩ (fun r82 σ83 H locs hq hP hkp hS => ?_)
  refine lv_lconst (v := 0) hx hb dL_built_903 (by decide) ?_
  refine lv_aload_n hx hb dL_built_904 rfl (lv_at hl 0 rfl) ?_
  refine lv_iconst (v := 3) hx hb dL_built_905 (by decide) ?_
  refine kj_Wl (As := [.ref (ka_a G (22, 0, 0)), .int (3 : Int32)]) (rest := [.long (0 : Int64), .long r82]) C0 hK hT hN hP hS (fun _ h => h) hl (km0_L_about l hl0 hI hq) kd_L_about kq_478 ⟨rfl, rfl, Nat.le_of_ble_eq_true rfl, Nat.le_of_ble_eq_true rfl⟩ rfl (Nat.le_of_ble_eq_true rfl) dL_built_906 ⟨by show _ ≤ 0; omega, by show _ ≤ 0; omega⟩ (fun r84 σ85 H locs hq hP hkp hS => ?_)
  refine lv_lconst (v := 1) hx hb dL_built_909 (by decide) ?_
  refine lv_lsub hx hb dL_built_910 ?_
  refine kr_Si (As := [.long r82, .long (0 : Int64), .long (r84 - (1 : Int64))]) (rest := []) C0 hK hP hS hl (km_L_in l hI hq) kd_L_in kq_954 ⟨rfl, rfl, Nat.le_of_ble_eq_true rfl, Nat.le_of_ble_eq_true rfl⟩ rfl (Nat.le_of_ble_eq_true rfl) dL_built_911 ⟨by show _ ≤ 0; omega, by show _ ≤ 0; omega⟩ (fun r86 σ87 H locs hq hP hS => ?_)
  refine lv_if_eq (tgt := 1003) hx hb dL_built_914 (by decide) (fun hc => ?_) (fun hc => ?_)
  · have hq := hq.1 hc
    refine lv_iconst (v := 0) hx hb dL_built_1003 (by decide) ?_
    refine lv_istore (lv' := [(14, .int (0 : Int32)), (0, .ref (ka_a G (22, 0, 0))), (1, .int v1), (2, .long v2), (6, .long v6), (8, .long v8), (10, .long v10), (12, .long v12), (15, .long v15), (17, .int v17), (18, .long v18), (20, .int v20), (21, .long v21)]) hx hb dL_built_1004 hl (by decide) rfl (fun ls hl => ?_)
    obtain ⟨x88, ex88⟩ : ∃ y : Int32, y = v20 + (1 : Int32) := ⟨_, rfl⟩
    have hq := hq x88 ex88
    refine lv_iinc (v := x88) (lv' := [(20, .int x88), (14, .int (0 : Int32)), (0, .ref (ka_a G (22, 0, 0))), (1, .int v1), (2, .long v2), (6, .long v6), (8, .long v8), (10, .long v10), (12, .long v12), (15, .long v15), (17, .int v17), (18, .long v18), (21, .long v21)]) hx hb dL_built_1006 hl (k := 11) rfl (by rw [ex88]; rfl) (by decide) rfl (fun ls hl => ?_)
    refine lv_goto (tgt := 812) hx hb dL_built_1009 (by decide) ?_
    refine W.widen (k := (cl + 0)) (n := 6 * (cl + 0)) (by omega) (by omega) ?_
    exact hk812 σ87 v1 v2 v6 v8 v10 v12 (0 : Int32) v15 v17 v18 x88 hq (cl + 0) (by omega) H locs hP hS ls (lv_sub hl [2, 3, 4, 5, 6, 7, 8, 1, 9, 10, 11, 0] rfl)
  · have hq := hq.2 hc
    refine lv_aload_n hx hb dL_built_917 rfl (lv_at hl 0 rfl) ?_
    refine lv_iload hx hb dL_built_918 (lv_at hl 10 rfl) ?_
    refine lv_iconst (v := 0) hx hb dL_built_920 (by decide) ?_
    refine kj_Wl (As := [.ref (ka_a G (22, 0, 0)), .int v20, .int (0 : Int32)]) (rest := []) C0 hK hT hN hP hS (fun _ h => h) hl (km0_L_row l hl0 hI hq) kd_L_row kq_687 ⟨rfl, rfl, Nat.le_of_ble_eq_true rfl, Nat.le_of_ble_eq_true rfl⟩ rfl (Nat.le_of_ble_eq_true rfl) dL_built_921 ⟨by show _ ≤ 0; omega, by show _ ≤ 0; omega⟩ (fun r89 σ90 H locs hq hP hkp hS => ?_)
    refine lv_lconst (v := 1) hx hb dL_built_924 (by decide) ?_
    refine kr_cne (tgt := 978) C0 dL_built_925 dL_built_926 (by decide) (fun hc => ?_) (fun hc => ?_)
    · have hq := hq.2 hc
      refine W.widen (k := (cl + 0)) (n := 6 * (cl + 0)) (by omega) (by omega) ?_
      exact kb_L_built_978 (R812 := R812) hl0 hI C0 hK hT hN hk812 σ90 v1 v2 v6 v8 v10 v12 v15 v17 v18 v20 v21 hq (cl + 0) (by omega) H locs hP hS ls (lv_sub hl [0, 1, 2, 3, 4, 5, 6, 7, 8, 9, 10, 11] rfl)
    · have hq := hq.1 hc
      refine lv_aload_n hx hb dL_built_929 rfl (lv_at hl 0 rfl) ?_
      refine lv_iload hx hb dL_built_930 (lv_at hl 10 rfl) ?_
      refine lv_iconst (v := 1) hx hb dL_built_932 (by decide) ?_
      refine lv_isub hx hb dL_built_933 ?_
      refine lv_iconst (v := 0) hx hb dL_built_934 (by decide) ?_
      refine kj_Wl (As := [.ref (ka_a G (22, 0, 0)), .int (v20 - (1 : Int32)), .int (0 : Int32)]) (rest := []) C0 hK hT hN hP hS (fun _ h => h) hl (km0_L_row l hl0 hI hq) kd_L_row kq_687 ⟨rfl, rfl, Nat.le_of_ble_eq_true rfl, Nat.le_of_ble_eq_true rfl⟩ rfl (Nat.le_of_ble_eq_true rfl) dL_built_935 ⟨by show _ ≤ 0; omega, by show _ ≤ 0; omega⟩ (fun r91 σ92 H locs hq hP hkp hS => ?_)
      refine lv_lconst (v := 0) hx hb dL_built_938 (by decide) ?_
      refine kr_cne (tgt := 1003) C0 dL_built_939 dL_built_940 (by decide) (fun hc => ?_) (fun hc => ?_)
      · have hq := hq.2 hc
        refine lv_iconst (v := 0) hx hb dL_built_1003 (by decide) ?_
        refine lv_istore (lv' := [(14, .int (0 : Int32)), (0, .ref (ka_a G (22, 0, 0))), (1, .int v1), (2, .long v2), (6, .long v6), (8, .long v8), (10, .long v10), (12, .long v12), (15, .long v15), (17, .int v17), (18, .long v18), (20, .int v20), (21, .long v21)]) hx hb dL_built_1004 hl (by decide) rfl (fun ls hl => ?_)
        obtain ⟨x93, ex93⟩ : ∃ y : Int32, y = v20 + (1 : Int32) := ⟨_, rfl⟩
        have hq := hq x93 ex93
        refine lv_iinc (v := x93) (lv' := [(20, .int x93), (14, .int (0 : Int32)), (0, .ref (ka_a G (22, 0, 0))), (1, .int v1), (2, .long v2), (6, .long v6), (8, .long v8), (10, .long v10), (12, .long v12), (15, .long v15), (17, .int v17), (18, .long v18), (21, .long v21)]) hx hb dL_built_1006 hl (k := 11) rfl (by rw [ex93]; rfl) (by decide) rfl (fun ls hl => ?_)
        refine lv_goto (tgt := 812) hx hb dL_built_1009 (by decide) ?_
        refine W.widen (k := (cl + 0)) (n := 6 * (cl + 0)) (by omega) (by omega) ?_
        exact hk812 σ92 v1 v2 v6 v8 v10 v12 (0 : Int32) v15 v17 v18 x93 hq (cl + 0) (by omega) H locs hP hS ls (lv_sub hl [2, 3, 4, 5, 6, 7, 8, 1, 9, 10, 11, 0] rfl)
      · have hq := hq.1 hc
        refine lv_aload_n hx hb dL_built_943 rfl (lv_at hl 0 rfl) ?_
        refine lv_iload hx hb dL_built_944 (lv_at hl 10 rfl) ?_
        refine lv_iconst (v := 1) hx hb dL_built_946 (by decide) ?_
        refine lv_isub hx hb dL_built_947 ?_
        refine lv_iconst (v := 1) hx hb dL_built_948 (by decide) ?_
        refine kj_Wl (As := [.ref (ka_a G (22, 0, 0)), .int (v20 - (1 : Int32)), .int (1 : Int32)]) (rest := []) C0 hK hT hN hP hS (fun _ h => h) hl (km0_L_row l hl0 hI hq) kd_L_row kq_687 ⟨rfl, rfl, Nat.le_of_ble_eq_true rfl, Nat.le_of_ble_eq_true rfl⟩ rfl (Nat.le_of_ble_eq_true rfl) dL_built_949 ⟨by show _ ≤ 0; omega, by show _ ≤ 0; omega⟩ (fun r94 σ95 H locs hq hP hkp hS => ?_)
        refine lv_lload hx hb dL_built_952 (lv_at hl 11 rfl) ?_
        refine kr_cne (tgt := 1003) C0 dL_built_954 dL_built_955 (by decide) (fun hc => ?_) (fun hc => ?_)
        · have hq := hq.2 hc
          refine lv_iconst (v := 0) hx hb dL_built_1003 (by decide) ?_
          refine lv_istore (lv' := [(14, .int (0 : Int32)), (0, .ref (ka_a G (22, 0, 0))), (1, .int v1), (2, .long v2), (6, .long v6), (8, .long v8), (10, .long v10), (12, .long v12), (15, .long v15), (17, .int v17), (18, .long v18), (20, .int v20), (21, .long v21)]) hx hb dL_built_1004 hl (by decide) rfl (fun ls hl => ?_)
          obtain ⟨x96, ex96⟩ : ∃ y : Int32, y = v20 + (1 : Int32) := ⟨_, rfl⟩
          have hq := hq x96 ex96
          refine lv_iinc (v := x96) (lv' := [(20, .int x96), (14, .int (0 : Int32)), (0, .ref (ka_a G (22, 0, 0))), (1, .int v1), (2, .long v2), (6, .long v6), (8, .long v8), (10, .long v10), (12, .long v12), (15, .long v15), (17, .int v17), (18, .long v18), (21, .long v21)]) hx hb dL_built_1006 hl (k := 11) rfl (by rw [ex96]; rfl) (by decide) rfl (fun ls hl => ?_)
          refine lv_goto (tgt := 812) hx hb dL_built_1009 (by decide) ?_
          refine W.widen (k := (cl + 0)) (n := 6 * (cl + 0)) (by omega) (by omega) ?_
          exact hk812 σ95 v1 v2 v6 v8 v10 v12 (0 : Int32) v15 v17 v18 x96 hq (cl + 0) (by omega) H locs hP hS ls (lv_sub hl [2, 3, 4, 5, 6, 7, 8, 1, 9, 10, 11, 0] rfl)
        · have hq := hq.1 hc
          refine lv_aload_n hx hb dL_built_958 rfl (lv_at hl 0 rfl) ?_
          refine lv_iload hx hb dL_built_959 (lv_at hl 10 rfl) ?_
          refine lv_iconst (v := 1) hx hb dL_built_961 (by decide) ?_
          refine lv_isub hx hb dL_built_962 ?_
          refine lv_iconst (v := 2) hx hb dL_built_963 (by decide) ?_
          refine kj_Wl (As := [.ref (ka_a G (22, 0, 0)), .int (v20 - (1 : Int32)), .int (2 : Int32)]) (rest := []) C0 hK hT hN hP hS (fun _ h => h) hl (km0_L_row l hl0 hI hq) kd_L_row kq_687 ⟨rfl, rfl, Nat.le_of_ble_eq_true rfl, Nat.le_of_ble_eq_true rfl⟩ rfl (Nat.le_of_ble_eq_true rfl) dL_built_964 ⟨by show _ ≤ 0; omega, by show _ ≤ 0; omega⟩ (fun r97 σ98 H locs hq hP hkp hS => ?_)
          refine lv_aload_n hx hb dL_built_967 rfl (lv_at hl 0 rfl) ?_
          refine lv_iload hx hb dL_built_968 (lv_at hl 10 rfl) ?_
          refine lv_iconst (v := 2) hx hb dL_built_970 (by decide) ?_
          refine kj_Wl (As := [.ref (ka_a G (22, 0, 0)), .int v20, .int (2 : Int32)]) (rest := [.long r97]) C0 hK hT hN hP hS (fun _ h => h) hl (km0_L_row l hl0 hI hq) kd_L_row kq_687 ⟨rfl, rfl, Nat.le_of_ble_eq_true rfl, Nat.le_of_ble_eq_true rfl⟩ rfl (Nat.le_of_ble_eq_true rfl) dL_built_971 ⟨by show _ ≤ 0; omega, by show _ ≤ 0; omega⟩ (fun r99 σ100 H locs hq hP hkp hS => ?_)
          refine kr_cne (tgt := 1003) C0 dL_built_974 dL_built_975 (by decide) (fun hc => ?_) (fun hc => ?_)
          · have hq := hq.2 hc
            refine lv_iconst (v := 0) hx hb dL_built_1003 (by decide) ?_
            refine lv_istore (lv' := [(14, .int (0 : Int32)), (0, .ref (ka_a G (22, 0, 0))), (1, .int v1), (2, .long v2), (6, .long v6), (8, .long v8), (10, .long v10), (12, .long v12), (15, .long v15), (17, .int v17), (18, .long v18), (20, .int v20), (21, .long v21)]) hx hb dL_built_1004 hl (by decide) rfl (fun ls hl => ?_)
            obtain ⟨x101, ex101⟩ : ∃ y : Int32, y = v20 + (1 : Int32) := ⟨_, rfl⟩
            have hq := hq x101 ex101
            refine lv_iinc (v := x101) (lv' := [(20, .int x101), (14, .int (0 : Int32)), (0, .ref (ka_a G (22, 0, 0))), (1, .int v1), (2, .long v2), (6, .long v6), (8, .long v8), (10, .long v10), (12, .long v12), (15, .long v15), (17, .int v17), (18, .long v18), (21, .long v21)]) hx hb dL_built_1006 hl (k := 11) rfl (by rw [ex101]; rfl) (by decide) rfl (fun ls hl => ?_)
            refine lv_goto (tgt := 812) hx hb dL_built_1009 (by decide) ?_
            refine W.widen (k := (cl + 0)) (n := 6 * (cl + 0)) (by omega) (by omega) ?_
            exact hk812 σ100 v1 v2 v6 v8 v10 v12 (0 : Int32) v15 v17 v18 x101 hq (cl + 0) (by omega) H locs hP hS ls (lv_sub hl [2, 3, 4, 5, 6, 7, 8, 1, 9, 10, 11, 0] rfl)
          · have hq := hq.1 hc
            refine W.widen (k := (cl + 0)) (n := 6 * (cl + 0)) (by omega) (by omega) ?_
            exact kb_L_built_978 (R812 := R812) hl0 hI C0 hK hT hN hk812 σ100 v1 v2 v6 v8 v10 v12 v15 v17 v18 v20 v21 hq (cl + 0) (by omega) H locs hP hS ls (lv_sub hl [0, 1, 2, 3, 4, 5, 6, 7, 8, 9, 10, 11] rfl)
def kw_L_built_852 (K812 : ka_S → Int32 → Int64 → Int64 → Int64 → Int64 → Int64 → Int32 → Int64 → Int32 → Int64 → Int32 → Prop) (Q : Int32 → ka_S → Prop) (σ : ka_S) (v1 : Int32) (v2 : Int64) (v6 : Int64) (v8 : Int64) (v10 : Int64) (v12 : Int64) (v15 : Int64) (v17 : Int32) (v20 : Int32) (v21 : Int64) (t0 : Int64) (t1 : Int64) : Prop := ∀ x57 : Int64, x57 = (t0 + t1) → 
  kw0_L_at σ v20 v21.toInt32 (fun r58 σ59 =>
  (r58 = (-9 : Int64) → (v21 = (0 : Int64) → kw_L_built_896 K812 Q σ59 v1 v2 v6 v8 v10 v12 v15 v17 x57 v20 v21) ∧
    (¬ v21 = (0 : Int64) → kw0_L_at σ59 v20 (v21.toInt32 - (1 : Int32)) (fun r61 σ62 =>
      (r61 = (-9 : Int64) → ∀ x63 : Int32, x63 = v20 + (1 : Int32) →
        K812 σ62 v1 v2 v6 v8 v10 v12 (0 : Int32) v15 v17 x57 x63) ∧
      (¬ r61 = (-9 : Int64) → kw_L_built_896 K812 Q σ62 v1 v2 v6 v8 v10 v12 v15 v17 x57 v20 v21)))) ∧
  (¬ r58 = (-9 : Int64) → ∀ x60 : Int32, x60 = v20 + (1 : Int32) →
    K812 σ59 v1 v2 v6 v8 v10 v12 (0 : Int32) v15 v17 x57 x60))
set_option maxHeartbeats 4000000 in
set_option maxRecDepth 100000 in
theorem kb_L_built_852 {p : Program} {l : Launch} {e : Env} {s : State} {m : MethodId} {below : List Frame} {meth : Method} {c : Code} {G : ka_G} {args : Array Value} (hl0 : l.stackTraces = false) (hI : ka_I G) (C0 : ka_C p s m args meth c cL_built 37 "GlossRowsLaw" (some .boolean)) (hK : ka_Kn G s) (hT : ka_T9 (ka_A G) s) (hN : kl_Nc s) {Q : Int32 → ka_S → Prop} {K812 : ka_S → Int32 → Int64 → Int64 → Int64 → Int64 → Int64 → Int32 → Int64 → Int32 → Int64 → Int32 → Prop} {R812 : Nat} (hk812 : ∀ (σ : ka_S) (v1 : Int32) (v2 : Int64) (v6 : Int64) (v8 : Int64) (v10 : Int64) (v12 : Int64) (v14 : Int32) (v15 : Int64) (v17 : Int32) (v18 : Int64) (v20 : Int32), K812 σ v1 v2 v6 v8 v10 v12 v14 v15 v17 v18 v20 → ∀ (cl : Nat), cl + R812 ≤ 0 → ∀ (H : Heap) (locs : List Loc), ka_P G σ H → va_S (ka_A G) s.heap H locs → ∀ ls : Array Slot, lv_has ls 37 [(0, .ref (ka_a G (22, 0, 0))), (1, .int v1), (2, .long v2), (6, .long v6), (8, .long v8), (10, .long v10), (12, .long v12), (14, .int v14), (15, .long v15), (17, .int v17), (18, .long v18), (20, .int v20)] → W p l e rm_L_built s m args below meth c H locs cl (6 * cl) (MQ below (va_Qi Q (ka_B G) (ka_A G)) args s 0 0 (ka_A G)) (F0 m 812 ls [])) : ∀ (σ : ka_S) (v1 : Int32) (v2 : Int64) (v6 : Int64) (v8 : Int64) (v10 : Int64) (v12 : Int64) (v15 : Int64) (v17 : Int32) (v20 : Int32) (v21 : Int64) (t0 : Int64) (t1 : Int64), kw_L_built_852 K812 Q σ v1 v2 v6 v8 v10 v12 v15 v17 v20 v21 t0 t1 → ∀ (cl : Nat), cl + 0 + R812 ≤ 0 → ∀ (H : Heap) (locs : List Loc), ka_P G σ H → va_S (ka_A G) s.heap H locs → ∀ ls : Array Slot, lv_has ls 37 [(0, .ref (ka_a G (22, 0, 0))), (1, .int v1), (2, .long v2), (6, .long v6), (8, .long v8), (10, .long v10), (12, .long v12), (15, .long v15), (17, .int v17), (20, .int v20), (21, .long v21)] → W p l e rm_L_built s m args below meth c H locs cl (6 * cl) (MQ below (va_Qi Q (ka_B G) (ka_A G)) args s 0 0 (ka_A G)) (F0 m 852 ls [.long t1, .long t0]) := by
  obtain ⟨hx, hb, -, hml, hown, hts, -⟩ := id C0
  intro σ v1 v2 v6 v8 v10 v12 v15 v17 v20 v21 t0 t1 hq cl hcl H locs hP hS ls hl
  unfold kw_L_built_852 at hq
  refine lv_ladd hx hb dL_built_852 ?_
  refine lv_topl (fun x57 ex57 => ?_)
  have hq := hq x57 ex57
  refine lv_lstore (lv' := [(18, .long x57), (0, .ref (ka_a G (22, 0, 0))), (1, .int v1), (2, .long v2), (6, .long v6), (8, .long v8), (10, .long v10), (12, .long v12), (15, .long v15), (17, .int v17), (20, .int v20), (21, .long v21)]) hx hb dL_built_853 hl (by decide) rfl (fun ls hl => ?_)
  refine lv_aload_n hx hb dL_built_855 rfl (lv_at hl 1 rfl) ?_
  refine lv_iload hx hb dL_built_856 (lv_at hl 10 rfl) ?_
  refine lv_lload hx hb dL_built_858 (lv_at hl 11 rfl) ?_
  refine lv_l2i hx hb dL_built_860 rfl ?_
  refine kj_Wl (As := [.ref (ka_a G (22, 0, 0)), .int v20, .int v21.toInt32]) (rest := []) C0 hK hT hN hP hS (fun _ h => h) hl (km0_L_at l hl0 hI hq) kd_L_at kq_724 ⟨rfl, rfl, Nat.le_of_ble_eq_true rfl, Nat.le_of_ble_eq_true rfl⟩ rfl (Nat.le_of_ble_eq_true rfl) dL_built_861 ⟨by show _ ≤ 0; omega, by show _ ≤ 0; omega⟩ (fun r58 σ59 H locs hq hP hkp hS => ?_)
  refine lv_ldc2 hx hb hown (hts _ kq_957) dL_built_864 ?_
  refine kr_cne (tgt := 1003) C0 dL_built_867 dL_built_868 (by decide) (fun hc => ?_) (fun hc => ?_)
  · have hq := hq.2 hc
    refine lv_iconst (v := 0) hx hb dL_built_1003 (by decide) ?_
    refine lv_istore (lv' := [(14, .int (0 : Int32)), (18, .long x57), (0, .ref (ka_a G (22, 0, 0))), (1, .int v1), (2, .long v2), (6, .long v6), (8, .long v8), (10, .long v10), (12, .long v12), (15, .long v15), (17, .int v17), (20, .int v20), (21, .long v21)]) hx hb dL_built_1004 hl (by decide) rfl (fun ls hl => ?_)
    obtain ⟨x60, ex60⟩ : ∃ y : Int32, y = v20 + (1 : Int32) := ⟨_, rfl⟩
    have hq := hq x60 ex60
    refine lv_iinc (v := x60) (lv' := [(20, .int x60), (14, .int (0 : Int32)), (18, .long x57), (0, .ref (ka_a G (22, 0, 0))), (1, .int v1), (2, .long v2), (6, .long v6), (8, .long v8), (10, .long v10), (12, .long v12), (15, .long v15), (17, .int v17), (21, .long v21)]) hx hb dL_built_1006 hl (k := 11) rfl (by rw [ex60]; rfl) (by decide) rfl (fun ls hl => ?_)
    refine lv_goto (tgt := 812) hx hb dL_built_1009 (by decide) ?_
    refine W.widen (k := (cl + 0)) (n := 6 * (cl + 0)) (by omega) (by omega) ?_
    exact hk812 σ59 v1 v2 v6 v8 v10 v12 (0 : Int32) v15 v17 x57 x60 hq (cl + 0) (by omega) H locs hP hS ls (lv_sub hl [3, 4, 5, 6, 7, 8, 9, 1, 10, 11, 2, 0] rfl)
  · have hq := hq.1 hc
    refine lv_lload hx hb dL_built_871 (lv_at hl 11 rfl) ?_
    refine lv_lconst (v := 0) hx hb dL_built_873 (by decide) ?_
    refine kr_ceq (tgt := 896) C0 dL_built_874 dL_built_875 (by decide) (fun hc => ?_) (fun hc => ?_)
    · have hq := hq.1 hc
      refine W.widen (k := (cl + 0)) (n := 6 * (cl + 0)) (by omega) (by omega) ?_
      exact kb_L_built_896 (R812 := R812) hl0 hI C0 hK hT hN hk812 σ59 v1 v2 v6 v8 v10 v12 v15 v17 x57 v20 v21 hq (cl + 0) (by omega) H locs hP hS ls (lv_sub hl [1, 2, 3, 4, 5, 6, 7, 8, 9, 0, 10, 11] rfl)
    · have hq := hq.2 hc
      refine lv_aload_n hx hb dL_built_878 rfl (lv_at hl 1 rfl) ?_
      refine lv_iload hx hb dL_built_879 (lv_at hl 10 rfl) ?_
      refine lv_lload hx hb dL_built_881 (lv_at hl 11 rfl) ?_
      refine lv_l2i hx hb dL_built_883 rfl ?_
      refine lv_iconst (v := 1) hx hb dL_built_884 (by decide) ?_
      refine lv_isub hx hb dL_built_885 ?_
      refine kj_Wl (As := [.ref (ka_a G (22, 0, 0)), .int v20, .int (v21.toInt32 - (1 : Int32))]) (rest := []) C0 hK hT hN hP hS (fun _ h => h) hl (km0_L_at l hl0 hI hq) kd_L_at kq_724 ⟨rfl, rfl, Nat.le_of_ble_eq_true rfl, Nat.le_of_ble_eq_true rfl⟩ rfl (Nat.le_of_ble_eq_true rfl) dL_built_886 ⟨by show _ ≤ 0; omega, by show _ ≤ 0; omega⟩ (fun r61 σ62 H locs hq hP hkp hS => ?_)
      refine lv_ldc2 hx hb hown (hts _ kq_957) dL_built_889 ?_
      refine kr_ceq (tgt := 1003) C0 dL_built_892 dL_built_893 (by decide) (fun hc => ?_) (fun hc => ?_)
      · have hq := hq.1 hc
        refine lv_iconst (v := 0) hx hb dL_built_1003 (by decide) ?_
        refine lv_istore (lv' := [(14, .int (0 : Int32)), (18, .long x57), (0, .ref (ka_a G (22, 0, 0))), (1, .int v1), (2, .long v2), (6, .long v6), (8, .long v8), (10, .long v10), (12, .long v12), (15, .long v15), (17, .int v17), (20, .int v20), (21, .long v21)]) hx hb dL_built_1004 hl (by decide) rfl (fun ls hl => ?_)
        obtain ⟨x63, ex63⟩ : ∃ y : Int32, y = v20 + (1 : Int32) := ⟨_, rfl⟩
        have hq := hq x63 ex63
        refine lv_iinc (v := x63) (lv' := [(20, .int x63), (14, .int (0 : Int32)), (18, .long x57), (0, .ref (ka_a G (22, 0, 0))), (1, .int v1), (2, .long v2), (6, .long v6), (8, .long v8), (10, .long v10), (12, .long v12), (15, .long v15), (17, .int v17), (21, .long v21)]) hx hb dL_built_1006 hl (k := 11) rfl (by rw [ex63]; rfl) (by decide) rfl (fun ls hl => ?_)
        refine lv_goto (tgt := 812) hx hb dL_built_1009 (by decide) ?_
        refine W.widen (k := (cl + 0)) (n := 6 * (cl + 0)) (by omega) (by omega) ?_
        exact hk812 σ62 v1 v2 v6 v8 v10 v12 (0 : Int32) v15 v17 x57 x63 hq (cl + 0) (by omega) H locs hP hS ls (lv_sub hl [3, 4, 5, 6, 7, 8, 9, 1, 10, 11, 2, 0] rfl)
      · have hq := hq.2 hc
        refine W.widen (k := (cl + 0)) (n := 6 * (cl + 0)) (by omega) (by omega) ?_
        exact kb_L_built_896 (R812 := R812) hl0 hI C0 hK hT hN hk812 σ62 v1 v2 v6 v8 v10 v12 v15 v17 x57 v20 v21 hq (cl + 0) (by omega) H locs hP hS ls (lv_sub hl [1, 2, 3, 4, 5, 6, 7, 8, 9, 0, 10, 11] rfl)
def kw_L_built_1062 (Q : Int32 → ka_S → Prop) (σ : ka_S) (v6 : Int64) (v8 : Int64) (v10 : Int64) (v12 : Int64) (v15 : Int64) (v18 : Int64) (t0 : Int64) (t1 : Int64) : Prop := (t0 = t1 → kw0_L_about σ (4 : Int32) (fun r70 σ71 =>
    (r70 = v15 → (v18 = v15 → kw0_L_about σ71 (5 : Int32) (fun r72 σ73 =>
        (r72 = (((2 : Int64) * v15) + v12) → kw0_L_about σ73 (6 : Int32) (fun r74 σ75 =>
          (r74 = v10 → kw0_L_about σ75 (8 : Int32) (fun r76 σ77 =>
            ((v6 - v8) < r76 → Q (0 : Int32) σ77) ∧
            (¬ (v6 - v8) < r76 → kw0_L_about σ77 (7 : Int32) (fun r78 σ79 =>
              kw_L_in σ79 r78 (0 : Int64) (16 : Int64) (fun r80 σ81 =>
              (r80 = (0 : Int32) → Q (0 : Int32) σ81) ∧
              (¬ r80 = (0 : Int32) → Q (1 : Int32) σ81)))))) ∧
          (¬ r74 = v10 → Q (0 : Int32) σ75))) ∧
        (¬ r72 = (((2 : Int64) * v15) + v12) → Q (0 : Int32) σ73))) ∧
      (¬ v18 = v15 → Q (0 : Int32) σ71)) ∧
    (¬ r70 = v15 → Q (0 : Int32) σ71))) ∧
  (¬ t0 = t1 → Q (0 : Int32) σ)
set_option maxHeartbeats 4000000 in
set_option maxRecDepth 100000 in
theorem kb_L_built_1062 {p : Program} {l : Launch} {e : Env} {s : State} {m : MethodId} {below : List Frame} {meth : Method} {c : Code} {G : ka_G} {args : Array Value} (hl0 : l.stackTraces = false) (hI : ka_I G) (C0 : ka_C p s m args meth c cL_built 37 "GlossRowsLaw" (some .boolean)) (hK : ka_Kn G s) (hT : ka_T9 (ka_A G) s) (hN : kl_Nc s) {Q : Int32 → ka_S → Prop} : ∀ (σ : ka_S) (v6 : Int64) (v8 : Int64) (v10 : Int64) (v12 : Int64) (v15 : Int64) (v18 : Int64) (t0 : Int64) (t1 : Int64), kw_L_built_1062 Q σ v6 v8 v10 v12 v15 v18 t0 t1 → ∀ (cl : Nat), cl + 0 ≤ 0 → ∀ (H : Heap) (locs : List Loc), ka_P G σ H → va_S (ka_A G) s.heap H locs → ∀ ls : Array Slot, lv_has ls 37 [(0, .ref (ka_a G (22, 0, 0))), (6, .long v6), (8, .long v8), (10, .long v10), (12, .long v12), (15, .long v15), (18, .long v18)] → W p l e rm_L_built s m args below meth c H locs cl (6 * cl) (MQ below (va_Qi Q (ka_B G) (ka_A G)) args s 0 0 (ka_A G)) (F0 m 1062 ls [.long t1, .long t0]) := by
  obtain ⟨hx, hb, -, hml, hown, hts, -⟩ := id C0
  intro σ v6 v8 v10 v12 v15 v18 t0 t1 hq cl hcl H locs hP hS ls hl
  unfold kw_L_built_1062 at hq
  refine kr_cne (tgt := 1150) C0 dL_built_1062 dL_built_1063 (by decide) (fun hc => ?_) (fun hc => ?_)
  · have hq := hq.2 hc
    refine lv_iconst (v := 0) hx hb dL_built_1150 (by decide) ?_
    exact kl_zret C0 hK hP hS rfl hq dL_built_1151 ⟨by omega, by omega⟩
  · have hq := hq.1 hc
    refine lv_aload_n hx hb dL_built_1066 rfl (lv_at hl 0 rfl) ?_
    refine lv_iconst (v := 4) hx hb dL_built_1067 (by decide) ?_
    refine kj_Wl (As := [.ref (ka_a G (22, 0, 0)), .int (4 : Int32)]) (rest := []) C0 hK hT hN hP hS (fun _ h => h) hl (km0_L_about l hl0 hI hq) kd_L_about kq_478 ⟨rfl, rfl, Nat.le_of_ble_eq_true rfl, Nat.le_of_ble_eq_true rfl⟩ rfl (Nat.le_of_ble_eq_true rfl) dL_built_1068 ⟨by show _ ≤ 0; omega, by show _ ≤ 0; omega⟩ (fun r70 σ71 H locs hq hP hkp hS => ?_)
    refine lv_lload hx hb dL_built_1071 (lv_at hl 5 rfl) ?_
    refine kr_cne (tgt := 1150) C0 dL_built_1073 dL_built_1074 (by decide) (fun hc => ?_) (fun hc => ?_)
    · have hq := hq.2 hc
      refine lv_iconst (v := 0) hx hb dL_built_1150 (by decide) ?_
      exact kl_zret C0 hK hP hS rfl hq dL_built_1151 ⟨by omega, by omega⟩
    · have hq := hq.1 hc
      refine lv_lload hx hb dL_built_1077 (lv_at hl 6 rfl) ?_
      refine lv_lload hx hb dL_built_1079 (lv_at hl 5 rfl) ?_
      refine kr_cne (tgt := 1150) C0 dL_built_1081 dL_built_1082 (by decide) (fun hc => ?_) (fun hc => ?_)
      · have hq := hq.2 hc
        refine lv_iconst (v := 0) hx hb dL_built_1150 (by decide) ?_
        exact kl_zret C0 hK hP hS rfl hq dL_built_1151 ⟨by omega, by omega⟩
      · have hq := hq.1 hc
        refine lv_aload_n hx hb dL_built_1085 rfl (lv_at hl 0 rfl) ?_
        refine lv_iconst (v := 5) hx hb dL_built_1086 (by decide) ?_
        refine kj_Wl (As := [.ref (ka_a G (22, 0, 0)), .int (5 : Int32)]) (rest := []) C0 hK hT hN hP hS (fun _ h => h) hl (km0_L_about l hl0 hI hq) kd_L_about kq_478 ⟨rfl, rfl, Nat.le_of_ble_eq_true rfl, Nat.le_of_ble_eq_true rfl⟩ rfl (Nat.le_of_ble_eq_true rfl) dL_built_1087 ⟨by show _ ≤ 0; omega, by show _ ≤ 0; omega⟩ (fun r72 σ73 H locs hq hP hkp hS => ?_)
        refine lv_ldc2 hx hb hown (hts _ kq_960) dL_built_1090 ?_
        refine lv_lload hx hb dL_built_1093 (lv_at hl 5 rfl) ?_
        refine lv_lmul hx hb dL_built_1095 ?_
        refine lv_lload hx hb dL_built_1096 (lv_at hl 4 rfl) ?_
        refine lv_ladd hx hb dL_built_1098 ?_
        refine kr_cne (tgt := 1150) C0 dL_built_1099 dL_built_1100 (by decide) (fun hc => ?_) (fun hc => ?_)
        · have hq := hq.2 hc
          refine lv_iconst (v := 0) hx hb dL_built_1150 (by decide) ?_
          exact kl_zret C0 hK hP hS rfl hq dL_built_1151 ⟨by omega, by omega⟩
        · have hq := hq.1 hc
          refine lv_aload_n hx hb dL_built_1103 rfl (lv_at hl 0 rfl) ?_
          refine lv_bipush (v := 6) hx hb dL_built_1104 (by decide) ?_
          refine kj_Wl (As := [.ref (ka_a G (22, 0, 0)), .int (6 : Int32)]) (rest := []) C0 hK hT hN hP hS (fun _ h => h) hl (km0_L_about l hl0 hI hq) kd_L_about kq_478 ⟨rfl, rfl, Nat.le_of_ble_eq_true rfl, Nat.le_of_ble_eq_true rfl⟩ rfl (Nat.le_of_ble_eq_true rfl) dL_built_1106 ⟨by show _ ≤ 0; omega, by show _ ≤ 0; omega⟩ (fun r74 σ75 H locs hq hP hkp hS => ?_)
          refine lv_lload hx hb dL_built_1109 (lv_at hl 3 rfl) ?_
          refine kr_cne (tgt := 1150) C0 dL_built_1111 dL_built_1112 (by decide) (fun hc => ?_) (fun hc => ?_)
          · have hq := hq.2 hc
            refine lv_iconst (v := 0) hx hb dL_built_1150 (by decide) ?_
            exact kl_zret C0 hK hP hS rfl hq dL_built_1151 ⟨by omega, by omega⟩
          · have hq := hq.1 hc
            refine lv_aload_n hx hb dL_built_1115 rfl (lv_at hl 0 rfl) ?_
            refine lv_bipush (v := 8) hx hb dL_built_1116 (by decide) ?_
            refine kj_Wl (As := [.ref (ka_a G (22, 0, 0)), .int (8 : Int32)]) (rest := []) C0 hK hT hN hP hS (fun _ h => h) hl (km0_L_about l hl0 hI hq) kd_L_about kq_478 ⟨rfl, rfl, Nat.le_of_ble_eq_true rfl, Nat.le_of_ble_eq_true rfl⟩ rfl (Nat.le_of_ble_eq_true rfl) dL_built_1118 ⟨by show _ ≤ 0; omega, by show _ ≤ 0; omega⟩ (fun r76 σ77 H locs hq hP hkp hS => ?_)
            refine lv_lload hx hb dL_built_1121 (lv_at hl 1 rfl) ?_
            refine lv_lload hx hb dL_built_1123 (lv_at hl 2 rfl) ?_
            refine lv_lsub hx hb dL_built_1125 ?_
            refine kr_cgt (tgt := 1150) C0 dL_built_1126 dL_built_1127 (by decide) (fun hc => ?_) (fun hc => ?_)
            · have hq := hq.1 hc
              refine lv_iconst (v := 0) hx hb dL_built_1150 (by decide) ?_
              exact kl_zret C0 hK hP hS rfl hq dL_built_1151 ⟨by omega, by omega⟩
            · have hq := hq.2 hc
              refine lv_aload_n hx hb dL_built_1130 rfl (lv_at hl 0 rfl) ?_
              refine lv_bipush (v := 7) hx hb dL_built_1131 (by decide) ?_
              refine kj_Wl (As := [.ref (ka_a G (22, 0, 0)), .int (7 : Int32)]) (rest := []) C0 hK hT hN hP hS (fun _ h => h) hl (km0_L_about l hl0 hI hq) kd_L_about kq_478 ⟨rfl, rfl, Nat.le_of_ble_eq_true rfl, Nat.le_of_ble_eq_true rfl⟩ rfl (Nat.le_of_ble_eq_true rfl) dL_built_1133 ⟨by show _ ≤ 0; omega, by show _ ≤ 0; omega⟩ (fun r78 σ79 H locs hq hP hkp hS => ?_)
              refine lv_lconst (v := 0) hx hb dL_built_1136 (by decide) ?_
              refine lv_ldc2 hx hb hown (hts _ kq_961) dL_built_1137 ?_
              refine kr_Si (As := [.long r78, .long (0 : Int64), .long (16 : Int64)]) (rest := []) C0 hK hP hS hl (km_L_in l hI hq) kd_L_in kq_954 ⟨rfl, rfl, Nat.le_of_ble_eq_true rfl, Nat.le_of_ble_eq_true rfl⟩ rfl (Nat.le_of_ble_eq_true rfl) dL_built_1140 ⟨by show _ ≤ 0; omega, by show _ ≤ 0; omega⟩ (fun r80 σ81 H locs hq hP hS => ?_)
              refine lv_if_eq (tgt := 1150) hx hb dL_built_1143 (by decide) (fun hc => ?_) (fun hc => ?_)
              · have hq := hq.1 hc
                refine lv_iconst (v := 0) hx hb dL_built_1150 (by decide) ?_
                exact kl_zret C0 hK hP hS rfl hq dL_built_1151 ⟨by omega, by omega⟩
              · have hq := hq.2 hc
                refine lv_iconst (v := 1) hx hb dL_built_1146 (by decide) ?_
                refine lv_goto (tgt := 1151) hx hb dL_built_1147 (by decide) ?_
                exact kl_zret C0 hK hP hS rfl hq dL_built_1151 ⟨by omega, by omega⟩
def kw_L_built_1012 (Q : Int32 → ka_S → Prop) (σ : ka_S) (v1 : Int32) (v6 : Int64) (v8 : Int64) (v10 : Int64) (v12 : Int64) (v14 : Int32) (v15 : Int64) (v18 : Int64) : Prop := (v14 = (0 : Int32) → Q (0 : Int32) σ) ∧
  (¬ v14 = (0 : Int32) → kw0_L_about σ (1 : Int32) (fun r49 σ50 =>
    (r49 = v6 → kw0_L_about σ50 (2 : Int32) (fun r51 σ52 =>
      (r51 = v8 → kw0_L_about σ52 (3 : Int32) (fun r53 σ54 =>
        (v1 = (0 : Int32) → kw_L_built_1062 Q σ54 v6 v8 v10 v12 v15 v18 r53 (0 : Int64)) ∧
        (¬ v1 = (0 : Int32) → kw0_L_word σ54 (v1 - (1 : Int32)) (4 : Int32) (fun r55 σ56 =>
          kw_L_built_1062 Q σ56 v6 v8 v10 v12 v15 v18 r53 (r55 + (1 : Int64)))))) ∧
      (¬ r51 = v8 → Q (0 : Int32) σ52))) ∧
    (¬ r49 = v6 → Q (0 : Int32) σ50)))
set_option maxHeartbeats 4000000 in
set_option maxRecDepth 100000 in
theorem kb_L_built_1012 {p : Program} {l : Launch} {e : Env} {s : State} {m : MethodId} {below : List Frame} {meth : Method} {c : Code} {G : ka_G} {args : Array Value} (hl0 : l.stackTraces = false) (hI : ka_I G) (C0 : ka_C p s m args meth c cL_built 37 "GlossRowsLaw" (some .boolean)) (hK : ka_Kn G s) (hT : ka_T9 (ka_A G) s) (hN : kl_Nc s) {Q : Int32 → ka_S → Prop} : ∀ (σ : ka_S) (v1 : Int32) (v6 : Int64) (v8 : Int64) (v10 : Int64) (v12 : Int64) (v14 : Int32) (v15 : Int64) (v18 : Int64), kw_L_built_1012 Q σ v1 v6 v8 v10 v12 v14 v15 v18 → ∀ (cl : Nat), cl + 0 ≤ 0 → ∀ (H : Heap) (locs : List Loc), ka_P G σ H → va_S (ka_A G) s.heap H locs → ∀ ls : Array Slot, lv_has ls 37 [(0, .ref (ka_a G (22, 0, 0))), (1, .int v1), (6, .long v6), (8, .long v8), (10, .long v10), (12, .long v12), (14, .int v14), (15, .long v15), (18, .long v18)] → W p l e rm_L_built s m args below meth c H locs cl (6 * cl) (MQ below (va_Qi Q (ka_B G) (ka_A G)) args s 0 0 (ka_A G)) (F0 m 1012 ls []) := by
  obtain ⟨hx, hb, -, hml, hown, hts, -⟩ := id C0
  intro σ v1 v6 v8 v10 v12 v14 v15 v18 hq cl hcl H locs hP hS ls hl
  unfold kw_L_built_1012 at hq
  refine lv_iload hx hb dL_built_1012 (lv_at hl 6 rfl) ?_
  refine lv_if_eq (tgt := 1150) hx hb dL_built_1014 (by decide) (fun hc => ?_) (fun hc => ?_)
  · have hq := hq.1 hc
    refine lv_iconst (v := 0) hx hb dL_built_1150 (by decide) ?_
    exact kl_zret C0 hK hP hS rfl hq dL_built_1151 ⟨by omega, by omega⟩
  · have hq := hq.2 hc
    refine lv_aload_n hx hb dL_built_1017 rfl (lv_at hl 0 rfl) ?_
    refine lv_iconst (v := 1) hx hb dL_built_1018 (by decide) ?_
    refine kj_Wl (As := [.ref (ka_a G (22, 0, 0)), .int (1 : Int32)]) (rest := []) C0 hK hT hN hP hS (fun _ h => h) hl (km0_L_about l hl0 hI hq) kd_L_about kq_478 ⟨rfl, rfl, Nat.le_of_ble_eq_true rfl, Nat.le_of_ble_eq_true rfl⟩ rfl (Nat.le_of_ble_eq_true rfl) dL_built_1019 ⟨by show _ ≤ 0; omega, by show _ ≤ 0; omega⟩ (fun r49 σ50 H locs hq hP hkp hS => ?_)
    refine lv_lload hx hb dL_built_1022 (lv_at hl 2 rfl) ?_
    refine kr_cne (tgt := 1150) C0 dL_built_1024 dL_built_1025 (by decide) (fun hc => ?_) (fun hc => ?_)
    · have hq := hq.2 hc
      refine lv_iconst (v := 0) hx hb dL_built_1150 (by decide) ?_
      exact kl_zret C0 hK hP hS rfl hq dL_built_1151 ⟨by omega, by omega⟩
    · have hq := hq.1 hc
      refine lv_aload_n hx hb dL_built_1028 rfl (lv_at hl 0 rfl) ?_
      refine lv_iconst (v := 2) hx hb dL_built_1029 (by decide) ?_
      refine kj_Wl (As := [.ref (ka_a G (22, 0, 0)), .int (2 : Int32)]) (rest := []) C0 hK hT hN hP hS (fun _ h => h) hl (km0_L_about l hl0 hI hq) kd_L_about kq_478 ⟨rfl, rfl, Nat.le_of_ble_eq_true rfl, Nat.le_of_ble_eq_true rfl⟩ rfl (Nat.le_of_ble_eq_true rfl) dL_built_1030 ⟨by show _ ≤ 0; omega, by show _ ≤ 0; omega⟩ (fun r51 σ52 H locs hq hP hkp hS => ?_)
      refine lv_lload hx hb dL_built_1033 (lv_at hl 3 rfl) ?_
      refine kr_cne (tgt := 1150) C0 dL_built_1035 dL_built_1036 (by decide) (fun hc => ?_) (fun hc => ?_)
      · have hq := hq.2 hc
        refine lv_iconst (v := 0) hx hb dL_built_1150 (by decide) ?_
        exact kl_zret C0 hK hP hS rfl hq dL_built_1151 ⟨by omega, by omega⟩
      · have hq := hq.1 hc
        refine lv_aload_n hx hb dL_built_1039 rfl (lv_at hl 0 rfl) ?_
        refine lv_iconst (v := 3) hx hb dL_built_1040 (by decide) ?_
        refine kj_Wl (As := [.ref (ka_a G (22, 0, 0)), .int (3 : Int32)]) (rest := []) C0 hK hT hN hP hS (fun _ h => h) hl (km0_L_about l hl0 hI hq) kd_L_about kq_478 ⟨rfl, rfl, Nat.le_of_ble_eq_true rfl, Nat.le_of_ble_eq_true rfl⟩ rfl (Nat.le_of_ble_eq_true rfl) dL_built_1041 ⟨by show _ ≤ 0; omega, by show _ ≤ 0; omega⟩ (fun r53 σ54 H locs hq hP hkp hS => ?_)
        refine lv_iload_n hx hb dL_built_1044 rfl (lv_at hl 1 rfl) ?_
        refine lv_if_ne (tgt := 1052) hx hb dL_built_1045 (by decide) (fun hc => ?_) (fun hc => ?_)
        · have hq := hq.2 hc
          refine lv_aload_n hx hb dL_built_1052 rfl (lv_at hl 0 rfl) ?_
          refine lv_iload_n hx hb dL_built_1053 rfl (lv_at hl 1 rfl) ?_
          refine lv_iconst (v := 1) hx hb dL_built_1054 (by decide) ?_
          refine lv_isub hx hb dL_built_1055 ?_
          refine lv_iconst (v := 4) hx hb dL_built_1056 (by decide) ?_
          refine kj_Wl (As := [.ref (ka_a G (22, 0, 0)), .int (v1 - (1 : Int32)), .int (4 : Int32)]) (rest := [.long r53]) C0 hK hT hN hP hS (fun _ h => h) hl (km0_L_word l hl0 hI hq) kd_L_word kq_563 ⟨rfl, rfl, Nat.le_of_ble_eq_true rfl, Nat.le_of_ble_eq_true rfl⟩ rfl (Nat.le_of_ble_eq_true rfl) dL_built_1057 ⟨by show _ ≤ 0; omega, by show _ ≤ 0; omega⟩ (fun r55 σ56 H locs hq hP hkp hS => ?_)
          refine lv_lconst (v := 1) hx hb dL_built_1060 (by decide) ?_
          refine lv_ladd hx hb dL_built_1061 ?_
          refine W.widen (k := (cl + 0)) (n := 6 * (cl + 0)) (by omega) (by omega) ?_
          exact kb_L_built_1062 hl0 hI C0 hK hT hN σ56 v6 v8 v10 v12 v15 v18 r53 (r55 + (1 : Int64)) hq (cl + 0) (by omega) H locs hP hS ls (lv_sub hl [0, 2, 3, 4, 5, 7, 8] rfl)
        · have hq := hq.1 hc
          refine lv_lconst (v := 0) hx hb dL_built_1048 (by decide) ?_
          refine lv_goto (tgt := 1062) hx hb dL_built_1049 (by decide) ?_
          refine W.widen (k := (cl + 0)) (n := 6 * (cl + 0)) (by omega) (by omega) ?_
          exact kb_L_built_1062 hl0 hI C0 hK hT hN σ54 v6 v8 v10 v12 v15 v18 r53 (0 : Int64) hq (cl + 0) (by omega) H locs hP hS ls (lv_sub hl [0, 2, 3, 4, 5, 7, 8] rfl)
def kw_L_built_812 (Q : Int32 → ka_S → Prop) : Nat → ka_S → Int32 → Int64 → Int64 → Int64 → Int64 → Int64 → Int32 → Int64 → Int32 → Int64 → Int32 → Prop
  | 0, _, _, _, _, _, _, _, _, _, _, _, _ => False
  | n + 1, σ, v1, v2, v6, v8, v10, v12, v14, v15, v17, v18, v20 => (v17 ≤ v20 → kw_L_built_1012 Q σ v1 v6 v8 v10 v12 v14 v15 v18) ∧
    (¬ v17 ≤ v20 → (v14 = (0 : Int32) → kw_L_built_1012 Q σ v1 v6 v8 v10 v12 v14 v15 v18) ∧
      (¬ v14 = (0 : Int32) → kw0_L_row σ v20 (1 : Int32) (fun r43 σ44 =>
        kw0_L_row σ44 v20 (0 : Int32) (fun r45 σ46 =>
        (r45 = (0 : Int64) → kw_L_built_852 (kw_L_built_812 Q n) Q σ46 v1 v2 v6 v8 v10 v12 v15 v17 v20 r43 v18 (1 : Int64)) ∧
        (¬ r45 = (0 : Int64) → kw_L_built_852 (kw_L_built_812 Q n) Q σ46 v1 v2 v6 v8 v10 v12 v15 v17 v20 r43 v18 (0 : Int64))))))
set_option maxHeartbeats 4000000 in
set_option maxRecDepth 100000 in
theorem kb_L_built_812 {p : Program} {l : Launch} {e : Env} {s : State} {m : MethodId} {below : List Frame} {meth : Method} {c : Code} {G : ka_G} {args : Array Value} (hl0 : l.stackTraces = false) (hI : ka_I G) (C0 : ka_C p s m args meth c cL_built 37 "GlossRowsLaw" (some .boolean)) (hK : ka_Kn G s) (hT : ka_T9 (ka_A G) s) (hN : kl_Nc s) {Q : Int32 → ka_S → Prop} : ∀ (n : Nat) (σ : ka_S) (v1 : Int32) (v2 : Int64) (v6 : Int64) (v8 : Int64) (v10 : Int64) (v12 : Int64) (v14 : Int32) (v15 : Int64) (v17 : Int32) (v18 : Int64) (v20 : Int32), kw_L_built_812 Q n σ v1 v2 v6 v8 v10 v12 v14 v15 v17 v18 v20 → ∀ (cl : Nat), cl + 0 ≤ 0 → ∀ (H : Heap) (locs : List Loc), ka_P G σ H → va_S (ka_A G) s.heap H locs → ∀ ls : Array Slot, lv_has ls 37 [(0, .ref (ka_a G (22, 0, 0))), (1, .int v1), (2, .long v2), (6, .long v6), (8, .long v8), (10, .long v10), (12, .long v12), (14, .int v14), (15, .long v15), (17, .int v17), (18, .long v18), (20, .int v20)] → W p l e rm_L_built s m args below meth c H locs cl (6 * cl) (MQ below (va_Qi Q (ka_B G) (ka_A G)) args s 0 0 (ka_A G)) (F0 m 812 ls []) := by
  obtain ⟨hx, hb, -, hml, hown, hts, -⟩ := id C0
  intro n
  induction n with
  | zero =>
    intro σ v1 v2 v6 v8 v10 v12 v14 v15 v17 v18 v20 hq
    rw [kw_L_built_812] at hq
    exact hq.elim
  | succ n ih =>
    have ih9 : ∀ (σ : ka_S) (v1 : Int32) (v2 : Int64) (v6 : Int64) (v8 : Int64) (v10 : Int64) (v12 : Int64) (v14 : Int32) (v15 : Int64) (v17 : Int32) (v18 : Int64) (v20 : Int32), kw_L_built_812 Q n σ v1 v2 v6 v8 v10 v12 v14 v15 v17 v18 v20 → ∀ (cl : Nat), cl + (0) ≤ 0 → ∀ (H : Heap) (locs : List Loc), ka_P G σ H → va_S (ka_A G) s.heap H locs → ∀ ls : Array Slot, lv_has ls 37 [(0, .ref (ka_a G (22, 0, 0))), (1, .int v1), (2, .long v2), (6, .long v6), (8, .long v8), (10, .long v10), (12, .long v12), (14, .int v14), (15, .long v15), (17, .int v17), (18, .long v18), (20, .int v20)] → W p l e rm_L_built s m args below meth c H locs cl (6 * cl) (MQ below (va_Qi Q (ka_B G) (ka_A G)) args s 0 0 (ka_A G)) (F0 m 812 ls []) := fun σ v1 v2 v6 v8 v10 v12 v14 v15 v17 v18 v20 hq cl h9 => ih σ v1 v2 v6 v8 v10 v12 v14 v15 v17 v18 v20 hq cl (by omega)
    intro σ v1 v2 v6 v8 v10 v12 v14 v15 v17 v18 v20 hq cl hcl H locs hP hS ls hl
    rw [kw_L_built_812] at hq
    refine lv_iload hx hb dL_built_812 (lv_at hl 11 rfl) ?_
    refine lv_iload hx hb dL_built_814 (lv_at hl 9 rfl) ?_
    refine lv_icmp_ge (tgt := 1012) hx hb dL_built_816 (by decide) (fun hc => ?_) (fun hc => ?_)
    · have hq := hq.1 hc
      refine W.widen (k := (cl + 0)) (n := 6 * (cl + 0)) (by omega) (by omega) ?_
      exact kb_L_built_1012 hl0 hI C0 hK hT hN σ v1 v6 v8 v10 v12 v14 v15 v18 hq (cl + 0) (by omega) H locs hP hS ls (lv_sub hl [0, 1, 3, 4, 5, 6, 7, 8, 10] rfl)
    · have hq := hq.2 hc
      refine lv_iload hx hb dL_built_819 (lv_at hl 7 rfl) ?_
      refine lv_if_eq (tgt := 1012) hx hb dL_built_821 (by decide) (fun hc => ?_) (fun hc => ?_)
      · have hq := hq.1 hc
        refine W.widen (k := (cl + 0)) (n := 6 * (cl + 0)) (by omega) (by omega) ?_
        exact kb_L_built_1012 hl0 hI C0 hK hT hN σ v1 v6 v8 v10 v12 v14 v15 v18 hq (cl + 0) (by omega) H locs hP hS ls (lv_sub hl [0, 1, 3, 4, 5, 6, 7, 8, 10] rfl)
      · have hq := hq.2 hc
        refine lv_aload_n hx hb dL_built_824 rfl (lv_at hl 0 rfl) ?_
        refine lv_iload hx hb dL_built_825 (lv_at hl 11 rfl) ?_
        refine lv_iconst (v := 1) hx hb dL_built_827 (by decide) ?_
        refine kj_Wl (As := [.ref (ka_a G (22, 0, 0)), .int v20, .int (1 : Int32)]) (rest := []) C0 hK hT hN hP hS (fun _ h => h) hl (km0_L_row l hl0 hI hq) kd_L_row kq_687 ⟨rfl, rfl, Nat.le_of_ble_eq_true rfl, Nat.le_of_ble_eq_true rfl⟩ rfl (Nat.le_of_ble_eq_true rfl) dL_built_828 ⟨by show _ ≤ 0; omega, by show _ ≤ 0; omega⟩ (fun r43 σ44 H locs hq hP hkp hS => ?_)
        refine lv_lstore (lv' := [(21, .long r43), (0, .ref (ka_a G (22, 0, 0))), (1, .int v1), (2, .long v2), (6, .long v6), (8, .long v8), (10, .long v10), (12, .long v12), (14, .int v14), (15, .long v15), (17, .int v17), (18, .long v18), (20, .int v20)]) hx hb dL_built_831 hl (by decide) rfl (fun ls hl => ?_)
        refine lv_lload hx hb dL_built_833 (lv_at hl 11 rfl) ?_
        refine lv_aload_n hx hb dL_built_835 rfl (lv_at hl 1 rfl) ?_
        refine lv_iload hx hb dL_built_836 (lv_at hl 12 rfl) ?_
        refine lv_iconst (v := 0) hx hb dL_built_838 (by decide) ?_
        refine kj_Wl (As := [.ref (ka_a G (22, 0, 0)), .int v20, .int (0 : Int32)]) (rest := [.long v18]) C0 hK hT hN hP hS (fun _ h => h) hl (km0_L_row l hl0 hI hq) kd_L_row kq_687 ⟨rfl, rfl, Nat.le_of_ble_eq_true rfl, Nat.le_of_ble_eq_true rfl⟩ rfl (Nat.le_of_ble_eq_true rfl) dL_built_839 ⟨by show _ ≤ 0; omega, by show _ ≤ 0; omega⟩ (fun r45 σ46 H locs hq hP hkp hS => ?_)
        refine lv_lconst (v := 0) hx hb dL_built_842 (by decide) ?_
        refine kr_cne (tgt := 851) C0 dL_built_843 dL_built_844 (by decide) (fun hc => ?_) (fun hc => ?_)
        · have hq := hq.2 hc
          refine lv_lconst (v := 0) hx hb dL_built_851 (by decide) ?_
          refine W.widen (k := (cl + 0)) (n := 6 * (cl + 0)) (by omega) (by omega) ?_
          exact kb_L_built_852 (R812 := (0)) hl0 hI C0 hK hT hN ih9 σ46 v1 v2 v6 v8 v10 v12 v15 v17 v20 r43 v18 (0 : Int64) hq (cl + 0) (by omega) H locs hP hS ls (lv_sub hl [1, 2, 3, 4, 5, 6, 7, 9, 10, 12, 0] rfl)
        · have hq := hq.1 hc
          refine lv_lconst (v := 1) hx hb dL_built_847 (by decide) ?_
          refine lv_goto (tgt := 852) hx hb dL_built_848 (by decide) ?_
          refine W.widen (k := (cl + 0)) (n := 6 * (cl + 0)) (by omega) (by omega) ?_
          exact kb_L_built_852 (R812 := (0)) hl0 hI C0 hK hT hN ih9 σ46 v1 v2 v6 v8 v10 v12 v15 v17 v20 r43 v18 (1 : Int64) hq (cl + 0) (by omega) H locs hP hS ls (lv_sub hl [1, 2, 3, 4, 5, 6, 7, 9, 10, 12, 0] rfl)
def kw_L_built_796 (Q : Int32 → ka_S → Prop) (σ : ka_S) (v1 : Int32) (v2 : Int64) (v6 : Int64) (v8 : Int64) (v10 : Int64) (v12 : Int64) (v14 : Int32) (t0 : Int64) : Prop := kw0_L_about σ (5 : Int32) (fun r30 σ31 =>
  ∀ x32 : Int32, x32 = r30.toInt32 → 
  ∃ n33 : Nat, kw_L_built_812 Q n33 σ31 v1 v2 v6 v8 v10 v12 v14 t0 x32 (0 : Int64) (0 : Int32))
set_option maxHeartbeats 4000000 in
set_option maxRecDepth 100000 in
theorem kb_L_built_796 {p : Program} {l : Launch} {e : Env} {s : State} {m : MethodId} {below : List Frame} {meth : Method} {c : Code} {G : ka_G} {args : Array Value} (hl0 : l.stackTraces = false) (hI : ka_I G) (C0 : ka_C p s m args meth c cL_built 37 "GlossRowsLaw" (some .boolean)) (hK : ka_Kn G s) (hT : ka_T9 (ka_A G) s) (hN : kl_Nc s) {Q : Int32 → ka_S → Prop} : ∀ (σ : ka_S) (v1 : Int32) (v2 : Int64) (v6 : Int64) (v8 : Int64) (v10 : Int64) (v12 : Int64) (v14 : Int32) (t0 : Int64), kw_L_built_796 Q σ v1 v2 v6 v8 v10 v12 v14 t0 → ∀ (cl : Nat), cl + 0 ≤ 0 → ∀ (H : Heap) (locs : List Loc), ka_P G σ H → va_S (ka_A G) s.heap H locs → ∀ ls : Array Slot, lv_has ls 37 [(0, .ref (ka_a G (22, 0, 0))), (1, .int v1), (2, .long v2), (6, .long v6), (8, .long v8), (10, .long v10), (12, .long v12), (14, .int v14)] → W p l e rm_L_built s m args below meth c H locs cl (6 * cl) (MQ below (va_Qi Q (ka_B G) (ka_A G)) args s 0 0 (ka_A G)) (F0 m 796 ls [.long t0]) := by
  obtain ⟨hx, hb, -, hml, hown, hts, -⟩ := id C0
  intro σ v1 v2 v6 v8 v10 v12 v14 t0 hq cl hcl H locs hP hS ls hl
  unfold kw_L_built_796 at hq
  refine lv_lstore (lv' := [(15, .long t0), (0, .ref (ka_a G (22, 0, 0))), (1, .int v1), (2, .long v2), (6, .long v6), (8, .long v8), (10, .long v10), (12, .long v12), (14, .int v14)]) hx hb dL_built_796 hl (by decide) rfl (fun ls hl => ?_)
  refine lv_aload_n hx hb dL_built_798 rfl (lv_at hl 1 rfl) ?_
  refine lv_iconst (v := 5) hx hb dL_built_799 (by decide) ?_
  refine kj_Wl (As := [.ref (ka_a G (22, 0, 0)), .int (5 : Int32)]) (rest := []) C0 hK hT hN hP hS (fun _ h => h) hl (km0_L_about l hl0 hI hq) kd_L_about kq_478 ⟨rfl, rfl, Nat.le_of_ble_eq_true rfl, Nat.le_of_ble_eq_true rfl⟩ rfl (Nat.le_of_ble_eq_true rfl) dL_built_800 ⟨by show _ ≤ 0; omega, by show _ ≤ 0; omega⟩ (fun r30 σ31 H locs hq hP hkp hS => ?_)
  refine lv_l2i hx hb dL_built_803 rfl ?_
  refine lv_topi (fun x32 ex32 => ?_)
  have hq := hq x32 ex32
  refine lv_istore (lv' := [(17, .int x32), (15, .long t0), (0, .ref (ka_a G (22, 0, 0))), (1, .int v1), (2, .long v2), (6, .long v6), (8, .long v8), (10, .long v10), (12, .long v12), (14, .int v14)]) hx hb dL_built_804 hl (by decide) rfl (fun ls hl => ?_)
  refine lv_lconst (v := 0) hx hb dL_built_806 (by decide) ?_
  refine lv_lstore (lv' := [(18, .long (0 : Int64)), (17, .int x32), (15, .long t0), (0, .ref (ka_a G (22, 0, 0))), (1, .int v1), (2, .long v2), (6, .long v6), (8, .long v8), (10, .long v10), (12, .long v12), (14, .int v14)]) hx hb dL_built_807 hl (by decide) rfl (fun ls hl => ?_)
  refine lv_iconst (v := 0) hx hb dL_built_809 (by decide) ?_
  refine lv_istore (lv' := [(20, .int (0 : Int32)), (18, .long (0 : Int64)), (17, .int x32), (15, .long t0), (0, .ref (ka_a G (22, 0, 0))), (1, .int v1), (2, .long v2), (6, .long v6), (8, .long v8), (10, .long v10), (12, .long v12), (14, .int v14)]) hx hb dL_built_810 hl (by decide) rfl (fun ls hl => ?_)
  obtain ⟨n33, hq⟩ := hq
  refine W.widen (k := (cl + 0)) (n := 6 * (cl + 0)) (by omega) (by omega) ?_
  exact kb_L_built_812 hl0 hI C0 hK hT hN n33 σ31 v1 v2 v6 v8 v10 v12 v14 t0 x32 (0 : Int64) (0 : Int32) hq (cl + 0) (by omega) H locs hP hS ls (lv_sub hl [4, 5, 6, 7, 8, 9, 10, 11, 3, 2, 1, 0] rfl)
def kw_L_built_778 (Q : Int32 → ka_S → Prop) (σ : ka_S) (v1 : Int32) (v2 : Int64) (v6 : Int64) (v8 : Int64) (v10 : Int64) (v12 : Int64) (v14 : Int32) : Prop := (v1 = (0 : Int32) → kw_L_built_796 Q σ v1 v2 v6 v8 v10 v12 v14 (0 : Int64)) ∧
  (¬ v1 = (0 : Int32) → kw0_L_word σ (v1 - (1 : Int32)) (2 : Int32) (fun r23 σ24 =>
    kw_L_built_796 Q σ24 v1 v2 v6 v8 v10 v12 v14 (r23 + (1 : Int64))))
set_option maxHeartbeats 4000000 in
set_option maxRecDepth 100000 in
theorem kb_L_built_778 {p : Program} {l : Launch} {e : Env} {s : State} {m : MethodId} {below : List Frame} {meth : Method} {c : Code} {G : ka_G} {args : Array Value} (hl0 : l.stackTraces = false) (hI : ka_I G) (C0 : ka_C p s m args meth c cL_built 37 "GlossRowsLaw" (some .boolean)) (hK : ka_Kn G s) (hT : ka_T9 (ka_A G) s) (hN : kl_Nc s) {Q : Int32 → ka_S → Prop} : ∀ (σ : ka_S) (v1 : Int32) (v2 : Int64) (v6 : Int64) (v8 : Int64) (v10 : Int64) (v12 : Int64) (v14 : Int32), kw_L_built_778 Q σ v1 v2 v6 v8 v10 v12 v14 → ∀ (cl : Nat), cl + 0 ≤ 0 → ∀ (H : Heap) (locs : List Loc), ka_P G σ H → va_S (ka_A G) s.heap H locs → ∀ ls : Array Slot, lv_has ls 37 [(0, .ref (ka_a G (22, 0, 0))), (1, .int v1), (2, .long v2), (6, .long v6), (8, .long v8), (10, .long v10), (12, .long v12), (14, .int v14)] → W p l e rm_L_built s m args below meth c H locs cl (6 * cl) (MQ below (va_Qi Q (ka_B G) (ka_A G)) args s 0 0 (ka_A G)) (F0 m 778 ls []) := by
  obtain ⟨hx, hb, -, hml, hown, hts, -⟩ := id C0
  intro σ v1 v2 v6 v8 v10 v12 v14 hq cl hcl H locs hP hS ls hl
  unfold kw_L_built_778 at hq
  refine lv_iload_n hx hb dL_built_778 rfl (lv_at hl 1 rfl) ?_
  refine lv_if_ne (tgt := 786) hx hb dL_built_779 (by decide) (fun hc => ?_) (fun hc => ?_)
  · have hq := hq.2 hc
    refine lv_aload_n hx hb dL_built_786 rfl (lv_at hl 0 rfl) ?_
    refine lv_iload_n hx hb dL_built_787 rfl (lv_at hl 1 rfl) ?_
    refine lv_iconst (v := 1) hx hb dL_built_788 (by decide) ?_
    refine lv_isub hx hb dL_built_789 ?_
    refine lv_iconst (v := 2) hx hb dL_built_790 (by decide) ?_
    refine kj_Wl (As := [.ref (ka_a G (22, 0, 0)), .int (v1 - (1 : Int32)), .int (2 : Int32)]) (rest := []) C0 hK hT hN hP hS (fun _ h => h) hl (km0_L_word l hl0 hI hq) kd_L_word kq_563 ⟨rfl, rfl, Nat.le_of_ble_eq_true rfl, Nat.le_of_ble_eq_true rfl⟩ rfl (Nat.le_of_ble_eq_true rfl) dL_built_791 ⟨by show _ ≤ 0; omega, by show _ ≤ 0; omega⟩ (fun r23 σ24 H locs hq hP hkp hS => ?_)
    refine lv_lconst (v := 1) hx hb dL_built_794 (by decide) ?_
    refine lv_ladd hx hb dL_built_795 ?_
    refine W.widen (k := (cl + 0)) (n := 6 * (cl + 0)) (by omega) (by omega) ?_
    exact kb_L_built_796 hl0 hI C0 hK hT hN σ24 v1 v2 v6 v8 v10 v12 v14 (r23 + (1 : Int64)) hq (cl + 0) (by omega) H locs hP hS ls (lv_sub hl [0, 1, 2, 3, 4, 5, 6, 7] rfl)
  · have hq := hq.1 hc
    refine lv_lconst (v := 0) hx hb dL_built_782 (by decide) ?_
    refine lv_goto (tgt := 796) hx hb dL_built_783 (by decide) ?_
    refine W.widen (k := (cl + 0)) (n := 6 * (cl + 0)) (by omega) (by omega) ?_
    exact kb_L_built_796 hl0 hI C0 hK hT hN σ v1 v2 v6 v8 v10 v12 v14 (0 : Int64) hq (cl + 0) (by omega) H locs hP hS ls (lv_sub hl [0, 1, 2, 3, 4, 5, 6, 7] rfl)
def kw_L_built_676 (Q : Int32 → ka_S → Prop) : Nat → ka_S → Int32 → Int64 → Int64 → Int64 → Int64 → Int64 → Int32 → Int32 → Prop
  | 0, _, _, _, _, _, _, _, _, _ => False
  | n + 1, σ, v1, v2, v6, v8, v10, v12, v14, v15 => kw0_L_about σ (7 : Int32) (fun r16 σ17 =>
    (r16 ≤ v15.toInt64 → kw_L_built_778 Q σ17 v1 v2 v6 v8 v10 v12 v14) ∧
    (¬ r16 ≤ v15.toInt64 → (v14 = (0 : Int32) → kw_L_built_778 Q σ17 v1 v2 v6 v8 v10 v12 v14) ∧
      (¬ v14 = (0 : Int32) → ∃ n18 : Nat, kw_L_built_697 (kw_L_built_676 Q n) Q n18 σ17 v1 v2 v6 v8 v10 v12 v15 (0 : Int32))))
set_option maxHeartbeats 4000000 in
set_option maxRecDepth 100000 in
theorem kb_L_built_676 {p : Program} {l : Launch} {e : Env} {s : State} {m : MethodId} {below : List Frame} {meth : Method} {c : Code} {G : ka_G} {args : Array Value} (hl0 : l.stackTraces = false) (hI : ka_I G) (C0 : ka_C p s m args meth c cL_built 37 "GlossRowsLaw" (some .boolean)) (hK : ka_Kn G s) (hT : ka_T9 (ka_A G) s) (hN : kl_Nc s) {Q : Int32 → ka_S → Prop} : ∀ (n : Nat) (σ : ka_S) (v1 : Int32) (v2 : Int64) (v6 : Int64) (v8 : Int64) (v10 : Int64) (v12 : Int64) (v14 : Int32) (v15 : Int32), kw_L_built_676 Q n σ v1 v2 v6 v8 v10 v12 v14 v15 → ∀ (cl : Nat), cl + 0 ≤ 0 → ∀ (H : Heap) (locs : List Loc), ka_P G σ H → va_S (ka_A G) s.heap H locs → ∀ ls : Array Slot, lv_has ls 37 [(0, .ref (ka_a G (22, 0, 0))), (1, .int v1), (2, .long v2), (6, .long v6), (8, .long v8), (10, .long v10), (12, .long v12), (14, .int v14), (15, .int v15)] → W p l e rm_L_built s m args below meth c H locs cl (6 * cl) (MQ below (va_Qi Q (ka_B G) (ka_A G)) args s 0 0 (ka_A G)) (F0 m 676 ls []) := by
  obtain ⟨hx, hb, -, hml, hown, hts, -⟩ := id C0
  intro n
  induction n with
  | zero =>
    intro σ v1 v2 v6 v8 v10 v12 v14 v15 hq
    rw [kw_L_built_676] at hq
    exact hq.elim
  | succ n ih =>
    have ih9 : ∀ (σ : ka_S) (v1 : Int32) (v2 : Int64) (v6 : Int64) (v8 : Int64) (v10 : Int64) (v12 : Int64) (v14 : Int32) (v15 : Int32), kw_L_built_676 Q n σ v1 v2 v6 v8 v10 v12 v14 v15 → ∀ (cl : Nat), cl + (0) ≤ 0 → ∀ (H : Heap) (locs : List Loc), ka_P G σ H → va_S (ka_A G) s.heap H locs → ∀ ls : Array Slot, lv_has ls 37 [(0, .ref (ka_a G (22, 0, 0))), (1, .int v1), (2, .long v2), (6, .long v6), (8, .long v8), (10, .long v10), (12, .long v12), (14, .int v14), (15, .int v15)] → W p l e rm_L_built s m args below meth c H locs cl (6 * cl) (MQ below (va_Qi Q (ka_B G) (ka_A G)) args s 0 0 (ka_A G)) (F0 m 676 ls []) := fun σ v1 v2 v6 v8 v10 v12 v14 v15 hq cl h9 => ih σ v1 v2 v6 v8 v10 v12 v14 v15 hq cl (by omega)
    intro σ v1 v2 v6 v8 v10 v12 v14 v15 hq cl hcl H locs hP hS ls hl
    rw [kw_L_built_676] at hq
    refine lv_iload hx hb dL_built_676 (lv_at hl 8 rfl) ?_
    refine lv_i2l hx hb dL_built_678 rfl ?_
    refine lv_aload_n hx hb dL_built_679 rfl (lv_at hl 0 rfl) ?_
    refine lv_bipush (v := 7) hx hb dL_built_680 (by decide) ?_
    refine kj_Wl (As := [.ref (ka_a G (22, 0, 0)), .int (7 : Int32)]) (rest := [.long v15.toInt64]) C0 hK hT hN hP hS (fun _ h => h) hl (km0_L_about l hl0 hI hq) kd_L_about kq_478 ⟨rfl, rfl, Nat.le_of_ble_eq_true rfl, Nat.le_of_ble_eq_true rfl⟩ rfl (Nat.le_of_ble_eq_true rfl) dL_built_682 ⟨by show _ ≤ 0; omega, by show _ ≤ 0; omega⟩ (fun r16 σ17 H locs hq hP hkp hS => ?_)
    refine kr_cge (tgt := 778) C0 dL_built_685 dL_built_686 (by decide) (fun hc => ?_) (fun hc => ?_)
    · have hq := hq.1 hc
      refine W.widen (k := (cl + 0)) (n := 6 * (cl + 0)) (by omega) (by omega) ?_
      exact kb_L_built_778 hl0 hI C0 hK hT hN σ17 v1 v2 v6 v8 v10 v12 v14 hq (cl + 0) (by omega) H locs hP hS ls (lv_sub hl [0, 1, 2, 3, 4, 5, 6, 7] rfl)
    · have hq := hq.2 hc
      refine lv_iload hx hb dL_built_689 (lv_at hl 7 rfl) ?_
      refine lv_if_eq (tgt := 778) hx hb dL_built_691 (by decide) (fun hc => ?_) (fun hc => ?_)
      · have hq := hq.1 hc
        refine W.widen (k := (cl + 0)) (n := 6 * (cl + 0)) (by omega) (by omega) ?_
        exact kb_L_built_778 hl0 hI C0 hK hT hN σ17 v1 v2 v6 v8 v10 v12 v14 hq (cl + 0) (by omega) H locs hP hS ls (lv_sub hl [0, 1, 2, 3, 4, 5, 6, 7] rfl)
      · have hq := hq.2 hc
        refine lv_iconst (v := 0) hx hb dL_built_694 (by decide) ?_
        refine lv_istore (lv' := [(16, .int (0 : Int32)), (0, .ref (ka_a G (22, 0, 0))), (1, .int v1), (2, .long v2), (6, .long v6), (8, .long v8), (10, .long v10), (12, .long v12), (14, .int v14), (15, .int v15)]) hx hb dL_built_695 hl (by decide) rfl (fun ls hl => ?_)
        obtain ⟨n18, hq⟩ := hq
        refine W.widen (k := (cl + 0)) (n := 6 * (cl + 0)) (by omega) (by omega) ?_
        exact kb_L_built_697 (R676 := (0)) hl0 hI C0 hK hT hN ih9 n18 σ17 v1 v2 v6 v8 v10 v12 v15 (0 : Int32) hq (cl + 0) (by omega) H locs hP hS ls (lv_sub hl [1, 2, 3, 4, 5, 6, 7, 9, 0] rfl)
def kw_L_built_38 (Q : Int32 → ka_S → Prop) : Nat → ka_S → Int32 → Int64 → Int64 → Int64 → Int64 → Int64 → Int64 → Int32 → Int32 → Prop
  | 0, _, _, _, _, _, _, _, _, _, _ => False
  | n + 1, σ, v1, v2, v4, v6, v8, v10, v12, v14, v15 => (v1 ≤ v15 → ∃ n8 : Nat, kw_L_built_676 Q n8 σ v1 v2 v6 v8 v10 v12 v14 (1 : Int32)) ∧
    (¬ v1 ≤ v15 → (v14 = (0 : Int32) → ∃ n9 : Nat, kw_L_built_676 Q n9 σ v1 v2 v6 v8 v10 v12 v14 (1 : Int32)) ∧
      (¬ v14 = (0 : Int32) → kw0_L_word σ v15 (1 : Int32) (fun r10 σ11 =>
        kw0_L_word σ11 v15 (3 : Int32) (fun r12 σ13 =>
        (v15 = (0 : Int32) → kw_L_built_86 (kw_L_built_38 Q n) Q σ13 v1 v2 v4 v6 v8 v10 v12 v15 r10 r12) ∧
        (¬ v15 = (0 : Int32) → kw0_L_word σ13 (v15 - (1 : Int32)) (5 : Int32) (fun r14 σ15 =>
          (r14 = (1 : Int64) → kw_L_built_86 (kw_L_built_38 Q n) Q σ15 v1 v2 v4 v6 v8 v10 v12 v15 r10 r12) ∧
          (¬ r14 = (1 : Int64) → kw_L_built_91 (kw_L_built_38 Q n) Q σ15 v1 v2 v4 v6 v8 v10 v12 v15 r10 r12 (0 : Int32))))))))
set_option maxHeartbeats 4000000 in
set_option maxRecDepth 100000 in
theorem kb_L_built_38 {p : Program} {l : Launch} {e : Env} {s : State} {m : MethodId} {below : List Frame} {meth : Method} {c : Code} {G : ka_G} {args : Array Value} (hl0 : l.stackTraces = false) (hI : ka_I G) (C0 : ka_C p s m args meth c cL_built 37 "GlossRowsLaw" (some .boolean)) (hK : ka_Kn G s) (hT : ka_T9 (ka_A G) s) (hN : kl_Nc s) {Q : Int32 → ka_S → Prop} : ∀ (n : Nat) (σ : ka_S) (v1 : Int32) (v2 : Int64) (v4 : Int64) (v6 : Int64) (v8 : Int64) (v10 : Int64) (v12 : Int64) (v14 : Int32) (v15 : Int32), kw_L_built_38 Q n σ v1 v2 v4 v6 v8 v10 v12 v14 v15 → ∀ (cl : Nat), cl + 0 ≤ 0 → ∀ (H : Heap) (locs : List Loc), ka_P G σ H → va_S (ka_A G) s.heap H locs → ∀ ls : Array Slot, lv_has ls 37 [(0, .ref (ka_a G (22, 0, 0))), (1, .int v1), (2, .long v2), (4, .long v4), (6, .long v6), (8, .long v8), (10, .long v10), (12, .long v12), (14, .int v14), (15, .int v15)] → W p l e rm_L_built s m args below meth c H locs cl (6 * cl) (MQ below (va_Qi Q (ka_B G) (ka_A G)) args s 0 0 (ka_A G)) (F0 m 38 ls []) := by
  obtain ⟨hx, hb, -, hml, hown, hts, -⟩ := id C0
  intro n
  induction n with
  | zero =>
    intro σ v1 v2 v4 v6 v8 v10 v12 v14 v15 hq
    rw [kw_L_built_38] at hq
    exact hq.elim
  | succ n ih =>
    have ih9 : ∀ (σ : ka_S) (v1 : Int32) (v2 : Int64) (v4 : Int64) (v6 : Int64) (v8 : Int64) (v10 : Int64) (v12 : Int64) (v14 : Int32) (v15 : Int32), kw_L_built_38 Q n σ v1 v2 v4 v6 v8 v10 v12 v14 v15 → ∀ (cl : Nat), cl + (0) ≤ 0 → ∀ (H : Heap) (locs : List Loc), ka_P G σ H → va_S (ka_A G) s.heap H locs → ∀ ls : Array Slot, lv_has ls 37 [(0, .ref (ka_a G (22, 0, 0))), (1, .int v1), (2, .long v2), (4, .long v4), (6, .long v6), (8, .long v8), (10, .long v10), (12, .long v12), (14, .int v14), (15, .int v15)] → W p l e rm_L_built s m args below meth c H locs cl (6 * cl) (MQ below (va_Qi Q (ka_B G) (ka_A G)) args s 0 0 (ka_A G)) (F0 m 38 ls []) := fun σ v1 v2 v4 v6 v8 v10 v12 v14 v15 hq cl h9 => ih σ v1 v2 v4 v6 v8 v10 v12 v14 v15 hq cl (by omega)
    intro σ v1 v2 v4 v6 v8 v10 v12 v14 v15 hq cl hcl H locs hP hS ls hl
    rw [kw_L_built_38] at hq
    refine lv_iload hx hb dL_built_38 (lv_at hl 9 rfl) ?_
    refine lv_iload_n hx hb dL_built_40 rfl (lv_at hl 1 rfl) ?_
    refine lv_icmp_ge (tgt := 673) hx hb dL_built_41 (by decide) (fun hc => ?_) (fun hc => ?_)
    · have hq := hq.1 hc
      refine lv_iconst (v := 1) hx hb dL_built_673 (by decide) ?_
      refine lv_istore (lv' := [(15, .int (1 : Int32)), (0, .ref (ka_a G (22, 0, 0))), (1, .int v1), (2, .long v2), (4, .long v4), (6, .long v6), (8, .long v8), (10, .long v10), (12, .long v12), (14, .int v14)]) hx hb dL_built_674 hl (by decide) rfl (fun ls hl => ?_)
      obtain ⟨n8, hq⟩ := hq
      refine W.widen (k := (cl + 0)) (n := 6 * (cl + 0)) (by omega) (by omega) ?_
      exact kb_L_built_676 hl0 hI C0 hK hT hN n8 σ v1 v2 v6 v8 v10 v12 v14 (1 : Int32) hq (cl + 0) (by omega) H locs hP hS ls (lv_sub hl [1, 2, 3, 5, 6, 7, 8, 9, 0] rfl)
    · have hq := hq.2 hc
      refine lv_iload hx hb dL_built_44 (lv_at hl 8 rfl) ?_
      refine lv_if_eq (tgt := 673) hx hb dL_built_46 (by decide) (fun hc => ?_) (fun hc => ?_)
      · have hq := hq.1 hc
        refine lv_iconst (v := 1) hx hb dL_built_673 (by decide) ?_
        refine lv_istore (lv' := [(15, .int (1 : Int32)), (0, .ref (ka_a G (22, 0, 0))), (1, .int v1), (2, .long v2), (4, .long v4), (6, .long v6), (8, .long v8), (10, .long v10), (12, .long v12), (14, .int v14)]) hx hb dL_built_674 hl (by decide) rfl (fun ls hl => ?_)
        obtain ⟨n9, hq⟩ := hq
        refine W.widen (k := (cl + 0)) (n := 6 * (cl + 0)) (by omega) (by omega) ?_
        exact kb_L_built_676 hl0 hI C0 hK hT hN n9 σ v1 v2 v6 v8 v10 v12 v14 (1 : Int32) hq (cl + 0) (by omega) H locs hP hS ls (lv_sub hl [1, 2, 3, 5, 6, 7, 8, 9, 0] rfl)
      · have hq := hq.2 hc
        refine lv_aload_n hx hb dL_built_49 rfl (lv_at hl 0 rfl) ?_
        refine lv_iload hx hb dL_built_50 (lv_at hl 9 rfl) ?_
        refine lv_iconst (v := 1) hx hb dL_built_52 (by decide) ?_
        refine kj_Wl (As := [.ref (ka_a G (22, 0, 0)), .int v15, .int (1 : Int32)]) (rest := []) C0 hK hT hN hP hS (fun _ h => h) hl (km0_L_word l hl0 hI hq) kd_L_word kq_563 ⟨rfl, rfl, Nat.le_of_ble_eq_true rfl, Nat.le_of_ble_eq_true rfl⟩ rfl (Nat.le_of_ble_eq_true rfl) dL_built_53 ⟨by show _ ≤ 0; omega, by show _ ≤ 0; omega⟩ (fun r10 σ11 H locs hq hP hkp hS => ?_)
        refine lv_lstore (lv' := [(16, .long r10), (0, .ref (ka_a G (22, 0, 0))), (1, .int v1), (2, .long v2), (4, .long v4), (6, .long v6), (8, .long v8), (10, .long v10), (12, .long v12), (14, .int v14), (15, .int v15)]) hx hb dL_built_56 hl (by decide) rfl (fun ls hl => ?_)
        refine lv_aload_n hx hb dL_built_58 rfl (lv_at hl 1 rfl) ?_
        refine lv_iload hx hb dL_built_59 (lv_at hl 10 rfl) ?_
        refine lv_iconst (v := 3) hx hb dL_built_61 (by decide) ?_
        refine kj_Wl (As := [.ref (ka_a G (22, 0, 0)), .int v15, .int (3 : Int32)]) (rest := []) C0 hK hT hN hP hS (fun _ h => h) hl (km0_L_word l hl0 hI hq) kd_L_word kq_563 ⟨rfl, rfl, Nat.le_of_ble_eq_true rfl, Nat.le_of_ble_eq_true rfl⟩ rfl (Nat.le_of_ble_eq_true rfl) dL_built_62 ⟨by show _ ≤ 0; omega, by show _ ≤ 0; omega⟩ (fun r12 σ13 H locs hq hP hkp hS => ?_)
        refine lv_lstore (lv' := [(18, .long r12), (16, .long r10), (0, .ref (ka_a G (22, 0, 0))), (1, .int v1), (2, .long v2), (4, .long v4), (6, .long v6), (8, .long v8), (10, .long v10), (12, .long v12), (14, .int v14), (15, .int v15)]) hx hb dL_built_65 hl (by decide) rfl (fun ls hl => ?_)
        refine lv_iload hx hb dL_built_67 (lv_at hl 11 rfl) ?_
        refine lv_if_eq (tgt := 86) hx hb dL_built_69 (by decide) (fun hc => ?_) (fun hc => ?_)
        · have hq := hq.1 hc
          refine W.widen (k := (cl + 0)) (n := 6 * (cl + 0)) (by omega) (by omega) ?_
          exact kb_L_built_86 (R38 := (0)) hl0 hI C0 hK hT hN ih9 σ13 v1 v2 v4 v6 v8 v10 v12 v15 r10 r12 hq (cl + 0) (by omega) H locs hP hS ls (lv_sub hl [2, 3, 4, 5, 6, 7, 8, 9, 11, 1, 0] rfl)
        · have hq := hq.2 hc
          refine lv_aload_n hx hb dL_built_72 rfl (lv_at hl 2 rfl) ?_
          refine lv_iload hx hb dL_built_73 (lv_at hl 11 rfl) ?_
          refine lv_iconst (v := 1) hx hb dL_built_75 (by decide) ?_
          refine lv_isub hx hb dL_built_76 ?_
          refine lv_iconst (v := 5) hx hb dL_built_77 (by decide) ?_
          refine kj_Wl (As := [.ref (ka_a G (22, 0, 0)), .int (v15 - (1 : Int32)), .int (5 : Int32)]) (rest := []) C0 hK hT hN hP hS (fun _ h => h) hl (km0_L_word l hl0 hI hq) kd_L_word kq_563 ⟨rfl, rfl, Nat.le_of_ble_eq_true rfl, Nat.le_of_ble_eq_true rfl⟩ rfl (Nat.le_of_ble_eq_true rfl) dL_built_78 ⟨by show _ ≤ 0; omega, by show _ ≤ 0; omega⟩ (fun r14 σ15 H locs hq hP hkp hS => ?_)
          refine lv_lconst (v := 1) hx hb dL_built_81 (by decide) ?_
          refine kr_cne (tgt := 90) C0 dL_built_82 dL_built_83 (by decide) (fun hc => ?_) (fun hc => ?_)
          · have hq := hq.2 hc
            refine lv_iconst (v := 0) hx hb dL_built_90 (by decide) ?_
            refine W.widen (k := (cl + 0)) (n := 6 * (cl + 0)) (by omega) (by omega) ?_
            exact kb_L_built_91 (R38 := (0)) hl0 hI C0 hK hT hN ih9 σ15 v1 v2 v4 v6 v8 v10 v12 v15 r10 r12 (0 : Int32) hq (cl + 0) (by omega) H locs hP hS ls (lv_sub hl [2, 3, 4, 5, 6, 7, 8, 9, 11, 1, 0] rfl)
          · have hq := hq.1 hc
            refine W.widen (k := (cl + 0)) (n := 6 * (cl + 0)) (by omega) (by omega) ?_
            exact kb_L_built_86 (R38 := (0)) hl0 hI C0 hK hT hN ih9 σ15 v1 v2 v4 v6 v8 v10 v12 v15 r10 r12 hq (cl + 0) (by omega) H locs hP hS ls (lv_sub hl [2, 3, 4, 5, 6, 7, 8, 9, 11, 1, 0] rfl)
def kw_L_built (σ : ka_S) (Q : Int32 → ka_S → Prop) : Prop := kw_L_words σ (fun r1 σ2 =>
  kw0_L_about σ2 (9 : Int32) (fun r3 σ4 =>
  kw0_L_about σ4 (10 : Int32) (fun r5 σ6 =>
  ∃ n7 : Nat, kw_L_built_38 Q n7 σ6 r1 r3 r5 (0 : Int64) (0 : Int64) (0 : Int64) (0 : Int64) (1 : Int32) (0 : Int32))))
set_option maxHeartbeats 4000000 in
set_option maxRecDepth 100000 in
theorem km_L_built (l : Launch) (hl0 : l.stackTraces = false) {G : ka_G} (hI : ka_I G) {σ : ka_S} {Q : Int32 → ka_S → Prop} (hq : kw_L_built σ Q) : kd_i l yL_built (kw_ yL_built cL_built 37 (some .boolean)) rm_L_built 0 0 G [.ref (ka_a G (22, 0, 0))] σ Q := by
  refine kj_of "GlossRowsLaw" rfl (by decide) (Nat.le_of_ble_eq_true rfl) ?_
  intro p e s m below meth c C0 hK hT hN H locs hP hS ls hl
  obtain ⟨hx, hb, -, hml, hown, hts, -⟩ := id C0
  have hl : lv_has ls 37 [(0, .ref (ka_a G (22, 0, 0)))] := hl
  unfold kw_L_built at hq
  refine lv_aload_n hx hb dL_built_0 rfl (lv_at hl 0 rfl) ?_
  refine kj_Si (As := [.ref (ka_a G (22, 0, 0))]) (rest := []) C0 hK hT hN hP hS (fun _ h => h) hl (km_L_words l hl0 hI hq) kd_L_words kq_560 ⟨rfl, rfl, Nat.le_of_ble_eq_true rfl, Nat.le_of_ble_eq_true rfl⟩ rfl (Nat.le_of_ble_eq_true rfl) dL_built_1 ⟨by show _ ≤ 0; omega, by show _ ≤ 0; omega⟩ (fun r1 σ2 H locs hq hP hkp hS => ?_)
  refine lv_istore_n (lv' := [(1, .int r1), (0, .ref (ka_a G (22, 0, 0)))]) hx hb dL_built_4 rfl hl (by decide) rfl (fun ls hl => ?_)
  refine lv_aload_n hx hb dL_built_5 rfl (lv_at hl 1 rfl) ?_
  refine lv_bipush (v := 9) hx hb dL_built_6 (by decide) ?_
  refine kj_Wl (As := [.ref (ka_a G (22, 0, 0)), .int (9 : Int32)]) (rest := []) C0 hK hT hN hP hS (fun _ h => h) hl (km0_L_about l hl0 hI hq) kd_L_about kq_478 ⟨rfl, rfl, Nat.le_of_ble_eq_true rfl, Nat.le_of_ble_eq_true rfl⟩ rfl (Nat.le_of_ble_eq_true rfl) dL_built_8 ⟨by show _ ≤ 0; omega, by show _ ≤ 0; omega⟩ (fun r3 σ4 H locs hq hP hkp hS => ?_)
  refine lv_lstore_n (lv' := [(2, .long r3), (1, .int r1), (0, .ref (ka_a G (22, 0, 0)))]) hx hb dL_built_11 rfl hl (by decide) rfl (fun ls hl => ?_)
  refine lv_aload_n hx hb dL_built_12 rfl (lv_at hl 2 rfl) ?_
  refine lv_bipush (v := 10) hx hb dL_built_13 (by decide) ?_
  refine kj_Wl (As := [.ref (ka_a G (22, 0, 0)), .int (10 : Int32)]) (rest := []) C0 hK hT hN hP hS (fun _ h => h) hl (km0_L_about l hl0 hI hq) kd_L_about kq_478 ⟨rfl, rfl, Nat.le_of_ble_eq_true rfl, Nat.le_of_ble_eq_true rfl⟩ rfl (Nat.le_of_ble_eq_true rfl) dL_built_15 ⟨by show _ ≤ 0; omega, by show _ ≤ 0; omega⟩ (fun r5 σ6 H locs hq hP hkp hS => ?_)
  refine lv_lstore (lv' := [(4, .long r5), (2, .long r3), (1, .int r1), (0, .ref (ka_a G (22, 0, 0)))]) hx hb dL_built_18 hl (by decide) rfl (fun ls hl => ?_)
  refine lv_lconst (v := 0) hx hb dL_built_20 (by decide) ?_
  refine lv_lstore (lv' := [(6, .long (0 : Int64)), (4, .long r5), (2, .long r3), (1, .int r1), (0, .ref (ka_a G (22, 0, 0)))]) hx hb dL_built_21 hl (by decide) rfl (fun ls hl => ?_)
  refine lv_lconst (v := 0) hx hb dL_built_23 (by decide) ?_
  refine lv_lstore (lv' := [(8, .long (0 : Int64)), (6, .long (0 : Int64)), (4, .long r5), (2, .long r3), (1, .int r1), (0, .ref (ka_a G (22, 0, 0)))]) hx hb dL_built_24 hl (by decide) rfl (fun ls hl => ?_)
  refine lv_lconst (v := 0) hx hb dL_built_26 (by decide) ?_
  refine lv_lstore (lv' := [(10, .long (0 : Int64)), (8, .long (0 : Int64)), (6, .long (0 : Int64)), (4, .long r5), (2, .long r3), (1, .int r1), (0, .ref (ka_a G (22, 0, 0)))]) hx hb dL_built_27 hl (by decide) rfl (fun ls hl => ?_)
  refine lv_lconst (v := 0) hx hb dL_built_29 (by decide) ?_
  refine lv_lstore (lv' := [(12, .long (0 : Int64)), (10, .long (0 : Int64)), (8, .long (0 : Int64)), (6, .long (0 : Int64)), (4, .long r5), (2, .long r3), (1, .int r1), (0, .ref (ka_a G (22, 0, 0)))]) hx hb dL_built_30 hl (by decide) rfl (fun ls hl => ?_)
  refine lv_iconst (v := 1) hx hb dL_built_32 (by decide) ?_
  refine lv_istore (lv' := [(14, .int (1 : Int32)), (12, .long (0 : Int64)), (10, .long (0 : Int64)), (8, .long (0 : Int64)), (6, .long (0 : Int64)), (4, .long r5), (2, .long r3), (1, .int r1), (0, .ref (ka_a G (22, 0, 0)))]) hx hb dL_built_33 hl (by decide) rfl (fun ls hl => ?_)
  refine lv_iconst (v := 0) hx hb dL_built_35 (by decide) ?_
  refine lv_istore (lv' := [(15, .int (0 : Int32)), (14, .int (1 : Int32)), (12, .long (0 : Int64)), (10, .long (0 : Int64)), (8, .long (0 : Int64)), (6, .long (0 : Int64)), (4, .long r5), (2, .long r3), (1, .int r1), (0, .ref (ka_a G (22, 0, 0)))]) hx hb dL_built_36 hl (by decide) rfl (fun ls hl => ?_)
  obtain ⟨n7, hq⟩ := hq
  refine W.widen (k := 0) (n := 6 * 0) (by omega) (by omega) ?_
  exact kb_L_built_38 hl0 hI C0 hK hT hN n7 σ6 r1 r3 r5 (0 : Int64) (0 : Int64) (0 : Int64) (0 : Int64) (1 : Int32) (0 : Int32) hq 0 (by omega) H locs hP hS ls (lv_sub hl [9, 8, 7, 6, 5, 4, 3, 2, 1, 0] rfl)
