/-! law: errors(LGlossRows;)Z -/
def rm_L_errors : Room := { frames := 10, cells := 493, slots := 2958, locals := 224 }
def kw_L_errors_507 (K385 : ka_S → Int64 → Int32 → Int32 → Int32 → Int32 → Int32 → Prop) (Q : Int32 → ka_S → Prop) : Nat → ka_S → Int64 → Int32 → Int32 → Int32 → Int32 → Int32 → Int32 → Int32 → Prop
  | 0, _, _, _, _, _, _, _, _, _ => False
  | n + 1, σ, v1, v3, v4, v5, v6, v7, v8, v9 => (v8 ≤ v9 → ∀ x73 : Int32, x73 = v7 + (1 : Int32) →
      K385 σ v1 v3 v4 v5 v6 x73) ∧
    (¬ v8 ≤ v9 → (v6 = (0 : Int32) → ∀ x74 : Int32, x74 = v7 + (1 : Int32) →
        K385 σ v1 v3 v4 v5 v6 x74) ∧
      (¬ v6 = (0 : Int32) → kw_L_part σ v7 v9 (1 : Int32) (fun r75 σ76 =>
        ((0 : Int64) < r75 → ∀ x77 : Int32, x77 = v9 + (1 : Int32) →
          (kw_L_errors_507 K385 Q n) σ76 v1 v3 v4 v5 (1 : Int32) v7 v8 x77) ∧
        (¬ (0 : Int64) < r75 → kw_L_learn σ76 v7 v9 (fun r78 σ79 =>
          (r78 = (-9000000000000000003 : Int64) → ∀ x81 : Int32, x81 = v9 + (1 : Int32) →
            (kw_L_errors_507 K385 Q n) σ79 v1 v3 v4 v5 (1 : Int32) v7 v8 x81) ∧
          (¬ r78 = (-9000000000000000003 : Int64) → ∀ x80 : Int32, x80 = v9 + (1 : Int32) →
            (kw_L_errors_507 K385 Q n) σ79 v1 v3 v4 v5 (0 : Int32) v7 v8 x80))))))
set_option maxHeartbeats 4000000 in
set_option maxRecDepth 100000 in
theorem kb_L_errors_507 {p : Program} {l : Launch} {e : Env} {s : State} {m : MethodId} {below : List Frame} {meth : Method} {c : Code} {G : ka_G} {args : Array Value} (hl0 : l.stackTraces = false) (hI : ka_I G) (C0 : ka_C p s m args meth c cL_errors 10 "GlossRowsLaw" (some .boolean)) (hK : ka_Kn G s) (hT : ka_T9 (ka_A G) s) (hN : kl_Nc s) {Q : Int32 → ka_S → Prop} {K385 : ka_S → Int64 → Int32 → Int32 → Int32 → Int32 → Int32 → Prop} {R385 : Nat} (hk385 : ∀ (σ : ka_S) (v1 : Int64) (v3 : Int32) (v4 : Int32) (v5 : Int32) (v6 : Int32) (v7 : Int32), K385 σ v1 v3 v4 v5 v6 v7 → ∀ (cl : Nat), cl + R385 ≤ 493 → ∀ (H : Heap) (locs : List Loc), ka_P G σ H → va_S (ka_A G) s.heap H locs → ∀ ls : Array Slot, lv_has ls 10 [(0, .ref (ka_a G (22, 0, 0))), (1, .long v1), (3, .int v3), (4, .int v4), (5, .int v5), (6, .int v6), (7, .int v7)] → W p l e rm_L_errors s m args below meth c H locs cl (6 * cl) (MQ below (va_Qi Q (ka_B G) (ka_A G)) args s 493 2958 (ka_A G)) (F0 m 385 ls [])) : ∀ (n : Nat) (σ : ka_S) (v1 : Int64) (v3 : Int32) (v4 : Int32) (v5 : Int32) (v6 : Int32) (v7 : Int32) (v8 : Int32) (v9 : Int32), kw_L_errors_507 K385 Q n σ v1 v3 v4 v5 v6 v7 v8 v9 → ∀ (cl : Nat), cl + 0 + n * 4 + R385 ≤ 493 → ∀ (H : Heap) (locs : List Loc), ka_P G σ H → va_S (ka_A G) s.heap H locs → ∀ ls : Array Slot, lv_has ls 10 [(0, .ref (ka_a G (22, 0, 0))), (1, .long v1), (3, .int v3), (4, .int v4), (5, .int v5), (6, .int v6), (7, .int v7), (8, .int v8), (9, .int v9)] → W p l e rm_L_errors s m args below meth c H locs cl (6 * cl) (MQ below (va_Qi Q (ka_B G) (ka_A G)) args s 493 2958 (ka_A G)) (F0 m 507 ls []) := by
  obtain ⟨hx, hb, -, hml, hown, hts, -⟩ := id C0
  intro n
  induction n with
  | zero =>
    intro σ v1 v3 v4 v5 v6 v7 v8 v9 hq
    rw [kw_L_errors_507] at hq
    exact hq.elim
  | succ n ih =>
    have ih9 : ∀ (σ : ka_S) (v1 : Int64) (v3 : Int32) (v4 : Int32) (v5 : Int32) (v6 : Int32) (v7 : Int32) (v8 : Int32) (v9 : Int32), kw_L_errors_507 K385 Q n σ v1 v3 v4 v5 v6 v7 v8 v9 → ∀ (cl : Nat), cl + (0 + n * 4 + R385) ≤ 493 → ∀ (H : Heap) (locs : List Loc), ka_P G σ H → va_S (ka_A G) s.heap H locs → ∀ ls : Array Slot, lv_has ls 10 [(0, .ref (ka_a G (22, 0, 0))), (1, .long v1), (3, .int v3), (4, .int v4), (5, .int v5), (6, .int v6), (7, .int v7), (8, .int v8), (9, .int v9)] → W p l e rm_L_errors s m args below meth c H locs cl (6 * cl) (MQ below (va_Qi Q (ka_B G) (ka_A G)) args s 493 2958 (ka_A G)) (F0 m 507 ls []) := fun σ v1 v3 v4 v5 v6 v7 v8 v9 hq cl h9 => ih σ v1 v3 v4 v5 v6 v7 v8 v9 hq cl (by omega)
    intro σ v1 v3 v4 v5 v6 v7 v8 v9 hq cl hcl H locs hP hS ls hl
    rw [kw_L_errors_507] at hq
    refine lv_iload hx hb dL_errors_507 (lv_at hl 8 rfl) ?_
    refine lv_iload hx hb dL_errors_509 (lv_at hl 7 rfl) ?_
    refine lv_icmp_ge (tgt := 561) hx hb dL_errors_511 (by decide) (fun hc => ?_) (fun hc => ?_)
    · have hq := hq.1 hc
      obtain ⟨x73, ex73⟩ : ∃ y : Int32, y = v7 + (1 : Int32) := ⟨_, rfl⟩
      have hq := hq x73 ex73
      refine lv_iinc (v := x73) (lv' := [(7, .int x73), (0, .ref (ka_a G (22, 0, 0))), (1, .long v1), (3, .int v3), (4, .int v4), (5, .int v5), (6, .int v6), (8, .int v8), (9, .int v9)]) hx hb dL_errors_561 hl (k := 6) rfl (by rw [ex73]; rfl) (by decide) rfl (fun ls hl => ?_)
      refine lv_goto (tgt := 385) hx hb dL_errors_564 (by decide) ?_
      refine W.widen (k := (cl + 0)) (n := 6 * (cl + 0)) (by omega) (by omega) ?_
      exact hk385 σ v1 v3 v4 v5 v6 x73 hq (cl + 0) (by omega) H locs hP hS ls (lv_sub hl [1, 2, 3, 4, 5, 6, 0] rfl)
    · have hq := hq.2 hc
      refine lv_iload hx hb dL_errors_514 (lv_at hl 5 rfl) ?_
      refine lv_if_eq (tgt := 561) hx hb dL_errors_516 (by decide) (fun hc => ?_) (fun hc => ?_)
      · have hq := hq.1 hc
        obtain ⟨x74, ex74⟩ : ∃ y : Int32, y = v7 + (1 : Int32) := ⟨_, rfl⟩
        have hq := hq x74 ex74
        refine lv_iinc (v := x74) (lv' := [(7, .int x74), (0, .ref (ka_a G (22, 0, 0))), (1, .long v1), (3, .int v3), (4, .int v4), (5, .int v5), (6, .int v6), (8, .int v8), (9, .int v9)]) hx hb dL_errors_561 hl (k := 6) rfl (by rw [ex74]; rfl) (by decide) rfl (fun ls hl => ?_)
        refine lv_goto (tgt := 385) hx hb dL_errors_564 (by decide) ?_
        refine W.widen (k := (cl + 0)) (n := 6 * (cl + 0)) (by omega) (by omega) ?_
        exact hk385 σ v1 v3 v4 v5 v6 x74 hq (cl + 0) (by omega) H locs hP hS ls (lv_sub hl [1, 2, 3, 4, 5, 6, 0] rfl)
      · have hq := hq.2 hc
        refine lv_aload_n hx hb dL_errors_519 rfl (lv_at hl 0 rfl) ?_
        refine lv_iload hx hb dL_errors_520 (lv_at hl 6 rfl) ?_
        refine lv_iload hx hb dL_errors_522 (lv_at hl 8 rfl) ?_
        refine lv_iconst (v := 1) hx hb dL_errors_524 (by decide) ?_
        refine kj_Wl (As := [.ref (ka_a G (22, 0, 0)), .int v7, .int v9, .int (1 : Int32)]) (rest := []) C0 hK hT hN hP hS (fun _ h => h) hl (km_L_part l hl0 hI hq) kd_L_part kq_609 ⟨rfl, rfl, Nat.le_of_ble_eq_true rfl, Nat.le_of_ble_eq_true rfl⟩ rfl (Nat.le_of_ble_eq_true rfl) dL_errors_525 ⟨by show _ ≤ 493; omega, by show _ ≤ 2958; omega⟩ (fun r75 σ76 H locs hq hP hkp hS => ?_)
        refine lv_lconst (v := 0) hx hb dL_errors_528 (by decide) ?_
        refine kr_cgt (tgt := 548) C0 dL_errors_529 dL_errors_530 (by decide) (fun hc => ?_) (fun hc => ?_)
        · have hq := hq.1 hc
          refine lv_iconst (v := 1) hx hb dL_errors_548 (by decide) ?_
          refine lv_goto (tgt := 553) hx hb dL_errors_549 (by decide) ?_
          refine lv_istore (lv' := [(6, .int (1 : Int32)), (0, .ref (ka_a G (22, 0, 0))), (1, .long v1), (3, .int v3), (4, .int v4), (5, .int v5), (7, .int v7), (8, .int v8), (9, .int v9)]) hx hb dL_errors_553 hl (by decide) rfl (fun ls hl => ?_)
          obtain ⟨x77, ex77⟩ : ∃ y : Int32, y = v9 + (1 : Int32) := ⟨_, rfl⟩
          have hq := hq x77 ex77
          refine lv_iinc (v := x77) (lv' := [(9, .int x77), (6, .int (1 : Int32)), (0, .ref (ka_a G (22, 0, 0))), (1, .long v1), (3, .int v3), (4, .int v4), (5, .int v5), (7, .int v7), (8, .int v8)]) hx hb dL_errors_555 hl (k := 8) rfl (by rw [ex77]; rfl) (by decide) rfl (fun ls hl => ?_)
          refine lv_goto (tgt := 507) hx hb dL_errors_558 (by decide) ?_
          refine W.widen (k := (cl + 2)) (n := 6 * (cl + 2)) (by omega) (by omega) ?_
          exact ih9 σ76 v1 v3 v4 v5 (1 : Int32) v7 v8 x77 hq (cl + 2) (by omega) H locs hP hS ls (lv_sub hl [2, 3, 4, 5, 6, 1, 7, 8, 0] rfl)
        · have hq := hq.2 hc
          refine lv_aload_n hx hb dL_errors_533 rfl (lv_at hl 0 rfl) ?_
          refine lv_iload hx hb dL_errors_534 (lv_at hl 6 rfl) ?_
          refine lv_iload hx hb dL_errors_536 (lv_at hl 8 rfl) ?_
          refine kj_Wl (As := [.ref (ka_a G (22, 0, 0)), .int v7, .int v9]) (rest := []) C0 hK hT hN hP hS (fun _ h => h) hl (km_L_learn l hl0 hI hq) kd_L_learn kq_931 ⟨rfl, rfl, Nat.le_of_ble_eq_true rfl, Nat.le_of_ble_eq_true rfl⟩ rfl (Nat.le_of_ble_eq_true rfl) dL_errors_538 ⟨by show _ ≤ 493; omega, by show _ ≤ 2958; omega⟩ (fun r78 σ79 H locs hq hP hkp hS => ?_)
          refine lv_ldc2 hx hb hown (hts _ kq_424) dL_errors_541 ?_
          refine kr_cne (tgt := 552) C0 dL_errors_544 dL_errors_545 (by decide) (fun hc => ?_) (fun hc => ?_)
          · have hq := hq.2 hc
            refine lv_iconst (v := 0) hx hb dL_errors_552 (by decide) ?_
            refine lv_istore (lv' := [(6, .int (0 : Int32)), (0, .ref (ka_a G (22, 0, 0))), (1, .long v1), (3, .int v3), (4, .int v4), (5, .int v5), (7, .int v7), (8, .int v8), (9, .int v9)]) hx hb dL_errors_553 hl (by decide) rfl (fun ls hl => ?_)
            obtain ⟨x80, ex80⟩ : ∃ y : Int32, y = v9 + (1 : Int32) := ⟨_, rfl⟩
            have hq := hq x80 ex80
            refine lv_iinc (v := x80) (lv' := [(9, .int x80), (6, .int (0 : Int32)), (0, .ref (ka_a G (22, 0, 0))), (1, .long v1), (3, .int v3), (4, .int v4), (5, .int v5), (7, .int v7), (8, .int v8)]) hx hb dL_errors_555 hl (k := 8) rfl (by rw [ex80]; rfl) (by decide) rfl (fun ls hl => ?_)
            refine lv_goto (tgt := 507) hx hb dL_errors_558 (by decide) ?_
            refine W.widen (k := (cl + 4)) (n := 6 * (cl + 4)) (by omega) (by omega) ?_
            exact ih9 σ79 v1 v3 v4 v5 (0 : Int32) v7 v8 x80 hq (cl + 4) (by omega) H locs hP hS ls (lv_sub hl [2, 3, 4, 5, 6, 1, 7, 8, 0] rfl)
          · have hq := hq.1 hc
            refine lv_iconst (v := 1) hx hb dL_errors_548 (by decide) ?_
            refine lv_goto (tgt := 553) hx hb dL_errors_549 (by decide) ?_
            refine lv_istore (lv' := [(6, .int (1 : Int32)), (0, .ref (ka_a G (22, 0, 0))), (1, .long v1), (3, .int v3), (4, .int v4), (5, .int v5), (7, .int v7), (8, .int v8), (9, .int v9)]) hx hb dL_errors_553 hl (by decide) rfl (fun ls hl => ?_)
            obtain ⟨x81, ex81⟩ : ∃ y : Int32, y = v9 + (1 : Int32) := ⟨_, rfl⟩
            have hq := hq x81 ex81
            refine lv_iinc (v := x81) (lv' := [(9, .int x81), (6, .int (1 : Int32)), (0, .ref (ka_a G (22, 0, 0))), (1, .long v1), (3, .int v3), (4, .int v4), (5, .int v5), (7, .int v7), (8, .int v8)]) hx hb dL_errors_555 hl (k := 8) rfl (by rw [ex81]; rfl) (by decide) rfl (fun ls hl => ?_)
            refine lv_goto (tgt := 507) hx hb dL_errors_558 (by decide) ?_
            refine W.widen (k := (cl + 4)) (n := 6 * (cl + 4)) (by omega) (by omega) ?_
            exact ih9 σ79 v1 v3 v4 v5 (1 : Int32) v7 v8 x81 hq (cl + 4) (by omega) H locs hP hS ls (lv_sub hl [2, 3, 4, 5, 6, 1, 7, 8, 0] rfl)
def kw_L_errors_622 (Q : Int32 → ka_S → Prop) (σ : ka_S) (v1 : Int64) : Prop := kw_L_script σ (5 : Int32) (0 : Int64) (fun r127 σ128 =>
  (r127 = (-9000000000000000002 : Int64) → kw_L_script σ128 (1 : Int32) (10000 : Int64) (fun r129 σ130 =>
    (r129 = (-9000000000000000002 : Int64) → kw_L_script σ130 (1 : Int32) (1 : Int64) (fun r131 σ132 =>
      (r131 = (0 : Int64) → kw_L_simulate σ132 (1 : Int64) (0 : Int32) (fun r133 σ134 =>
        (r133 = (-9000000000000000002 : Int64) → kw_L_simulate σ134 (1 : Int64) (100 : Int32) (fun r135 σ136 =>
          (r135 = (-9000000000000000002 : Int64) → kw_L_save σ136 (2 : Int32) (fun r137 σ138 =>
            (r137 = (-9000000000000000001 : Int64) → kw_L_restore σ138 (-1 : Int32) (fun r139 σ140 =>
              (r139 = (-9000000000000000001 : Int64) → kw_L_now σ140 (fun r141 σ142 =>
                (r141 = v1 → Q (1 : Int32) σ142) ∧
                (¬ r141 = v1 → Q (0 : Int32) σ142))) ∧
              (¬ r139 = (-9000000000000000001 : Int64) → Q (0 : Int32) σ140))) ∧
            (¬ r137 = (-9000000000000000001 : Int64) → Q (0 : Int32) σ138))) ∧
          (¬ r135 = (-9000000000000000002 : Int64) → Q (0 : Int32) σ136))) ∧
        (¬ r133 = (-9000000000000000002 : Int64) → Q (0 : Int32) σ134))) ∧
      (¬ r131 = (0 : Int64) → Q (0 : Int32) σ132))) ∧
    (¬ r129 = (-9000000000000000002 : Int64) → Q (0 : Int32) σ130))) ∧
  (¬ r127 = (-9000000000000000002 : Int64) → Q (0 : Int32) σ128))
set_option maxHeartbeats 4000000 in
set_option maxRecDepth 100000 in
theorem kb_L_errors_622 {p : Program} {l : Launch} {e : Env} {s : State} {m : MethodId} {below : List Frame} {meth : Method} {c : Code} {G : ka_G} {args : Array Value} (hl0 : l.stackTraces = false) (hI : ka_I G) (C0 : ka_C p s m args meth c cL_errors 10 "GlossRowsLaw" (some .boolean)) (hK : ka_Kn G s) (hT : ka_T9 (ka_A G) s) (hN : kl_Nc s) {Q : Int32 → ka_S → Prop} : ∀ (σ : ka_S) (v1 : Int64), kw_L_errors_622 Q σ v1 → ∀ (cl : Nat), cl + 8 ≤ 493 → ∀ (H : Heap) (locs : List Loc), ka_P G σ H → va_S (ka_A G) s.heap H locs → ∀ ls : Array Slot, lv_has ls 10 [(0, .ref (ka_a G (22, 0, 0))), (1, .long v1)] → W p l e rm_L_errors s m args below meth c H locs cl (6 * cl) (MQ below (va_Qi Q (ka_B G) (ka_A G)) args s 493 2958 (ka_A G)) (F0 m 622 ls []) := by
  obtain ⟨hx, hb, -, hml, hown, hts, -⟩ := id C0
  intro σ v1 hq cl hcl H locs hP hS ls hl
  unfold kw_L_errors_622 at hq
  refine lv_aload_n hx hb dL_errors_622 rfl (lv_at hl 0 rfl) ?_
  refine lv_iconst (v := 5) hx hb dL_errors_623 (by decide) ?_
  refine lv_lconst (v := 0) hx hb dL_errors_624 (by decide) ?_
  refine kj_Wl (As := [.ref (ka_a G (22, 0, 0)), .int (5 : Int32), .long (0 : Int64)]) (rest := []) C0 hK hT hN hP hS (fun _ h => h) hl (km_L_script l hl0 hI hq) kd_L_script kq_746 ⟨rfl, rfl, Nat.le_of_ble_eq_true rfl, Nat.le_of_ble_eq_true rfl⟩ rfl (Nat.le_of_ble_eq_true rfl) dL_errors_625 ⟨by show _ ≤ 493; omega, by show _ ≤ 2958; omega⟩ (fun r127 σ128 H locs hq hP hkp hS => ?_)
  refine lv_ldc2 hx hb hown (hts _ kq_558) dL_errors_628 ?_
  refine kr_cne (tgt := 725) C0 dL_errors_631 dL_errors_632 (by decide) (fun hc => ?_) (fun hc => ?_)
  · have hq := hq.2 hc
    refine lv_iconst (v := 0) hx hb dL_errors_725 (by decide) ?_
    exact kl_zret C0 hK hP hS rfl hq dL_errors_726 ⟨by omega, by omega⟩
  · have hq := hq.1 hc
    refine lv_aload_n hx hb dL_errors_635 rfl (lv_at hl 0 rfl) ?_
    refine lv_iconst (v := 1) hx hb dL_errors_636 (by decide) ?_
    refine lv_ldc2 hx hb hown (hts _ kq_745) dL_errors_637 ?_
    refine kj_Wl (As := [.ref (ka_a G (22, 0, 0)), .int (1 : Int32), .long (10000 : Int64)]) (rest := []) C0 hK hT hN hP hS (fun _ h => h) hl (km_L_script l hl0 hI hq) kd_L_script kq_746 ⟨rfl, rfl, Nat.le_of_ble_eq_true rfl, Nat.le_of_ble_eq_true rfl⟩ rfl (Nat.le_of_ble_eq_true rfl) dL_errors_640 ⟨by show _ ≤ 493; omega, by show _ ≤ 2958; omega⟩ (fun r129 σ130 H locs hq hP hkp hS => ?_)
    refine lv_ldc2 hx hb hown (hts _ kq_558) dL_errors_643 ?_
    refine kr_cne (tgt := 725) C0 dL_errors_646 dL_errors_647 (by decide) (fun hc => ?_) (fun hc => ?_)
    · have hq := hq.2 hc
      refine lv_iconst (v := 0) hx hb dL_errors_725 (by decide) ?_
      exact kl_zret C0 hK hP hS rfl hq dL_errors_726 ⟨by omega, by omega⟩
    · have hq := hq.1 hc
      refine lv_aload_n hx hb dL_errors_650 rfl (lv_at hl 0 rfl) ?_
      refine lv_iconst (v := 1) hx hb dL_errors_651 (by decide) ?_
      refine lv_lconst (v := 1) hx hb dL_errors_652 (by decide) ?_
      refine kj_Wl (As := [.ref (ka_a G (22, 0, 0)), .int (1 : Int32), .long (1 : Int64)]) (rest := []) C0 hK hT hN hP hS (fun _ h => h) hl (km_L_script l hl0 hI hq) kd_L_script kq_746 ⟨rfl, rfl, Nat.le_of_ble_eq_true rfl, Nat.le_of_ble_eq_true rfl⟩ rfl (Nat.le_of_ble_eq_true rfl) dL_errors_653 ⟨by show _ ≤ 493; omega, by show _ ≤ 2958; omega⟩ (fun r131 σ132 H locs hq hP hkp hS => ?_)
      refine lv_lconst (v := 0) hx hb dL_errors_656 (by decide) ?_
      refine kr_cne (tgt := 725) C0 dL_errors_657 dL_errors_658 (by decide) (fun hc => ?_) (fun hc => ?_)
      · have hq := hq.2 hc
        refine lv_iconst (v := 0) hx hb dL_errors_725 (by decide) ?_
        exact kl_zret C0 hK hP hS rfl hq dL_errors_726 ⟨by omega, by omega⟩
      · have hq := hq.1 hc
        refine lv_aload_n hx hb dL_errors_661 rfl (lv_at hl 0 rfl) ?_
        refine lv_lconst (v := 1) hx hb dL_errors_662 (by decide) ?_
        refine lv_iconst (v := 0) hx hb dL_errors_663 (by decide) ?_
        refine kj_Wl (As := [.ref (ka_a G (22, 0, 0)), .long (1 : Int64), .int (0 : Int32)]) (rest := []) C0 hK hT hN hP hS (fun _ h => h) hl (km_L_simulate l hl0 hI hq) kd_L_simulate kq_818 ⟨rfl, rfl, Nat.le_of_ble_eq_true rfl, Nat.le_of_ble_eq_true rfl⟩ rfl (Nat.le_of_ble_eq_true rfl) dL_errors_664 ⟨by show _ ≤ 493; omega, by show _ ≤ 2958; omega⟩ (fun r133 σ134 H locs hq hP hkp hS => ?_)
        refine lv_ldc2 hx hb hown (hts _ kq_558) dL_errors_667 ?_
        refine kr_cne (tgt := 725) C0 dL_errors_670 dL_errors_671 (by decide) (fun hc => ?_) (fun hc => ?_)
        · have hq := hq.2 hc
          refine lv_iconst (v := 0) hx hb dL_errors_725 (by decide) ?_
          exact kl_zret C0 hK hP hS rfl hq dL_errors_726 ⟨by omega, by omega⟩
        · have hq := hq.1 hc
          refine lv_aload_n hx hb dL_errors_674 rfl (lv_at hl 0 rfl) ?_
          refine lv_lconst (v := 1) hx hb dL_errors_675 (by decide) ?_
          refine lv_bipush (v := 100) hx hb dL_errors_676 (by decide) ?_
          refine kj_Wl (As := [.ref (ka_a G (22, 0, 0)), .long (1 : Int64), .int (100 : Int32)]) (rest := []) C0 hK hT hN hP hS (fun _ h => h) hl (km_L_simulate l hl0 hI hq) kd_L_simulate kq_818 ⟨rfl, rfl, Nat.le_of_ble_eq_true rfl, Nat.le_of_ble_eq_true rfl⟩ rfl (Nat.le_of_ble_eq_true rfl) dL_errors_678 ⟨by show _ ≤ 493; omega, by show _ ≤ 2958; omega⟩ (fun r135 σ136 H locs hq hP hkp hS => ?_)
          refine lv_ldc2 hx hb hown (hts _ kq_558) dL_errors_681 ?_
          refine kr_cne (tgt := 725) C0 dL_errors_684 dL_errors_685 (by decide) (fun hc => ?_) (fun hc => ?_)
          · have hq := hq.2 hc
            refine lv_iconst (v := 0) hx hb dL_errors_725 (by decide) ?_
            exact kl_zret C0 hK hP hS rfl hq dL_errors_726 ⟨by omega, by omega⟩
          · have hq := hq.1 hc
            refine lv_aload_n hx hb dL_errors_688 rfl (lv_at hl 0 rfl) ?_
            refine lv_iconst (v := 2) hx hb dL_errors_689 (by decide) ?_
            refine kj_Wl (As := [.ref (ka_a G (22, 0, 0)), .int (2 : Int32)]) (rest := []) C0 hK hT hN hP hS (fun _ h => h) hl (km_L_save l hl0 hI hq) kd_L_save kq_425 ⟨rfl, rfl, Nat.le_of_ble_eq_true rfl, Nat.le_of_ble_eq_true rfl⟩ rfl (Nat.le_of_ble_eq_true rfl) dL_errors_690 ⟨by show _ ≤ 493; omega, by show _ ≤ 2958; omega⟩ (fun r137 σ138 H locs hq hP hkp hS => ?_)
            refine lv_ldc2 hx hb hown (hts _ kq_461) dL_errors_693 ?_
            refine kr_cne (tgt := 725) C0 dL_errors_696 dL_errors_697 (by decide) (fun hc => ?_) (fun hc => ?_)
            · have hq := hq.2 hc
              refine lv_iconst (v := 0) hx hb dL_errors_725 (by decide) ?_
              exact kl_zret C0 hK hP hS rfl hq dL_errors_726 ⟨by omega, by omega⟩
            · have hq := hq.1 hc
              refine lv_aload_n hx hb dL_errors_700 rfl (lv_at hl 0 rfl) ?_
              refine lv_iconst (v := -1) hx hb dL_errors_701 (by decide) ?_
              refine kj_Wl (As := [.ref (ka_a G (22, 0, 0)), .int (-1 : Int32)]) (rest := []) C0 hK hT hN hP hS (fun _ h => h) hl (km_L_restore l hl0 hI hq) kd_L_restore kq_462 ⟨rfl, rfl, Nat.le_of_ble_eq_true rfl, Nat.le_of_ble_eq_true rfl⟩ rfl (Nat.le_of_ble_eq_true rfl) dL_errors_702 ⟨by show _ ≤ 493; omega, by show _ ≤ 2958; omega⟩ (fun r139 σ140 H locs hq hP hkp hS => ?_)
              refine lv_ldc2 hx hb hown (hts _ kq_461) dL_errors_705 ?_
              refine kr_cne (tgt := 725) C0 dL_errors_708 dL_errors_709 (by decide) (fun hc => ?_) (fun hc => ?_)
              · have hq := hq.2 hc
                refine lv_iconst (v := 0) hx hb dL_errors_725 (by decide) ?_
                exact kl_zret C0 hK hP hS rfl hq dL_errors_726 ⟨by omega, by omega⟩
              · have hq := hq.1 hc
                refine lv_aload_n hx hb dL_errors_712 rfl (lv_at hl 0 rfl) ?_
                refine kj_Sl (As := [.ref (ka_a G (22, 0, 0))]) (rest := []) C0 hK hT hN hP hS (fun _ h => h) hl (km_L_now l hl0 hI hq) kd_L_now kq_473 ⟨rfl, rfl, Nat.le_of_ble_eq_true rfl, Nat.le_of_ble_eq_true rfl⟩ rfl (Nat.le_of_ble_eq_true rfl) dL_errors_713 ⟨by show _ ≤ 493; omega, by show _ ≤ 2958; omega⟩ (fun r141 σ142 H locs hq hP hkp hS => ?_)
                refine lv_lload_n hx hb dL_errors_716 rfl (lv_at hl 1 rfl) ?_
                refine kr_cne (tgt := 725) C0 dL_errors_717 dL_errors_718 (by decide) (fun hc => ?_) (fun hc => ?_)
                · have hq := hq.2 hc
                  refine lv_iconst (v := 0) hx hb dL_errors_725 (by decide) ?_
                  exact kl_zret C0 hK hP hS rfl hq dL_errors_726 ⟨by omega, by omega⟩
                · have hq := hq.1 hc
                  refine lv_iconst (v := 1) hx hb dL_errors_721 (by decide) ?_
                  refine lv_goto (tgt := 726) hx hb dL_errors_722 (by decide) ?_
                  exact kl_zret C0 hK hP hS rfl hq dL_errors_726 ⟨by omega, by omega⟩
def kw_L_errors_603 (Q : Int32 → ka_S → Prop) (σ : ka_S) (v1 : Int64) (v4 : Int32) : Prop := (v4 = (0 : Int32) → kw_L_errors_622 Q σ v1) ∧
  (¬ v4 = (0 : Int32) → kw_L_entry σ (0 : Int32) (1 : Int32) (-1 : Int32) (fun r106 σ107 =>
    (r106 = (-9000000000000000002 : Int64) → kw_L_errors_622 Q σ107 v1) ∧
    (¬ r106 = (-9000000000000000002 : Int64) → Q (0 : Int32) σ107)))
set_option maxHeartbeats 4000000 in
set_option maxRecDepth 100000 in
theorem kb_L_errors_603 {p : Program} {l : Launch} {e : Env} {s : State} {m : MethodId} {below : List Frame} {meth : Method} {c : Code} {G : ka_G} {args : Array Value} (hl0 : l.stackTraces = false) (hI : ka_I G) (C0 : ka_C p s m args meth c cL_errors 10 "GlossRowsLaw" (some .boolean)) (hK : ka_Kn G s) (hT : ka_T9 (ka_A G) s) (hN : kl_Nc s) {Q : Int32 → ka_S → Prop} : ∀ (σ : ka_S) (v1 : Int64) (v4 : Int32), kw_L_errors_603 Q σ v1 v4 → ∀ (cl : Nat), cl + 10 ≤ 493 → ∀ (H : Heap) (locs : List Loc), ka_P G σ H → va_S (ka_A G) s.heap H locs → ∀ ls : Array Slot, lv_has ls 10 [(0, .ref (ka_a G (22, 0, 0))), (1, .long v1), (4, .int v4)] → W p l e rm_L_errors s m args below meth c H locs cl (6 * cl) (MQ below (va_Qi Q (ka_B G) (ka_A G)) args s 493 2958 (ka_A G)) (F0 m 603 ls []) := by
  obtain ⟨hx, hb, -, hml, hown, hts, -⟩ := id C0
  intro σ v1 v4 hq cl hcl H locs hP hS ls hl
  unfold kw_L_errors_603 at hq
  refine lv_iload hx hb dL_errors_603 (lv_at hl 2 rfl) ?_
  refine lv_if_eq (tgt := 622) hx hb dL_errors_605 (by decide) (fun hc => ?_) (fun hc => ?_)
  · have hq := hq.1 hc
    refine W.widen (k := (cl + 0)) (n := 6 * (cl + 0)) (by omega) (by omega) ?_
    exact kb_L_errors_622 hl0 hI C0 hK hT hN σ v1 hq (cl + 0) (by omega) H locs hP hS ls (lv_sub hl [0, 1] rfl)
  · have hq := hq.2 hc
    refine lv_aload_n hx hb dL_errors_608 rfl (lv_at hl 0 rfl) ?_
    refine lv_iconst (v := 0) hx hb dL_errors_609 (by decide) ?_
    refine lv_iconst (v := 1) hx hb dL_errors_610 (by decide) ?_
    refine lv_iconst (v := -1) hx hb dL_errors_611 (by decide) ?_
    refine kj_Wl (As := [.ref (ka_a G (22, 0, 0)), .int (0 : Int32), .int (1 : Int32), .int (-1 : Int32)]) (rest := []) C0 hK hT hN hP hS (fun _ h => h) hl (km_L_entry l hl0 hI hq) kd_L_entry kq_620 ⟨rfl, rfl, Nat.le_of_ble_eq_true rfl, Nat.le_of_ble_eq_true rfl⟩ rfl (Nat.le_of_ble_eq_true rfl) dL_errors_612 ⟨by show _ ≤ 493; omega, by show _ ≤ 2958; omega⟩ (fun r106 σ107 H locs hq hP hkp hS => ?_)
    refine lv_ldc2 hx hb hown (hts _ kq_558) dL_errors_615 ?_
    refine kr_cne (tgt := 725) C0 dL_errors_618 dL_errors_619 (by decide) (fun hc => ?_) (fun hc => ?_)
    · have hq := hq.2 hc
      refine lv_iconst (v := 0) hx hb dL_errors_725 (by decide) ?_
      exact kl_zret C0 hK hP hS rfl hq dL_errors_726 ⟨by omega, by omega⟩
    · have hq := hq.1 hc
      refine W.widen (k := (cl + 2)) (n := 6 * (cl + 2)) (by omega) (by omega) ?_
      exact kb_L_errors_622 hl0 hI C0 hK hT hN σ107 v1 hq (cl + 2) (by omega) H locs hP hS ls (lv_sub hl [0, 1] rfl)
def kw_L_errors_567 (Q : Int32 → ka_S → Prop) (σ : ka_S) (v1 : Int64) (v4 : Int32) (v5 : Int32) (v6 : Int32) : Prop := (v6 = (0 : Int32) → Q (0 : Int32) σ) ∧
  (¬ v6 = (0 : Int32) → (v5 = (0 : Int32) → kw_L_errors_603 Q σ v1 v4) ∧
    (¬ v5 = (0 : Int32) → kw_L_row σ (0 : Int32) (3 : Int32) (fun r69 σ70 =>
      (r69 = (-9000000000000000002 : Int64) → kw_L_at σ70 (0 : Int32) (-1 : Int32) (fun r71 σ72 =>
        (r71 = (-9000000000000000002 : Int64) → kw_L_errors_603 Q σ72 v1 v4) ∧
        (¬ r71 = (-9000000000000000002 : Int64) → Q (0 : Int32) σ72))) ∧
      (¬ r69 = (-9000000000000000002 : Int64) → Q (0 : Int32) σ70))))
set_option maxHeartbeats 4000000 in
set_option maxRecDepth 100000 in
theorem kb_L_errors_567 {p : Program} {l : Launch} {e : Env} {s : State} {m : MethodId} {below : List Frame} {meth : Method} {c : Code} {G : ka_G} {args : Array Value} (hl0 : l.stackTraces = false) (hI : ka_I G) (C0 : ka_C p s m args meth c cL_errors 10 "GlossRowsLaw" (some .boolean)) (hK : ka_Kn G s) (hT : ka_T9 (ka_A G) s) (hN : kl_Nc s) {Q : Int32 → ka_S → Prop} : ∀ (σ : ka_S) (v1 : Int64) (v4 : Int32) (v5 : Int32) (v6 : Int32), kw_L_errors_567 Q σ v1 v4 v5 v6 → ∀ (cl : Nat), cl + 14 ≤ 493 → ∀ (H : Heap) (locs : List Loc), ka_P G σ H → va_S (ka_A G) s.heap H locs → ∀ ls : Array Slot, lv_has ls 10 [(0, .ref (ka_a G (22, 0, 0))), (1, .long v1), (4, .int v4), (5, .int v5), (6, .int v6)] → W p l e rm_L_errors s m args below meth c H locs cl (6 * cl) (MQ below (va_Qi Q (ka_B G) (ka_A G)) args s 493 2958 (ka_A G)) (F0 m 567 ls []) := by
  obtain ⟨hx, hb, -, hml, hown, hts, -⟩ := id C0
  intro σ v1 v4 v5 v6 hq cl hcl H locs hP hS ls hl
  unfold kw_L_errors_567 at hq
  refine lv_iload hx hb dL_errors_567 (lv_at hl 4 rfl) ?_
  refine lv_if_eq (tgt := 725) hx hb dL_errors_569 (by decide) (fun hc => ?_) (fun hc => ?_)
  · have hq := hq.1 hc
    refine lv_iconst (v := 0) hx hb dL_errors_725 (by decide) ?_
    exact kl_zret C0 hK hP hS rfl hq dL_errors_726 ⟨by omega, by omega⟩
  · have hq := hq.2 hc
    refine lv_iload hx hb dL_errors_572 (lv_at hl 3 rfl) ?_
    refine lv_if_eq (tgt := 603) hx hb dL_errors_574 (by decide) (fun hc => ?_) (fun hc => ?_)
    · have hq := hq.1 hc
      refine W.widen (k := (cl + 0)) (n := 6 * (cl + 0)) (by omega) (by omega) ?_
      exact kb_L_errors_603 hl0 hI C0 hK hT hN σ v1 v4 hq (cl + 0) (by omega) H locs hP hS ls (lv_sub hl [0, 1, 2] rfl)
    · have hq := hq.2 hc
      refine lv_aload_n hx hb dL_errors_577 rfl (lv_at hl 0 rfl) ?_
      refine lv_iconst (v := 0) hx hb dL_errors_578 (by decide) ?_
      refine lv_iconst (v := 3) hx hb dL_errors_579 (by decide) ?_
      refine kj_Wl (As := [.ref (ka_a G (22, 0, 0)), .int (0 : Int32), .int (3 : Int32)]) (rest := []) C0 hK hT hN hP hS (fun _ h => h) hl (km_L_row l hl0 hI hq) kd_L_row kq_687 ⟨rfl, rfl, Nat.le_of_ble_eq_true rfl, Nat.le_of_ble_eq_true rfl⟩ rfl (Nat.le_of_ble_eq_true rfl) dL_errors_580 ⟨by show _ ≤ 493; omega, by show _ ≤ 2958; omega⟩ (fun r69 σ70 H locs hq hP hkp hS => ?_)
      refine lv_ldc2 hx hb hown (hts _ kq_558) dL_errors_583 ?_
      refine kr_cne (tgt := 725) C0 dL_errors_586 dL_errors_587 (by decide) (fun hc => ?_) (fun hc => ?_)
      · have hq := hq.2 hc
        refine lv_iconst (v := 0) hx hb dL_errors_725 (by decide) ?_
        exact kl_zret C0 hK hP hS rfl hq dL_errors_726 ⟨by omega, by omega⟩
      · have hq := hq.1 hc
        refine lv_aload_n hx hb dL_errors_590 rfl (lv_at hl 0 rfl) ?_
        refine lv_iconst (v := 0) hx hb dL_errors_591 (by decide) ?_
        refine lv_iconst (v := -1) hx hb dL_errors_592 (by decide) ?_
        refine kj_Wl (As := [.ref (ka_a G (22, 0, 0)), .int (0 : Int32), .int (-1 : Int32)]) (rest := []) C0 hK hT hN hP hS (fun _ h => h) hl (km_L_at l hl0 hI hq) kd_L_at kq_724 ⟨rfl, rfl, Nat.le_of_ble_eq_true rfl, Nat.le_of_ble_eq_true rfl⟩ rfl (Nat.le_of_ble_eq_true rfl) dL_errors_593 ⟨by show _ ≤ 493; omega, by show _ ≤ 2958; omega⟩ (fun r71 σ72 H locs hq hP hkp hS => ?_)
        refine lv_ldc2 hx hb hown (hts _ kq_558) dL_errors_596 ?_
        refine kr_cne (tgt := 725) C0 dL_errors_599 dL_errors_600 (by decide) (fun hc => ?_) (fun hc => ?_)
        · have hq := hq.2 hc
          refine lv_iconst (v := 0) hx hb dL_errors_725 (by decide) ?_
          exact kl_zret C0 hK hP hS rfl hq dL_errors_726 ⟨by omega, by omega⟩
        · have hq := hq.1 hc
          refine W.widen (k := (cl + 4)) (n := 6 * (cl + 4)) (by omega) (by omega) ?_
          exact kb_L_errors_603 hl0 hI C0 hK hT hN σ72 v1 v4 hq (cl + 4) (by omega) H locs hP hS ls (lv_sub hl [0, 1, 2] rfl)
def kw_L_errors_385 (Q : Int32 → ka_S → Prop) : Nat → ka_S → Int64 → Int32 → Int32 → Int32 → Int32 → Int32 → Prop
  | 0, _, _, _, _, _, _, _ => False
  | n + 1, σ, v1, v3, v4, v5, v6, v7 => (v3 ≤ v7 → kw_L_errors_567 Q σ v1 v4 v5 v6) ∧
    (¬ v3 ≤ v7 → (v6 = (0 : Int32) → kw_L_errors_567 Q σ v1 v4 v5 v6) ∧
      (¬ v6 = (0 : Int32) → kw_L_word σ v7 (0 : Int32) (fun r23 σ24 =>
        ∀ x25 : Int32, x25 = r23.toInt32 → 
        kw_L_word σ24 v7 (8 : Int32) (fun r26 σ27 =>
        (r26 = (-9000000000000000002 : Int64) → kw_L_part σ27 v7 x25 (0 : Int32) (fun r29 σ30 =>
          (r29 = (-9000000000000000001 : Int64) → kw_L_part σ30 v7 (0 : Int32) (4 : Int32) (fun r32 σ33 =>
            (r32 = (-9000000000000000002 : Int64) → kw_L_letter σ33 v7 (0 : Int32) (0 : Int32) (-1 : Int32) (fun r35 σ36 =>
              (r35 = (-9000000000000000002 : Int64) → kw_L_setGloss σ36 v7 x25 (fun r38 σ39 =>
                (r38 = (-9000000000000000001 : Int64) → kw_L_learn σ39 v7 (-1 : Int32) (fun r41 σ42 =>
                  (r41 = (-9000000000000000001 : Int64) → ∃ n44 : Nat, n44 ≤ 5 ∧ kw_L_errors_507 (kw_L_errors_385 Q n) Q n44 σ42 v1 v3 v4 v5 (1 : Int32) v7 x25 (0 : Int32)) ∧
                  (¬ r41 = (-9000000000000000001 : Int64) → ∃ n43 : Nat, n43 ≤ 5 ∧ kw_L_errors_507 (kw_L_errors_385 Q n) Q n43 σ42 v1 v3 v4 v5 (0 : Int32) v7 x25 (0 : Int32)))) ∧
                (¬ r38 = (-9000000000000000001 : Int64) → ∃ n40 : Nat, n40 ≤ 5 ∧ kw_L_errors_507 (kw_L_errors_385 Q n) Q n40 σ39 v1 v3 v4 v5 (0 : Int32) v7 x25 (0 : Int32)))) ∧
              (¬ r35 = (-9000000000000000002 : Int64) → ∃ n37 : Nat, n37 ≤ 5 ∧ kw_L_errors_507 (kw_L_errors_385 Q n) Q n37 σ36 v1 v3 v4 v5 (0 : Int32) v7 x25 (0 : Int32)))) ∧
            (¬ r32 = (-9000000000000000002 : Int64) → ∃ n34 : Nat, n34 ≤ 5 ∧ kw_L_errors_507 (kw_L_errors_385 Q n) Q n34 σ33 v1 v3 v4 v5 (0 : Int32) v7 x25 (0 : Int32)))) ∧
          (¬ r29 = (-9000000000000000001 : Int64) → ∃ n31 : Nat, n31 ≤ 5 ∧ kw_L_errors_507 (kw_L_errors_385 Q n) Q n31 σ30 v1 v3 v4 v5 (0 : Int32) v7 x25 (0 : Int32)))) ∧
        (¬ r26 = (-9000000000000000002 : Int64) → ∃ n28 : Nat, n28 ≤ 5 ∧ kw_L_errors_507 (kw_L_errors_385 Q n) Q n28 σ27 v1 v3 v4 v5 (0 : Int32) v7 x25 (0 : Int32))))))
set_option maxHeartbeats 4000000 in
set_option maxRecDepth 100000 in
theorem kb_L_errors_385 {p : Program} {l : Launch} {e : Env} {s : State} {m : MethodId} {below : List Frame} {meth : Method} {c : Code} {G : ka_G} {args : Array Value} (hl0 : l.stackTraces = false) (hI : ka_I G) (C0 : ka_C p s m args meth c cL_errors 10 "GlossRowsLaw" (some .boolean)) (hK : ka_Kn G s) (hT : ka_T9 (ka_A G) s) (hN : kl_Nc s) {Q : Int32 → ka_S → Prop} : ∀ (n : Nat) (σ : ka_S) (v1 : Int64) (v3 : Int32) (v4 : Int32) (v5 : Int32) (v6 : Int32) (v7 : Int32), kw_L_errors_385 Q n σ v1 v3 v4 v5 v6 v7 → ∀ (cl : Nat), cl + 14 + n * 34 ≤ 493 → ∀ (H : Heap) (locs : List Loc), ka_P G σ H → va_S (ka_A G) s.heap H locs → ∀ ls : Array Slot, lv_has ls 10 [(0, .ref (ka_a G (22, 0, 0))), (1, .long v1), (3, .int v3), (4, .int v4), (5, .int v5), (6, .int v6), (7, .int v7)] → W p l e rm_L_errors s m args below meth c H locs cl (6 * cl) (MQ below (va_Qi Q (ka_B G) (ka_A G)) args s 493 2958 (ka_A G)) (F0 m 385 ls []) := by
  obtain ⟨hx, hb, -, hml, hown, hts, -⟩ := id C0
  intro n
  induction n with
  | zero =>
    intro σ v1 v3 v4 v5 v6 v7 hq
    rw [kw_L_errors_385] at hq
    exact hq.elim
  | succ n ih =>
    have ih9 : ∀ (σ : ka_S) (v1 : Int64) (v3 : Int32) (v4 : Int32) (v5 : Int32) (v6 : Int32) (v7 : Int32), kw_L_errors_385 Q n σ v1 v3 v4 v5 v6 v7 → ∀ (cl : Nat), cl + (14 + n * 34) ≤ 493 → ∀ (H : Heap) (locs : List Loc), ka_P G σ H → va_S (ka_A G) s.heap H locs → ∀ ls : Array Slot, lv_has ls 10 [(0, .ref (ka_a G (22, 0, 0))), (1, .long v1), (3, .int v3), (4, .int v4), (5, .int v5), (6, .int v6), (7, .int v7)] → W p l e rm_L_errors s m args below meth c H locs cl (6 * cl) (MQ below (va_Qi Q (ka_B G) (ka_A G)) args s 493 2958 (ka_A G)) (F0 m 385 ls []) := fun σ v1 v3 v4 v5 v6 v7 hq cl h9 => ih σ v1 v3 v4 v5 v6 v7 hq cl (by omega)
    intro σ v1 v3 v4 v5 v6 v7 hq cl hcl H locs hP hS ls hl
    rw [kw_L_errors_385] at hq
    refine lv_iload hx hb dL_errors_385 (lv_at hl 6 rfl) ?_
    refine lv_iload_n hx hb dL_errors_387 rfl (lv_at hl 2 rfl) ?_
    refine lv_icmp_ge (tgt := 567) hx hb dL_errors_388 (by decide) (fun hc => ?_) (fun hc => ?_)
    · have hq := hq.1 hc
      refine W.widen (k := (cl + 0)) (n := 6 * (cl + 0)) (by omega) (by omega) ?_
      exact kb_L_errors_567 hl0 hI C0 hK hT hN σ v1 v4 v5 v6 hq (cl + 0) (by omega) H locs hP hS ls (lv_sub hl [0, 1, 3, 4, 5] rfl)
    · have hq := hq.2 hc
      refine lv_iload hx hb dL_errors_391 (lv_at hl 5 rfl) ?_
      refine lv_if_eq (tgt := 567) hx hb dL_errors_393 (by decide) (fun hc => ?_) (fun hc => ?_)
      · have hq := hq.1 hc
        refine W.widen (k := (cl + 0)) (n := 6 * (cl + 0)) (by omega) (by omega) ?_
        exact kb_L_errors_567 hl0 hI C0 hK hT hN σ v1 v4 v5 v6 hq (cl + 0) (by omega) H locs hP hS ls (lv_sub hl [0, 1, 3, 4, 5] rfl)
      · have hq := hq.2 hc
        refine lv_aload_n hx hb dL_errors_396 rfl (lv_at hl 0 rfl) ?_
        refine lv_iload hx hb dL_errors_397 (lv_at hl 6 rfl) ?_
        refine lv_iconst (v := 0) hx hb dL_errors_399 (by decide) ?_
        refine kj_Wl (As := [.ref (ka_a G (22, 0, 0)), .int v7, .int (0 : Int32)]) (rest := []) C0 hK hT hN hP hS (fun _ h => h) hl (km_L_word l hl0 hI hq) kd_L_word kq_563 ⟨rfl, rfl, Nat.le_of_ble_eq_true rfl, Nat.le_of_ble_eq_true rfl⟩ rfl (Nat.le_of_ble_eq_true rfl) dL_errors_400 ⟨by show _ ≤ 493; omega, by show _ ≤ 2958; omega⟩ (fun r23 σ24 H locs hq hP hkp hS => ?_)
        refine lv_l2i hx hb dL_errors_403 rfl ?_
        refine lv_topi (fun x25 ex25 => ?_)
        have hq := hq x25 ex25
        refine lv_istore (lv' := [(8, .int x25), (0, .ref (ka_a G (22, 0, 0))), (1, .long v1), (3, .int v3), (4, .int v4), (5, .int v5), (6, .int v6), (7, .int v7)]) hx hb dL_errors_404 hl (by decide) rfl (fun ls hl => ?_)
        refine lv_aload_n hx hb dL_errors_406 rfl (lv_at hl 1 rfl) ?_
        refine lv_iload hx hb dL_errors_407 (lv_at hl 7 rfl) ?_
        refine lv_bipush (v := 8) hx hb dL_errors_409 (by decide) ?_
        refine kj_Wl (As := [.ref (ka_a G (22, 0, 0)), .int v7, .int (8 : Int32)]) (rest := []) C0 hK hT hN hP hS (fun _ h => h) hl (km_L_word l hl0 hI hq) kd_L_word kq_563 ⟨rfl, rfl, Nat.le_of_ble_eq_true rfl, Nat.le_of_ble_eq_true rfl⟩ rfl (Nat.le_of_ble_eq_true rfl) dL_errors_411 ⟨by show _ ≤ 493; omega, by show _ ≤ 2958; omega⟩ (fun r26 σ27 H locs hq hP hkp hS => ?_)
        refine lv_ldc2 hx hb hown (hts _ kq_558) dL_errors_414 ?_
        refine kr_cne (tgt := 501) C0 dL_errors_417 dL_errors_418 (by decide) (fun hc => ?_) (fun hc => ?_)
        · have hq := hq.2 hc
          refine lv_iconst (v := 0) hx hb dL_errors_501 (by decide) ?_
          refine lv_istore (lv' := [(6, .int (0 : Int32)), (8, .int x25), (0, .ref (ka_a G (22, 0, 0))), (1, .long v1), (3, .int v3), (4, .int v4), (5, .int v5), (7, .int v7)]) hx hb dL_errors_502 hl (by decide) rfl (fun ls hl => ?_)
          refine lv_iconst (v := 0) hx hb dL_errors_504 (by decide) ?_
          refine lv_istore (lv' := [(9, .int (0 : Int32)), (6, .int (0 : Int32)), (8, .int x25), (0, .ref (ka_a G (22, 0, 0))), (1, .long v1), (3, .int v3), (4, .int v4), (5, .int v5), (7, .int v7)]) hx hb dL_errors_505 hl (by decide) rfl (fun ls hl => ?_)
          obtain ⟨n28, hn28, hq⟩ := hq
          refine W.widen (k := (cl + 4)) (n := 6 * (cl + 4)) (by omega) (by omega) ?_
          exact kb_L_errors_507 (R385 := (14 + n * 34)) hl0 hI C0 hK hT hN ih9 n28 σ27 v1 v3 v4 v5 (0 : Int32) v7 x25 (0 : Int32) hq (cl + 4) (by omega) H locs hP hS ls (lv_sub hl [3, 4, 5, 6, 7, 1, 8, 2, 0] rfl)
        · have hq := hq.1 hc
          refine lv_aload_n hx hb dL_errors_421 rfl (lv_at hl 1 rfl) ?_
          refine lv_iload hx hb dL_errors_422 (lv_at hl 7 rfl) ?_
          refine lv_iload hx hb dL_errors_424 (lv_at hl 0 rfl) ?_
          refine lv_iconst (v := 0) hx hb dL_errors_426 (by decide) ?_
          refine kj_Wl (As := [.ref (ka_a G (22, 0, 0)), .int v7, .int x25, .int (0 : Int32)]) (rest := []) C0 hK hT hN hP hS (fun _ h => h) hl (km_L_part l hl0 hI hq) kd_L_part kq_609 ⟨rfl, rfl, Nat.le_of_ble_eq_true rfl, Nat.le_of_ble_eq_true rfl⟩ rfl (Nat.le_of_ble_eq_true rfl) dL_errors_427 ⟨by show _ ≤ 493; omega, by show _ ≤ 2958; omega⟩ (fun r29 σ30 H locs hq hP hkp hS => ?_)
          refine lv_ldc2 hx hb hown (hts _ kq_461) dL_errors_430 ?_
          refine kr_cne (tgt := 501) C0 dL_errors_433 dL_errors_434 (by decide) (fun hc => ?_) (fun hc => ?_)
          · have hq := hq.2 hc
            refine lv_iconst (v := 0) hx hb dL_errors_501 (by decide) ?_
            refine lv_istore (lv' := [(6, .int (0 : Int32)), (8, .int x25), (0, .ref (ka_a G (22, 0, 0))), (1, .long v1), (3, .int v3), (4, .int v4), (5, .int v5), (7, .int v7)]) hx hb dL_errors_502 hl (by decide) rfl (fun ls hl => ?_)
            refine lv_iconst (v := 0) hx hb dL_errors_504 (by decide) ?_
            refine lv_istore (lv' := [(9, .int (0 : Int32)), (6, .int (0 : Int32)), (8, .int x25), (0, .ref (ka_a G (22, 0, 0))), (1, .long v1), (3, .int v3), (4, .int v4), (5, .int v5), (7, .int v7)]) hx hb dL_errors_505 hl (by decide) rfl (fun ls hl => ?_)
            obtain ⟨n31, hn31, hq⟩ := hq
            refine W.widen (k := (cl + 6)) (n := 6 * (cl + 6)) (by omega) (by omega) ?_
            exact kb_L_errors_507 (R385 := (14 + n * 34)) hl0 hI C0 hK hT hN ih9 n31 σ30 v1 v3 v4 v5 (0 : Int32) v7 x25 (0 : Int32) hq (cl + 6) (by omega) H locs hP hS ls (lv_sub hl [3, 4, 5, 6, 7, 1, 8, 2, 0] rfl)
          · have hq := hq.1 hc
            refine lv_aload_n hx hb dL_errors_437 rfl (lv_at hl 1 rfl) ?_
            refine lv_iload hx hb dL_errors_438 (lv_at hl 7 rfl) ?_
            refine lv_iconst (v := 0) hx hb dL_errors_440 (by decide) ?_
            refine lv_iconst (v := 4) hx hb dL_errors_441 (by decide) ?_
            refine kj_Wl (As := [.ref (ka_a G (22, 0, 0)), .int v7, .int (0 : Int32), .int (4 : Int32)]) (rest := []) C0 hK hT hN hP hS (fun _ h => h) hl (km_L_part l hl0 hI hq) kd_L_part kq_609 ⟨rfl, rfl, Nat.le_of_ble_eq_true rfl, Nat.le_of_ble_eq_true rfl⟩ rfl (Nat.le_of_ble_eq_true rfl) dL_errors_442 ⟨by show _ ≤ 493; omega, by show _ ≤ 2958; omega⟩ (fun r32 σ33 H locs hq hP hkp hS => ?_)
            refine lv_ldc2 hx hb hown (hts _ kq_558) dL_errors_445 ?_
            refine kr_cne (tgt := 501) C0 dL_errors_448 dL_errors_449 (by decide) (fun hc => ?_) (fun hc => ?_)
            · have hq := hq.2 hc
              refine lv_iconst (v := 0) hx hb dL_errors_501 (by decide) ?_
              refine lv_istore (lv' := [(6, .int (0 : Int32)), (8, .int x25), (0, .ref (ka_a G (22, 0, 0))), (1, .long v1), (3, .int v3), (4, .int v4), (5, .int v5), (7, .int v7)]) hx hb dL_errors_502 hl (by decide) rfl (fun ls hl => ?_)
              refine lv_iconst (v := 0) hx hb dL_errors_504 (by decide) ?_
              refine lv_istore (lv' := [(9, .int (0 : Int32)), (6, .int (0 : Int32)), (8, .int x25), (0, .ref (ka_a G (22, 0, 0))), (1, .long v1), (3, .int v3), (4, .int v4), (5, .int v5), (7, .int v7)]) hx hb dL_errors_505 hl (by decide) rfl (fun ls hl => ?_)
              obtain ⟨n34, hn34, hq⟩ := hq
              refine W.widen (k := (cl + 8)) (n := 6 * (cl + 8)) (by omega) (by omega) ?_
              exact kb_L_errors_507 (R385 := (14 + n * 34)) hl0 hI C0 hK hT hN ih9 n34 σ33 v1 v3 v4 v5 (0 : Int32) v7 x25 (0 : Int32) hq (cl + 8) (by omega) H locs hP hS ls (lv_sub hl [3, 4, 5, 6, 7, 1, 8, 2, 0] rfl)
            · have hq := hq.1 hc
              refine lv_aload_n hx hb dL_errors_452 rfl (lv_at hl 1 rfl) ?_
              refine lv_iload hx hb dL_errors_453 (lv_at hl 7 rfl) ?_
              refine lv_iconst (v := 0) hx hb dL_errors_455 (by decide) ?_
              refine lv_iconst (v := 0) hx hb dL_errors_456 (by decide) ?_
              refine lv_iconst (v := -1) hx hb dL_errors_457 (by decide) ?_
              refine kj_Wl (As := [.ref (ka_a G (22, 0, 0)), .int v7, .int (0 : Int32), .int (0 : Int32), .int (-1 : Int32)]) (rest := []) C0 hK hT hN hP hS (fun _ h => h) hl (km_L_letter l hl0 hI hq) kd_L_letter kq_582 ⟨rfl, rfl, Nat.le_of_ble_eq_true rfl, Nat.le_of_ble_eq_true rfl⟩ rfl (Nat.le_of_ble_eq_true rfl) dL_errors_458 ⟨by show _ ≤ 493; omega, by show _ ≤ 2958; omega⟩ (fun r35 σ36 H locs hq hP hkp hS => ?_)
              refine lv_ldc2 hx hb hown (hts _ kq_558) dL_errors_461 ?_
              refine kr_cne (tgt := 501) C0 dL_errors_464 dL_errors_465 (by decide) (fun hc => ?_) (fun hc => ?_)
              · have hq := hq.2 hc
                refine lv_iconst (v := 0) hx hb dL_errors_501 (by decide) ?_
                refine lv_istore (lv' := [(6, .int (0 : Int32)), (8, .int x25), (0, .ref (ka_a G (22, 0, 0))), (1, .long v1), (3, .int v3), (4, .int v4), (5, .int v5), (7, .int v7)]) hx hb dL_errors_502 hl (by decide) rfl (fun ls hl => ?_)
                refine lv_iconst (v := 0) hx hb dL_errors_504 (by decide) ?_
                refine lv_istore (lv' := [(9, .int (0 : Int32)), (6, .int (0 : Int32)), (8, .int x25), (0, .ref (ka_a G (22, 0, 0))), (1, .long v1), (3, .int v3), (4, .int v4), (5, .int v5), (7, .int v7)]) hx hb dL_errors_505 hl (by decide) rfl (fun ls hl => ?_)
                obtain ⟨n37, hn37, hq⟩ := hq
                refine W.widen (k := (cl + 10)) (n := 6 * (cl + 10)) (by omega) (by omega) ?_
                exact kb_L_errors_507 (R385 := (14 + n * 34)) hl0 hI C0 hK hT hN ih9 n37 σ36 v1 v3 v4 v5 (0 : Int32) v7 x25 (0 : Int32) hq (cl + 10) (by omega) H locs hP hS ls (lv_sub hl [3, 4, 5, 6, 7, 1, 8, 2, 0] rfl)
              · have hq := hq.1 hc
                refine lv_aload_n hx hb dL_errors_468 rfl (lv_at hl 1 rfl) ?_
                refine lv_iload hx hb dL_errors_469 (lv_at hl 7 rfl) ?_
                refine lv_iload hx hb dL_errors_471 (lv_at hl 0 rfl) ?_
                refine kj_Wl (As := [.ref (ka_a G (22, 0, 0)), .int v7, .int x25]) (rest := []) C0 hK hT hN hP hS (fun _ h => h) hl (km_L_setGloss l hl0 hI hq) kd_L_setGloss kq_905 ⟨rfl, rfl, Nat.le_of_ble_eq_true rfl, Nat.le_of_ble_eq_true rfl⟩ rfl (Nat.le_of_ble_eq_true rfl) dL_errors_473 ⟨by show _ ≤ 493; omega, by show _ ≤ 2958; omega⟩ (fun r38 σ39 H locs hq hP hkp hS => ?_)
                refine lv_ldc2 hx hb hown (hts _ kq_461) dL_errors_476 ?_
                refine kr_cne (tgt := 501) C0 dL_errors_479 dL_errors_480 (by decide) (fun hc => ?_) (fun hc => ?_)
                · have hq := hq.2 hc
                  refine lv_iconst (v := 0) hx hb dL_errors_501 (by decide) ?_
                  refine lv_istore (lv' := [(6, .int (0 : Int32)), (8, .int x25), (0, .ref (ka_a G (22, 0, 0))), (1, .long v1), (3, .int v3), (4, .int v4), (5, .int v5), (7, .int v7)]) hx hb dL_errors_502 hl (by decide) rfl (fun ls hl => ?_)
                  refine lv_iconst (v := 0) hx hb dL_errors_504 (by decide) ?_
                  refine lv_istore (lv' := [(9, .int (0 : Int32)), (6, .int (0 : Int32)), (8, .int x25), (0, .ref (ka_a G (22, 0, 0))), (1, .long v1), (3, .int v3), (4, .int v4), (5, .int v5), (7, .int v7)]) hx hb dL_errors_505 hl (by decide) rfl (fun ls hl => ?_)
                  obtain ⟨n40, hn40, hq⟩ := hq
                  refine W.widen (k := (cl + 12)) (n := 6 * (cl + 12)) (by omega) (by omega) ?_
                  exact kb_L_errors_507 (R385 := (14 + n * 34)) hl0 hI C0 hK hT hN ih9 n40 σ39 v1 v3 v4 v5 (0 : Int32) v7 x25 (0 : Int32) hq (cl + 12) (by omega) H locs hP hS ls (lv_sub hl [3, 4, 5, 6, 7, 1, 8, 2, 0] rfl)
                · have hq := hq.1 hc
                  refine lv_aload_n hx hb dL_errors_483 rfl (lv_at hl 1 rfl) ?_
                  refine lv_iload hx hb dL_errors_484 (lv_at hl 7 rfl) ?_
                  refine lv_iconst (v := -1) hx hb dL_errors_486 (by decide) ?_
                  refine kj_Wl (As := [.ref (ka_a G (22, 0, 0)), .int v7, .int (-1 : Int32)]) (rest := []) C0 hK hT hN hP hS (fun _ h => h) hl (km_L_learn l hl0 hI hq) kd_L_learn kq_931 ⟨rfl, rfl, Nat.le_of_ble_eq_true rfl, Nat.le_of_ble_eq_true rfl⟩ rfl (Nat.le_of_ble_eq_true rfl) dL_errors_487 ⟨by show _ ≤ 493; omega, by show _ ≤ 2958; omega⟩ (fun r41 σ42 H locs hq hP hkp hS => ?_)
                  refine lv_ldc2 hx hb hown (hts _ kq_461) dL_errors_490 ?_
                  refine kr_cne (tgt := 501) C0 dL_errors_493 dL_errors_494 (by decide) (fun hc => ?_) (fun hc => ?_)
                  · have hq := hq.2 hc
                    refine lv_iconst (v := 0) hx hb dL_errors_501 (by decide) ?_
                    refine lv_istore (lv' := [(6, .int (0 : Int32)), (8, .int x25), (0, .ref (ka_a G (22, 0, 0))), (1, .long v1), (3, .int v3), (4, .int v4), (5, .int v5), (7, .int v7)]) hx hb dL_errors_502 hl (by decide) rfl (fun ls hl => ?_)
                    refine lv_iconst (v := 0) hx hb dL_errors_504 (by decide) ?_
                    refine lv_istore (lv' := [(9, .int (0 : Int32)), (6, .int (0 : Int32)), (8, .int x25), (0, .ref (ka_a G (22, 0, 0))), (1, .long v1), (3, .int v3), (4, .int v4), (5, .int v5), (7, .int v7)]) hx hb dL_errors_505 hl (by decide) rfl (fun ls hl => ?_)
                    obtain ⟨n43, hn43, hq⟩ := hq
                    refine W.widen (k := (cl + 14)) (n := 6 * (cl + 14)) (by omega) (by omega) ?_
                    exact kb_L_errors_507 (R385 := (14 + n * 34)) hl0 hI C0 hK hT hN ih9 n43 σ42 v1 v3 v4 v5 (0 : Int32) v7 x25 (0 : Int32) hq (cl + 14) (by omega) H locs hP hS ls (lv_sub hl [3, 4, 5, 6, 7, 1, 8, 2, 0] rfl)
                  · have hq := hq.1 hc
                    refine lv_iconst (v := 1) hx hb dL_errors_497 (by decide) ?_
                    refine lv_goto (tgt := 502) hx hb dL_errors_498 (by decide) ?_
                    refine lv_istore (lv' := [(6, .int (1 : Int32)), (8, .int x25), (0, .ref (ka_a G (22, 0, 0))), (1, .long v1), (3, .int v3), (4, .int v4), (5, .int v5), (7, .int v7)]) hx hb dL_errors_502 hl (by decide) rfl (fun ls hl => ?_)
                    refine lv_iconst (v := 0) hx hb dL_errors_504 (by decide) ?_
                    refine lv_istore (lv' := [(9, .int (0 : Int32)), (6, .int (1 : Int32)), (8, .int x25), (0, .ref (ka_a G (22, 0, 0))), (1, .long v1), (3, .int v3), (4, .int v4), (5, .int v5), (7, .int v7)]) hx hb dL_errors_505 hl (by decide) rfl (fun ls hl => ?_)
                    obtain ⟨n44, hn44, hq⟩ := hq
                    refine W.widen (k := (cl + 14)) (n := 6 * (cl + 14)) (by omega) (by omega) ?_
                    exact kb_L_errors_507 (R385 := (14 + n * 34)) hl0 hI C0 hK hT hN ih9 n44 σ42 v1 v3 v4 v5 (1 : Int32) v7 x25 (0 : Int32) hq (cl + 14) (by omega) H locs hP hS ls (lv_sub hl [3, 4, 5, 6, 7, 1, 8, 2, 0] rfl)
def kw_L_errors_296 (Q : Int32 → ka_S → Prop) (σ : ka_S) (v1 : Int64) (v3 : Int32) (v4 : Int32) (v5 : Int32) : Prop := kw_L_learn σ v3 (0 : Int32) (fun r108 σ109 =>
  (r108 = (-9000000000000000001 : Int64) → kw_L_forget σ109 v4 (fun r111 σ112 =>
    (r111 = (-9000000000000000001 : Int64) → kw_L_gap σ112 (-1 : Int32) (fun r114 σ115 =>
      (r114 = (-9000000000000000002 : Int64) → kw_L_widthFor σ115 (100 : Int32) (fun r117 σ118 =>
        (r117 = (-9000000000000000002 : Int64) → kw_L_rowsWith σ118 (61 : Int32) (0 : Int32) (fun r120 σ121 =>
          (r120 = (-9000000000000000002 : Int64) → kw_L_rowsWith σ121 (10 : Int32) (-1 : Int32) (fun r123 σ124 =>
            (r123 = (-9000000000000000002 : Int64) → ∃ n126 : Nat, n126 ≤ 13 ∧ kw_L_errors_385 Q n126 σ124 v1 v3 v4 v5 (1 : Int32) (0 : Int32)) ∧
            (¬ r123 = (-9000000000000000002 : Int64) → ∃ n125 : Nat, n125 ≤ 13 ∧ kw_L_errors_385 Q n125 σ124 v1 v3 v4 v5 (0 : Int32) (0 : Int32)))) ∧
          (¬ r120 = (-9000000000000000002 : Int64) → ∃ n122 : Nat, n122 ≤ 13 ∧ kw_L_errors_385 Q n122 σ121 v1 v3 v4 v5 (0 : Int32) (0 : Int32)))) ∧
        (¬ r117 = (-9000000000000000002 : Int64) → ∃ n119 : Nat, n119 ≤ 13 ∧ kw_L_errors_385 Q n119 σ118 v1 v3 v4 v5 (0 : Int32) (0 : Int32)))) ∧
      (¬ r114 = (-9000000000000000002 : Int64) → ∃ n116 : Nat, n116 ≤ 13 ∧ kw_L_errors_385 Q n116 σ115 v1 v3 v4 v5 (0 : Int32) (0 : Int32)))) ∧
    (¬ r111 = (-9000000000000000001 : Int64) → ∃ n113 : Nat, n113 ≤ 13 ∧ kw_L_errors_385 Q n113 σ112 v1 v3 v4 v5 (0 : Int32) (0 : Int32)))) ∧
  (¬ r108 = (-9000000000000000001 : Int64) → ∃ n110 : Nat, n110 ≤ 13 ∧ kw_L_errors_385 Q n110 σ109 v1 v3 v4 v5 (0 : Int32) (0 : Int32)))
set_option maxHeartbeats 4000000 in
set_option maxRecDepth 100000 in
theorem kb_L_errors_296 {p : Program} {l : Launch} {e : Env} {s : State} {m : MethodId} {below : List Frame} {meth : Method} {c : Code} {G : ka_G} {args : Array Value} (hl0 : l.stackTraces = false) (hI : ka_I G) (C0 : ka_C p s m args meth c cL_errors 10 "GlossRowsLaw" (some .boolean)) (hK : ka_Kn G s) (hT : ka_T9 (ka_A G) s) (hN : kl_Nc s) {Q : Int32 → ka_S → Prop} : ∀ (σ : ka_S) (v1 : Int64) (v3 : Int32) (v4 : Int32) (v5 : Int32), kw_L_errors_296 Q σ v1 v3 v4 v5 → ∀ (cl : Nat), cl + 463 ≤ 493 → ∀ (H : Heap) (locs : List Loc), ka_P G σ H → va_S (ka_A G) s.heap H locs → ∀ ls : Array Slot, lv_has ls 10 [(0, .ref (ka_a G (22, 0, 0))), (1, .long v1), (3, .int v3), (4, .int v4), (5, .int v5)] → W p l e rm_L_errors s m args below meth c H locs cl (6 * cl) (MQ below (va_Qi Q (ka_B G) (ka_A G)) args s 493 2958 (ka_A G)) (F0 m 296 ls []) := by
  obtain ⟨hx, hb, -, hml, hown, hts, -⟩ := id C0
  intro σ v1 v3 v4 v5 hq cl hcl H locs hP hS ls hl
  unfold kw_L_errors_296 at hq
  refine lv_aload_n hx hb dL_errors_296 rfl (lv_at hl 0 rfl) ?_
  refine lv_iload_n hx hb dL_errors_297 rfl (lv_at hl 2 rfl) ?_
  refine lv_iconst (v := 0) hx hb dL_errors_298 (by decide) ?_
  refine kj_Wl (As := [.ref (ka_a G (22, 0, 0)), .int v3, .int (0 : Int32)]) (rest := []) C0 hK hT hN hP hS (fun _ h => h) hl (km_L_learn l hl0 hI hq) kd_L_learn kq_931 ⟨rfl, rfl, Nat.le_of_ble_eq_true rfl, Nat.le_of_ble_eq_true rfl⟩ rfl (Nat.le_of_ble_eq_true rfl) dL_errors_299 ⟨by show _ ≤ 493; omega, by show _ ≤ 2958; omega⟩ (fun r108 σ109 H locs hq hP hkp hS => ?_)
  refine lv_ldc2 hx hb hown (hts _ kq_461) dL_errors_302 ?_
  refine kr_cne (tgt := 379) C0 dL_errors_305 dL_errors_306 (by decide) (fun hc => ?_) (fun hc => ?_)
  · have hq := hq.2 hc
    refine lv_iconst (v := 0) hx hb dL_errors_379 (by decide) ?_
    refine lv_istore (lv' := [(6, .int (0 : Int32)), (0, .ref (ka_a G (22, 0, 0))), (1, .long v1), (3, .int v3), (4, .int v4), (5, .int v5)]) hx hb dL_errors_380 hl (by decide) rfl (fun ls hl => ?_)
    refine lv_iconst (v := 0) hx hb dL_errors_382 (by decide) ?_
    refine lv_istore (lv' := [(7, .int (0 : Int32)), (6, .int (0 : Int32)), (0, .ref (ka_a G (22, 0, 0))), (1, .long v1), (3, .int v3), (4, .int v4), (5, .int v5)]) hx hb dL_errors_383 hl (by decide) rfl (fun ls hl => ?_)
    obtain ⟨n110, hn110, hq⟩ := hq
    refine W.widen (k := (cl + 2)) (n := 6 * (cl + 2)) (by omega) (by omega) ?_
    exact kb_L_errors_385 hl0 hI C0 hK hT hN n110 σ109 v1 v3 v4 v5 (0 : Int32) (0 : Int32) hq (cl + 2) (by omega) H locs hP hS ls (lv_sub hl [2, 3, 4, 5, 6, 1, 0] rfl)
  · have hq := hq.1 hc
    refine lv_aload_n hx hb dL_errors_309 rfl (lv_at hl 0 rfl) ?_
    refine lv_iload hx hb dL_errors_310 (lv_at hl 3 rfl) ?_
    refine kj_Wl (As := [.ref (ka_a G (22, 0, 0)), .int v4]) (rest := []) C0 hK hT hN hP hS (fun _ h => h) hl (km_L_forget l hl0 hI hq) kd_L_forget kq_939 ⟨rfl, rfl, Nat.le_of_ble_eq_true rfl, Nat.le_of_ble_eq_true rfl⟩ rfl (Nat.le_of_ble_eq_true rfl) dL_errors_312 ⟨by show _ ≤ 493; omega, by show _ ≤ 2958; omega⟩ (fun r111 σ112 H locs hq hP hkp hS => ?_)
    refine lv_ldc2 hx hb hown (hts _ kq_461) dL_errors_315 ?_
    refine kr_cne (tgt := 379) C0 dL_errors_318 dL_errors_319 (by decide) (fun hc => ?_) (fun hc => ?_)
    · have hq := hq.2 hc
      refine lv_iconst (v := 0) hx hb dL_errors_379 (by decide) ?_
      refine lv_istore (lv' := [(6, .int (0 : Int32)), (0, .ref (ka_a G (22, 0, 0))), (1, .long v1), (3, .int v3), (4, .int v4), (5, .int v5)]) hx hb dL_errors_380 hl (by decide) rfl (fun ls hl => ?_)
      refine lv_iconst (v := 0) hx hb dL_errors_382 (by decide) ?_
      refine lv_istore (lv' := [(7, .int (0 : Int32)), (6, .int (0 : Int32)), (0, .ref (ka_a G (22, 0, 0))), (1, .long v1), (3, .int v3), (4, .int v4), (5, .int v5)]) hx hb dL_errors_383 hl (by decide) rfl (fun ls hl => ?_)
      obtain ⟨n113, hn113, hq⟩ := hq
      refine W.widen (k := (cl + 3)) (n := 6 * (cl + 3)) (by omega) (by omega) ?_
      exact kb_L_errors_385 hl0 hI C0 hK hT hN n113 σ112 v1 v3 v4 v5 (0 : Int32) (0 : Int32) hq (cl + 3) (by omega) H locs hP hS ls (lv_sub hl [2, 3, 4, 5, 6, 1, 0] rfl)
    · have hq := hq.1 hc
      refine lv_aload_n hx hb dL_errors_322 rfl (lv_at hl 0 rfl) ?_
      refine lv_iconst (v := -1) hx hb dL_errors_323 (by decide) ?_
      refine kj_Wl (As := [.ref (ka_a G (22, 0, 0)), .int (-1 : Int32)]) (rest := []) C0 hK hT hN hP hS (fun _ h => h) hl (km_L_gap l hl0 hI hq) kd_L_gap kq_636 ⟨rfl, rfl, Nat.le_of_ble_eq_true rfl, Nat.le_of_ble_eq_true rfl⟩ rfl (Nat.le_of_ble_eq_true rfl) dL_errors_324 ⟨by show _ ≤ 493; omega, by show _ ≤ 2958; omega⟩ (fun r114 σ115 H locs hq hP hkp hS => ?_)
      refine lv_ldc2 hx hb hown (hts _ kq_558) dL_errors_327 ?_
      refine kr_cne (tgt := 379) C0 dL_errors_330 dL_errors_331 (by decide) (fun hc => ?_) (fun hc => ?_)
      · have hq := hq.2 hc
        refine lv_iconst (v := 0) hx hb dL_errors_379 (by decide) ?_
        refine lv_istore (lv' := [(6, .int (0 : Int32)), (0, .ref (ka_a G (22, 0, 0))), (1, .long v1), (3, .int v3), (4, .int v4), (5, .int v5)]) hx hb dL_errors_380 hl (by decide) rfl (fun ls hl => ?_)
        refine lv_iconst (v := 0) hx hb dL_errors_382 (by decide) ?_
        refine lv_istore (lv' := [(7, .int (0 : Int32)), (6, .int (0 : Int32)), (0, .ref (ka_a G (22, 0, 0))), (1, .long v1), (3, .int v3), (4, .int v4), (5, .int v5)]) hx hb dL_errors_383 hl (by decide) rfl (fun ls hl => ?_)
        obtain ⟨n116, hn116, hq⟩ := hq
        refine W.widen (k := (cl + 4)) (n := 6 * (cl + 4)) (by omega) (by omega) ?_
        exact kb_L_errors_385 hl0 hI C0 hK hT hN n116 σ115 v1 v3 v4 v5 (0 : Int32) (0 : Int32) hq (cl + 4) (by omega) H locs hP hS ls (lv_sub hl [2, 3, 4, 5, 6, 1, 0] rfl)
      · have hq := hq.1 hc
        refine lv_aload_n hx hb dL_errors_334 rfl (lv_at hl 0 rfl) ?_
        refine lv_bipush (v := 100) hx hb dL_errors_335 (by decide) ?_
        refine kj_Wl (As := [.ref (ka_a G (22, 0, 0)), .int (100 : Int32)]) (rest := []) C0 hK hT hN hP hS (fun _ h => h) hl (km_L_widthFor l hl0 hI hq) kd_L_widthFor kq_659 ⟨rfl, rfl, Nat.le_of_ble_eq_true rfl, Nat.le_of_ble_eq_true rfl⟩ rfl (Nat.le_of_ble_eq_true rfl) dL_errors_337 ⟨by show _ ≤ 493; omega, by show _ ≤ 2958; omega⟩ (fun r117 σ118 H locs hq hP hkp hS => ?_)
        refine lv_ldc2 hx hb hown (hts _ kq_558) dL_errors_340 ?_
        refine kr_cne (tgt := 379) C0 dL_errors_343 dL_errors_344 (by decide) (fun hc => ?_) (fun hc => ?_)
        · have hq := hq.2 hc
          refine lv_iconst (v := 0) hx hb dL_errors_379 (by decide) ?_
          refine lv_istore (lv' := [(6, .int (0 : Int32)), (0, .ref (ka_a G (22, 0, 0))), (1, .long v1), (3, .int v3), (4, .int v4), (5, .int v5)]) hx hb dL_errors_380 hl (by decide) rfl (fun ls hl => ?_)
          refine lv_iconst (v := 0) hx hb dL_errors_382 (by decide) ?_
          refine lv_istore (lv' := [(7, .int (0 : Int32)), (6, .int (0 : Int32)), (0, .ref (ka_a G (22, 0, 0))), (1, .long v1), (3, .int v3), (4, .int v4), (5, .int v5)]) hx hb dL_errors_383 hl (by decide) rfl (fun ls hl => ?_)
          obtain ⟨n119, hn119, hq⟩ := hq
          refine W.widen (k := (cl + 5)) (n := 6 * (cl + 5)) (by omega) (by omega) ?_
          exact kb_L_errors_385 hl0 hI C0 hK hT hN n119 σ118 v1 v3 v4 v5 (0 : Int32) (0 : Int32) hq (cl + 5) (by omega) H locs hP hS ls (lv_sub hl [2, 3, 4, 5, 6, 1, 0] rfl)
        · have hq := hq.1 hc
          refine lv_aload_n hx hb dL_errors_347 rfl (lv_at hl 0 rfl) ?_
          refine lv_bipush (v := 61) hx hb dL_errors_348 (by decide) ?_
          refine lv_iconst (v := 0) hx hb dL_errors_350 (by decide) ?_
          refine kj_Wl (As := [.ref (ka_a G (22, 0, 0)), .int (61 : Int32), .int (0 : Int32)]) (rest := []) C0 hK hT hN hP hS (fun _ h => h) hl (km_L_rowsWith l hl0 hI hq) kd_L_rowsWith kq_676 ⟨rfl, rfl, Nat.le_of_ble_eq_true rfl, Nat.le_of_ble_eq_true rfl⟩ rfl (Nat.le_of_ble_eq_true rfl) dL_errors_351 ⟨by show _ ≤ 493; omega, by show _ ≤ 2958; omega⟩ (fun r120 σ121 H locs hq hP hkp hS => ?_)
          refine lv_ldc2 hx hb hown (hts _ kq_558) dL_errors_354 ?_
          refine kr_cne (tgt := 379) C0 dL_errors_357 dL_errors_358 (by decide) (fun hc => ?_) (fun hc => ?_)
          · have hq := hq.2 hc
            refine lv_iconst (v := 0) hx hb dL_errors_379 (by decide) ?_
            refine lv_istore (lv' := [(6, .int (0 : Int32)), (0, .ref (ka_a G (22, 0, 0))), (1, .long v1), (3, .int v3), (4, .int v4), (5, .int v5)]) hx hb dL_errors_380 hl (by decide) rfl (fun ls hl => ?_)
            refine lv_iconst (v := 0) hx hb dL_errors_382 (by decide) ?_
            refine lv_istore (lv' := [(7, .int (0 : Int32)), (6, .int (0 : Int32)), (0, .ref (ka_a G (22, 0, 0))), (1, .long v1), (3, .int v3), (4, .int v4), (5, .int v5)]) hx hb dL_errors_383 hl (by decide) rfl (fun ls hl => ?_)
            obtain ⟨n122, hn122, hq⟩ := hq
            refine W.widen (k := (cl + 6)) (n := 6 * (cl + 6)) (by omega) (by omega) ?_
            exact kb_L_errors_385 hl0 hI C0 hK hT hN n122 σ121 v1 v3 v4 v5 (0 : Int32) (0 : Int32) hq (cl + 6) (by omega) H locs hP hS ls (lv_sub hl [2, 3, 4, 5, 6, 1, 0] rfl)
          · have hq := hq.1 hc
            refine lv_aload_n hx hb dL_errors_361 rfl (lv_at hl 0 rfl) ?_
            refine lv_bipush (v := 10) hx hb dL_errors_362 (by decide) ?_
            refine lv_iconst (v := -1) hx hb dL_errors_364 (by decide) ?_
            refine kj_Wl (As := [.ref (ka_a G (22, 0, 0)), .int (10 : Int32), .int (-1 : Int32)]) (rest := []) C0 hK hT hN hP hS (fun _ h => h) hl (km_L_rowsWith l hl0 hI hq) kd_L_rowsWith kq_676 ⟨rfl, rfl, Nat.le_of_ble_eq_true rfl, Nat.le_of_ble_eq_true rfl⟩ rfl (Nat.le_of_ble_eq_true rfl) dL_errors_365 ⟨by show _ ≤ 493; omega, by show _ ≤ 2958; omega⟩ (fun r123 σ124 H locs hq hP hkp hS => ?_)
            refine lv_ldc2 hx hb hown (hts _ kq_558) dL_errors_368 ?_
            refine kr_cne (tgt := 379) C0 dL_errors_371 dL_errors_372 (by decide) (fun hc => ?_) (fun hc => ?_)
            · have hq := hq.2 hc
              refine lv_iconst (v := 0) hx hb dL_errors_379 (by decide) ?_
              refine lv_istore (lv' := [(6, .int (0 : Int32)), (0, .ref (ka_a G (22, 0, 0))), (1, .long v1), (3, .int v3), (4, .int v4), (5, .int v5)]) hx hb dL_errors_380 hl (by decide) rfl (fun ls hl => ?_)
              refine lv_iconst (v := 0) hx hb dL_errors_382 (by decide) ?_
              refine lv_istore (lv' := [(7, .int (0 : Int32)), (6, .int (0 : Int32)), (0, .ref (ka_a G (22, 0, 0))), (1, .long v1), (3, .int v3), (4, .int v4), (5, .int v5)]) hx hb dL_errors_383 hl (by decide) rfl (fun ls hl => ?_)
              obtain ⟨n125, hn125, hq⟩ := hq
              refine W.widen (k := (cl + 7)) (n := 6 * (cl + 7)) (by omega) (by omega) ?_
              exact kb_L_errors_385 hl0 hI C0 hK hT hN n125 σ124 v1 v3 v4 v5 (0 : Int32) (0 : Int32) hq (cl + 7) (by omega) H locs hP hS ls (lv_sub hl [2, 3, 4, 5, 6, 1, 0] rfl)
            · have hq := hq.1 hc
              refine lv_iconst (v := 1) hx hb dL_errors_375 (by decide) ?_
              refine lv_goto (tgt := 380) hx hb dL_errors_376 (by decide) ?_
              refine lv_istore (lv' := [(6, .int (1 : Int32)), (0, .ref (ka_a G (22, 0, 0))), (1, .long v1), (3, .int v3), (4, .int v4), (5, .int v5)]) hx hb dL_errors_380 hl (by decide) rfl (fun ls hl => ?_)
              refine lv_iconst (v := 0) hx hb dL_errors_382 (by decide) ?_
              refine lv_istore (lv' := [(7, .int (0 : Int32)), (6, .int (1 : Int32)), (0, .ref (ka_a G (22, 0, 0))), (1, .long v1), (3, .int v3), (4, .int v4), (5, .int v5)]) hx hb dL_errors_383 hl (by decide) rfl (fun ls hl => ?_)
              obtain ⟨n126, hn126, hq⟩ := hq
              refine W.widen (k := (cl + 7)) (n := 6 * (cl + 7)) (by omega) (by omega) ?_
              exact kb_L_errors_385 hl0 hI C0 hK hT hN n126 σ124 v1 v3 v4 v5 (1 : Int32) (0 : Int32) hq (cl + 7) (by omega) H locs hP hS ls (lv_sub hl [2, 3, 4, 5, 6, 1, 0] rfl)
def kw_L_errors_190 (Q : Int32 → ka_S → Prop) (σ : ka_S) (v1 : Int64) (v3 : Int32) (v4 : Int32) (v5 : Int32) : Prop := kw_L_end σ v3 (fun r82 σ83 =>
  (r82 = (-9000000000000000001 : Int64) → kw_L_join σ83 v3 (fun r85 σ86 =>
    (r85 = (-9000000000000000001 : Int64) → kw_L_setFree σ86 v3 (fun r88 σ89 =>
      (r88 = (-9000000000000000001 : Int64) → kw_L_setGloss σ89 v3 (0 : Int32) (fun r91 σ92 =>
        (r91 = (-9000000000000000001 : Int64) → kw_L_set σ92 (8 : Int32) (1 : Int32) (fun r94 σ95 =>
          (r94 = (-9000000000000000002 : Int64) → kw_L_set σ95 (9 : Int32) (9 : Int32) (fun r97 σ98 =>
            (r97 = (-9000000000000000002 : Int64) → kw_L_set σ98 (10 : Int32) (4 : Int32) (fun r100 σ101 =>
              (r100 = (-9000000000000000002 : Int64) → kw_L_set σ101 (11 : Int32) (2 : Int32) (fun r103 σ104 =>
                (r103 = (-9000000000000000002 : Int64) → kw_L_errors_296 Q σ104 v1 v3 v4 v5) ∧
                (¬ r103 = (-9000000000000000002 : Int64) → ∃ n105 : Nat, n105 ≤ 13 ∧ kw_L_errors_385 Q n105 σ104 v1 v3 v4 v5 (0 : Int32) (0 : Int32)))) ∧
              (¬ r100 = (-9000000000000000002 : Int64) → ∃ n102 : Nat, n102 ≤ 13 ∧ kw_L_errors_385 Q n102 σ101 v1 v3 v4 v5 (0 : Int32) (0 : Int32)))) ∧
            (¬ r97 = (-9000000000000000002 : Int64) → ∃ n99 : Nat, n99 ≤ 13 ∧ kw_L_errors_385 Q n99 σ98 v1 v3 v4 v5 (0 : Int32) (0 : Int32)))) ∧
          (¬ r94 = (-9000000000000000002 : Int64) → ∃ n96 : Nat, n96 ≤ 13 ∧ kw_L_errors_385 Q n96 σ95 v1 v3 v4 v5 (0 : Int32) (0 : Int32)))) ∧
        (¬ r91 = (-9000000000000000001 : Int64) → ∃ n93 : Nat, n93 ≤ 13 ∧ kw_L_errors_385 Q n93 σ92 v1 v3 v4 v5 (0 : Int32) (0 : Int32)))) ∧
      (¬ r88 = (-9000000000000000001 : Int64) → ∃ n90 : Nat, n90 ≤ 13 ∧ kw_L_errors_385 Q n90 σ89 v1 v3 v4 v5 (0 : Int32) (0 : Int32)))) ∧
    (¬ r85 = (-9000000000000000001 : Int64) → ∃ n87 : Nat, n87 ≤ 13 ∧ kw_L_errors_385 Q n87 σ86 v1 v3 v4 v5 (0 : Int32) (0 : Int32)))) ∧
  (¬ r82 = (-9000000000000000001 : Int64) → ∃ n84 : Nat, n84 ≤ 13 ∧ kw_L_errors_385 Q n84 σ83 v1 v3 v4 v5 (0 : Int32) (0 : Int32)))
set_option maxHeartbeats 4000000 in
set_option maxRecDepth 100000 in
theorem kb_L_errors_190 {p : Program} {l : Launch} {e : Env} {s : State} {m : MethodId} {below : List Frame} {meth : Method} {c : Code} {G : ka_G} {args : Array Value} (hl0 : l.stackTraces = false) (hI : ka_I G) (C0 : ka_C p s m args meth c cL_errors 10 "GlossRowsLaw" (some .boolean)) (hK : ka_Kn G s) (hT : ka_T9 (ka_A G) s) (hN : kl_Nc s) {Q : Int32 → ka_S → Prop} : ∀ (σ : ka_S) (v1 : Int64) (v3 : Int32) (v4 : Int32) (v5 : Int32), kw_L_errors_190 Q σ v1 v3 v4 v5 → ∀ (cl : Nat), cl + 473 ≤ 493 → ∀ (H : Heap) (locs : List Loc), ka_P G σ H → va_S (ka_A G) s.heap H locs → ∀ ls : Array Slot, lv_has ls 10 [(0, .ref (ka_a G (22, 0, 0))), (1, .long v1), (3, .int v3), (4, .int v4), (5, .int v5)] → W p l e rm_L_errors s m args below meth c H locs cl (6 * cl) (MQ below (va_Qi Q (ka_B G) (ka_A G)) args s 493 2958 (ka_A G)) (F0 m 190 ls []) := by
  obtain ⟨hx, hb, -, hml, hown, hts, -⟩ := id C0
  intro σ v1 v3 v4 v5 hq cl hcl H locs hP hS ls hl
  unfold kw_L_errors_190 at hq
  refine lv_aload_n hx hb dL_errors_190 rfl (lv_at hl 0 rfl) ?_
  refine lv_iload_n hx hb dL_errors_191 rfl (lv_at hl 2 rfl) ?_
  refine kj_Wl (As := [.ref (ka_a G (22, 0, 0)), .int v3]) (rest := []) C0 hK hT hN hP hS (fun _ h => h) hl (km_L_end l hl0 hI hq) kd_L_end kq_874 ⟨rfl, rfl, Nat.le_of_ble_eq_true rfl, Nat.le_of_ble_eq_true rfl⟩ rfl (Nat.le_of_ble_eq_true rfl) dL_errors_192 ⟨by show _ ≤ 493; omega, by show _ ≤ 2958; omega⟩ (fun r82 σ83 H locs hq hP hkp hS => ?_)
  refine lv_ldc2 hx hb hown (hts _ kq_461) dL_errors_195 ?_
  refine kr_cne (tgt := 379) C0 dL_errors_198 dL_errors_199 (by decide) (fun hc => ?_) (fun hc => ?_)
  · have hq := hq.2 hc
    refine lv_iconst (v := 0) hx hb dL_errors_379 (by decide) ?_
    refine lv_istore (lv' := [(6, .int (0 : Int32)), (0, .ref (ka_a G (22, 0, 0))), (1, .long v1), (3, .int v3), (4, .int v4), (5, .int v5)]) hx hb dL_errors_380 hl (by decide) rfl (fun ls hl => ?_)
    refine lv_iconst (v := 0) hx hb dL_errors_382 (by decide) ?_
    refine lv_istore (lv' := [(7, .int (0 : Int32)), (6, .int (0 : Int32)), (0, .ref (ka_a G (22, 0, 0))), (1, .long v1), (3, .int v3), (4, .int v4), (5, .int v5)]) hx hb dL_errors_383 hl (by decide) rfl (fun ls hl => ?_)
    obtain ⟨n84, hn84, hq⟩ := hq
    refine W.widen (k := (cl + 1)) (n := 6 * (cl + 1)) (by omega) (by omega) ?_
    exact kb_L_errors_385 hl0 hI C0 hK hT hN n84 σ83 v1 v3 v4 v5 (0 : Int32) (0 : Int32) hq (cl + 1) (by omega) H locs hP hS ls (lv_sub hl [2, 3, 4, 5, 6, 1, 0] rfl)
  · have hq := hq.1 hc
    refine lv_aload_n hx hb dL_errors_202 rfl (lv_at hl 0 rfl) ?_
    refine lv_iload_n hx hb dL_errors_203 rfl (lv_at hl 2 rfl) ?_
    refine kj_Wl (As := [.ref (ka_a G (22, 0, 0)), .int v3]) (rest := []) C0 hK hT hN hP hS (fun _ h => h) hl (km_L_join l hl0 hI hq) kd_L_join kq_881 ⟨rfl, rfl, Nat.le_of_ble_eq_true rfl, Nat.le_of_ble_eq_true rfl⟩ rfl (Nat.le_of_ble_eq_true rfl) dL_errors_204 ⟨by show _ ≤ 493; omega, by show _ ≤ 2958; omega⟩ (fun r85 σ86 H locs hq hP hkp hS => ?_)
    refine lv_ldc2 hx hb hown (hts _ kq_461) dL_errors_207 ?_
    refine kr_cne (tgt := 379) C0 dL_errors_210 dL_errors_211 (by decide) (fun hc => ?_) (fun hc => ?_)
    · have hq := hq.2 hc
      refine lv_iconst (v := 0) hx hb dL_errors_379 (by decide) ?_
      refine lv_istore (lv' := [(6, .int (0 : Int32)), (0, .ref (ka_a G (22, 0, 0))), (1, .long v1), (3, .int v3), (4, .int v4), (5, .int v5)]) hx hb dL_errors_380 hl (by decide) rfl (fun ls hl => ?_)
      refine lv_iconst (v := 0) hx hb dL_errors_382 (by decide) ?_
      refine lv_istore (lv' := [(7, .int (0 : Int32)), (6, .int (0 : Int32)), (0, .ref (ka_a G (22, 0, 0))), (1, .long v1), (3, .int v3), (4, .int v4), (5, .int v5)]) hx hb dL_errors_383 hl (by decide) rfl (fun ls hl => ?_)
      obtain ⟨n87, hn87, hq⟩ := hq
      refine W.widen (k := (cl + 2)) (n := 6 * (cl + 2)) (by omega) (by omega) ?_
      exact kb_L_errors_385 hl0 hI C0 hK hT hN n87 σ86 v1 v3 v4 v5 (0 : Int32) (0 : Int32) hq (cl + 2) (by omega) H locs hP hS ls (lv_sub hl [2, 3, 4, 5, 6, 1, 0] rfl)
    · have hq := hq.1 hc
      refine lv_aload_n hx hb dL_errors_214 rfl (lv_at hl 0 rfl) ?_
      refine lv_iload_n hx hb dL_errors_215 rfl (lv_at hl 2 rfl) ?_
      refine kj_Wl (As := [.ref (ka_a G (22, 0, 0)), .int v3]) (rest := []) C0 hK hT hN hP hS (fun _ h => h) hl (km_L_setFree l hl0 hI hq) kd_L_setFree kq_888 ⟨rfl, rfl, Nat.le_of_ble_eq_true rfl, Nat.le_of_ble_eq_true rfl⟩ rfl (Nat.le_of_ble_eq_true rfl) dL_errors_216 ⟨by show _ ≤ 493; omega, by show _ ≤ 2958; omega⟩ (fun r88 σ89 H locs hq hP hkp hS => ?_)
      refine lv_ldc2 hx hb hown (hts _ kq_461) dL_errors_219 ?_
      refine kr_cne (tgt := 379) C0 dL_errors_222 dL_errors_223 (by decide) (fun hc => ?_) (fun hc => ?_)
      · have hq := hq.2 hc
        refine lv_iconst (v := 0) hx hb dL_errors_379 (by decide) ?_
        refine lv_istore (lv' := [(6, .int (0 : Int32)), (0, .ref (ka_a G (22, 0, 0))), (1, .long v1), (3, .int v3), (4, .int v4), (5, .int v5)]) hx hb dL_errors_380 hl (by decide) rfl (fun ls hl => ?_)
        refine lv_iconst (v := 0) hx hb dL_errors_382 (by decide) ?_
        refine lv_istore (lv' := [(7, .int (0 : Int32)), (6, .int (0 : Int32)), (0, .ref (ka_a G (22, 0, 0))), (1, .long v1), (3, .int v3), (4, .int v4), (5, .int v5)]) hx hb dL_errors_383 hl (by decide) rfl (fun ls hl => ?_)
        obtain ⟨n90, hn90, hq⟩ := hq
        refine W.widen (k := (cl + 4)) (n := 6 * (cl + 4)) (by omega) (by omega) ?_
        exact kb_L_errors_385 hl0 hI C0 hK hT hN n90 σ89 v1 v3 v4 v5 (0 : Int32) (0 : Int32) hq (cl + 4) (by omega) H locs hP hS ls (lv_sub hl [2, 3, 4, 5, 6, 1, 0] rfl)
      · have hq := hq.1 hc
        refine lv_aload_n hx hb dL_errors_226 rfl (lv_at hl 0 rfl) ?_
        refine lv_iload_n hx hb dL_errors_227 rfl (lv_at hl 2 rfl) ?_
        refine lv_iconst (v := 0) hx hb dL_errors_228 (by decide) ?_
        refine kj_Wl (As := [.ref (ka_a G (22, 0, 0)), .int v3, .int (0 : Int32)]) (rest := []) C0 hK hT hN hP hS (fun _ h => h) hl (km_L_setGloss l hl0 hI hq) kd_L_setGloss kq_905 ⟨rfl, rfl, Nat.le_of_ble_eq_true rfl, Nat.le_of_ble_eq_true rfl⟩ rfl (Nat.le_of_ble_eq_true rfl) dL_errors_229 ⟨by show _ ≤ 493; omega, by show _ ≤ 2958; omega⟩ (fun r91 σ92 H locs hq hP hkp hS => ?_)
        refine lv_ldc2 hx hb hown (hts _ kq_461) dL_errors_232 ?_
        refine kr_cne (tgt := 379) C0 dL_errors_235 dL_errors_236 (by decide) (fun hc => ?_) (fun hc => ?_)
        · have hq := hq.2 hc
          refine lv_iconst (v := 0) hx hb dL_errors_379 (by decide) ?_
          refine lv_istore (lv' := [(6, .int (0 : Int32)), (0, .ref (ka_a G (22, 0, 0))), (1, .long v1), (3, .int v3), (4, .int v4), (5, .int v5)]) hx hb dL_errors_380 hl (by decide) rfl (fun ls hl => ?_)
          refine lv_iconst (v := 0) hx hb dL_errors_382 (by decide) ?_
          refine lv_istore (lv' := [(7, .int (0 : Int32)), (6, .int (0 : Int32)), (0, .ref (ka_a G (22, 0, 0))), (1, .long v1), (3, .int v3), (4, .int v4), (5, .int v5)]) hx hb dL_errors_383 hl (by decide) rfl (fun ls hl => ?_)
          obtain ⟨n93, hn93, hq⟩ := hq
          refine W.widen (k := (cl + 6)) (n := 6 * (cl + 6)) (by omega) (by omega) ?_
          exact kb_L_errors_385 hl0 hI C0 hK hT hN n93 σ92 v1 v3 v4 v5 (0 : Int32) (0 : Int32) hq (cl + 6) (by omega) H locs hP hS ls (lv_sub hl [2, 3, 4, 5, 6, 1, 0] rfl)
        · have hq := hq.1 hc
          refine lv_aload_n hx hb dL_errors_239 rfl (lv_at hl 0 rfl) ?_
          refine lv_bipush (v := 8) hx hb dL_errors_240 (by decide) ?_
          refine lv_iconst (v := 1) hx hb dL_errors_242 (by decide) ?_
          refine kj_Wl (As := [.ref (ka_a G (22, 0, 0)), .int (8 : Int32), .int (1 : Int32)]) (rest := []) C0 hK hT hN hP hS (fun _ h => h) hl (km_L_set l hl0 hI hq) kd_L_set kq_923 ⟨rfl, rfl, Nat.le_of_ble_eq_true rfl, Nat.le_of_ble_eq_true rfl⟩ rfl (Nat.le_of_ble_eq_true rfl) dL_errors_243 ⟨by show _ ≤ 493; omega, by show _ ≤ 2958; omega⟩ (fun r94 σ95 H locs hq hP hkp hS => ?_)
          refine lv_ldc2 hx hb hown (hts _ kq_558) dL_errors_246 ?_
          refine kr_cne (tgt := 379) C0 dL_errors_249 dL_errors_250 (by decide) (fun hc => ?_) (fun hc => ?_)
          · have hq := hq.2 hc
            refine lv_iconst (v := 0) hx hb dL_errors_379 (by decide) ?_
            refine lv_istore (lv' := [(6, .int (0 : Int32)), (0, .ref (ka_a G (22, 0, 0))), (1, .long v1), (3, .int v3), (4, .int v4), (5, .int v5)]) hx hb dL_errors_380 hl (by decide) rfl (fun ls hl => ?_)
            refine lv_iconst (v := 0) hx hb dL_errors_382 (by decide) ?_
            refine lv_istore (lv' := [(7, .int (0 : Int32)), (6, .int (0 : Int32)), (0, .ref (ka_a G (22, 0, 0))), (1, .long v1), (3, .int v3), (4, .int v4), (5, .int v5)]) hx hb dL_errors_383 hl (by decide) rfl (fun ls hl => ?_)
            obtain ⟨n96, hn96, hq⟩ := hq
            refine W.widen (k := (cl + 7)) (n := 6 * (cl + 7)) (by omega) (by omega) ?_
            exact kb_L_errors_385 hl0 hI C0 hK hT hN n96 σ95 v1 v3 v4 v5 (0 : Int32) (0 : Int32) hq (cl + 7) (by omega) H locs hP hS ls (lv_sub hl [2, 3, 4, 5, 6, 1, 0] rfl)
          · have hq := hq.1 hc
            refine lv_aload_n hx hb dL_errors_253 rfl (lv_at hl 0 rfl) ?_
            refine lv_bipush (v := 9) hx hb dL_errors_254 (by decide) ?_
            refine lv_bipush (v := 9) hx hb dL_errors_256 (by decide) ?_
            refine kj_Wl (As := [.ref (ka_a G (22, 0, 0)), .int (9 : Int32), .int (9 : Int32)]) (rest := []) C0 hK hT hN hP hS (fun _ h => h) hl (km_L_set l hl0 hI hq) kd_L_set kq_923 ⟨rfl, rfl, Nat.le_of_ble_eq_true rfl, Nat.le_of_ble_eq_true rfl⟩ rfl (Nat.le_of_ble_eq_true rfl) dL_errors_258 ⟨by show _ ≤ 493; omega, by show _ ≤ 2958; omega⟩ (fun r97 σ98 H locs hq hP hkp hS => ?_)
            refine lv_ldc2 hx hb hown (hts _ kq_558) dL_errors_261 ?_
            refine kr_cne (tgt := 379) C0 dL_errors_264 dL_errors_265 (by decide) (fun hc => ?_) (fun hc => ?_)
            · have hq := hq.2 hc
              refine lv_iconst (v := 0) hx hb dL_errors_379 (by decide) ?_
              refine lv_istore (lv' := [(6, .int (0 : Int32)), (0, .ref (ka_a G (22, 0, 0))), (1, .long v1), (3, .int v3), (4, .int v4), (5, .int v5)]) hx hb dL_errors_380 hl (by decide) rfl (fun ls hl => ?_)
              refine lv_iconst (v := 0) hx hb dL_errors_382 (by decide) ?_
              refine lv_istore (lv' := [(7, .int (0 : Int32)), (6, .int (0 : Int32)), (0, .ref (ka_a G (22, 0, 0))), (1, .long v1), (3, .int v3), (4, .int v4), (5, .int v5)]) hx hb dL_errors_383 hl (by decide) rfl (fun ls hl => ?_)
              obtain ⟨n99, hn99, hq⟩ := hq
              refine W.widen (k := (cl + 8)) (n := 6 * (cl + 8)) (by omega) (by omega) ?_
              exact kb_L_errors_385 hl0 hI C0 hK hT hN n99 σ98 v1 v3 v4 v5 (0 : Int32) (0 : Int32) hq (cl + 8) (by omega) H locs hP hS ls (lv_sub hl [2, 3, 4, 5, 6, 1, 0] rfl)
            · have hq := hq.1 hc
              refine lv_aload_n hx hb dL_errors_268 rfl (lv_at hl 0 rfl) ?_
              refine lv_bipush (v := 10) hx hb dL_errors_269 (by decide) ?_
              refine lv_iconst (v := 4) hx hb dL_errors_271 (by decide) ?_
              refine kj_Wl (As := [.ref (ka_a G (22, 0, 0)), .int (10 : Int32), .int (4 : Int32)]) (rest := []) C0 hK hT hN hP hS (fun _ h => h) hl (km_L_set l hl0 hI hq) kd_L_set kq_923 ⟨rfl, rfl, Nat.le_of_ble_eq_true rfl, Nat.le_of_ble_eq_true rfl⟩ rfl (Nat.le_of_ble_eq_true rfl) dL_errors_272 ⟨by show _ ≤ 493; omega, by show _ ≤ 2958; omega⟩ (fun r100 σ101 H locs hq hP hkp hS => ?_)
              refine lv_ldc2 hx hb hown (hts _ kq_558) dL_errors_275 ?_
              refine kr_cne (tgt := 379) C0 dL_errors_278 dL_errors_279 (by decide) (fun hc => ?_) (fun hc => ?_)
              · have hq := hq.2 hc
                refine lv_iconst (v := 0) hx hb dL_errors_379 (by decide) ?_
                refine lv_istore (lv' := [(6, .int (0 : Int32)), (0, .ref (ka_a G (22, 0, 0))), (1, .long v1), (3, .int v3), (4, .int v4), (5, .int v5)]) hx hb dL_errors_380 hl (by decide) rfl (fun ls hl => ?_)
                refine lv_iconst (v := 0) hx hb dL_errors_382 (by decide) ?_
                refine lv_istore (lv' := [(7, .int (0 : Int32)), (6, .int (0 : Int32)), (0, .ref (ka_a G (22, 0, 0))), (1, .long v1), (3, .int v3), (4, .int v4), (5, .int v5)]) hx hb dL_errors_383 hl (by decide) rfl (fun ls hl => ?_)
                obtain ⟨n102, hn102, hq⟩ := hq
                refine W.widen (k := (cl + 9)) (n := 6 * (cl + 9)) (by omega) (by omega) ?_
                exact kb_L_errors_385 hl0 hI C0 hK hT hN n102 σ101 v1 v3 v4 v5 (0 : Int32) (0 : Int32) hq (cl + 9) (by omega) H locs hP hS ls (lv_sub hl [2, 3, 4, 5, 6, 1, 0] rfl)
              · have hq := hq.1 hc
                refine lv_aload_n hx hb dL_errors_282 rfl (lv_at hl 0 rfl) ?_
                refine lv_bipush (v := 11) hx hb dL_errors_283 (by decide) ?_
                refine lv_iconst (v := 2) hx hb dL_errors_285 (by decide) ?_
                refine kj_Wl (As := [.ref (ka_a G (22, 0, 0)), .int (11 : Int32), .int (2 : Int32)]) (rest := []) C0 hK hT hN hP hS (fun _ h => h) hl (km_L_set l hl0 hI hq) kd_L_set kq_923 ⟨rfl, rfl, Nat.le_of_ble_eq_true rfl, Nat.le_of_ble_eq_true rfl⟩ rfl (Nat.le_of_ble_eq_true rfl) dL_errors_286 ⟨by show _ ≤ 493; omega, by show _ ≤ 2958; omega⟩ (fun r103 σ104 H locs hq hP hkp hS => ?_)
                refine lv_ldc2 hx hb hown (hts _ kq_558) dL_errors_289 ?_
                refine kr_cne (tgt := 379) C0 dL_errors_292 dL_errors_293 (by decide) (fun hc => ?_) (fun hc => ?_)
                · have hq := hq.2 hc
                  refine lv_iconst (v := 0) hx hb dL_errors_379 (by decide) ?_
                  refine lv_istore (lv' := [(6, .int (0 : Int32)), (0, .ref (ka_a G (22, 0, 0))), (1, .long v1), (3, .int v3), (4, .int v4), (5, .int v5)]) hx hb dL_errors_380 hl (by decide) rfl (fun ls hl => ?_)
                  refine lv_iconst (v := 0) hx hb dL_errors_382 (by decide) ?_
                  refine lv_istore (lv' := [(7, .int (0 : Int32)), (6, .int (0 : Int32)), (0, .ref (ka_a G (22, 0, 0))), (1, .long v1), (3, .int v3), (4, .int v4), (5, .int v5)]) hx hb dL_errors_383 hl (by decide) rfl (fun ls hl => ?_)
                  obtain ⟨n105, hn105, hq⟩ := hq
                  refine W.widen (k := (cl + 10)) (n := 6 * (cl + 10)) (by omega) (by omega) ?_
                  exact kb_L_errors_385 hl0 hI C0 hK hT hN n105 σ104 v1 v3 v4 v5 (0 : Int32) (0 : Int32) hq (cl + 10) (by omega) H locs hP hS ls (lv_sub hl [2, 3, 4, 5, 6, 1, 0] rfl)
                · have hq := hq.1 hc
                  refine W.widen (k := (cl + 10)) (n := 6 * (cl + 10)) (by omega) (by omega) ?_
                  exact kb_L_errors_296 hl0 hI C0 hK hT hN σ104 v1 v3 v4 v5 hq (cl + 10) (by omega) H locs hP hS ls (lv_sub hl [0, 1, 2, 3, 4] rfl)
def kw_L_errors_80 (Q : Int32 → ka_S → Prop) (σ : ka_S) (v1 : Int64) (v3 : Int32) (v4 : Int32) (v5 : Int32) : Prop := kw_L_part σ v3 (0 : Int32) (4 : Int32) (fun r45 σ46 =>
  (r45 = (-9000000000000000001 : Int64) → kw_L_letter σ46 (-1 : Int32) (0 : Int32) (1 : Int32) (-1 : Int32) (fun r48 σ49 =>
    (r48 = (-9000000000000000001 : Int64) → kw_L_entry σ49 v4 (0 : Int32) (-1 : Int32) (fun r51 σ52 =>
      (r51 = (-9000000000000000001 : Int64) → kw_L_row σ52 v5 (3 : Int32) (fun r54 σ55 =>
        (r54 = (-9000000000000000001 : Int64) → kw_L_at σ55 v5 (-1 : Int32) (fun r57 σ58 =>
          (r57 = (-9000000000000000001 : Int64) → kw_L_insert σ58 (v3 + (1 : Int32)) (fun r60 σ61 =>
            (r60 = (-9000000000000000001 : Int64) → kw_L_insert σ61 (-1 : Int32) (fun r63 σ64 =>
              (r63 = (-9000000000000000001 : Int64) → kw_L_remove σ64 v3 (fun r66 σ67 =>
                (r66 = (-9000000000000000001 : Int64) → kw_L_errors_190 Q σ67 v1 v3 v4 v5) ∧
                (¬ r66 = (-9000000000000000001 : Int64) → ∃ n68 : Nat, n68 ≤ 13 ∧ kw_L_errors_385 Q n68 σ67 v1 v3 v4 v5 (0 : Int32) (0 : Int32)))) ∧
              (¬ r63 = (-9000000000000000001 : Int64) → ∃ n65 : Nat, n65 ≤ 13 ∧ kw_L_errors_385 Q n65 σ64 v1 v3 v4 v5 (0 : Int32) (0 : Int32)))) ∧
            (¬ r60 = (-9000000000000000001 : Int64) → ∃ n62 : Nat, n62 ≤ 13 ∧ kw_L_errors_385 Q n62 σ61 v1 v3 v4 v5 (0 : Int32) (0 : Int32)))) ∧
          (¬ r57 = (-9000000000000000001 : Int64) → ∃ n59 : Nat, n59 ≤ 13 ∧ kw_L_errors_385 Q n59 σ58 v1 v3 v4 v5 (0 : Int32) (0 : Int32)))) ∧
        (¬ r54 = (-9000000000000000001 : Int64) → ∃ n56 : Nat, n56 ≤ 13 ∧ kw_L_errors_385 Q n56 σ55 v1 v3 v4 v5 (0 : Int32) (0 : Int32)))) ∧
      (¬ r51 = (-9000000000000000001 : Int64) → ∃ n53 : Nat, n53 ≤ 13 ∧ kw_L_errors_385 Q n53 σ52 v1 v3 v4 v5 (0 : Int32) (0 : Int32)))) ∧
    (¬ r48 = (-9000000000000000001 : Int64) → ∃ n50 : Nat, n50 ≤ 13 ∧ kw_L_errors_385 Q n50 σ49 v1 v3 v4 v5 (0 : Int32) (0 : Int32)))) ∧
  (¬ r45 = (-9000000000000000001 : Int64) → ∃ n47 : Nat, n47 ≤ 13 ∧ kw_L_errors_385 Q n47 σ46 v1 v3 v4 v5 (0 : Int32) (0 : Int32)))
set_option maxHeartbeats 4000000 in
set_option maxRecDepth 100000 in
theorem kb_L_errors_80 {p : Program} {l : Launch} {e : Env} {s : State} {m : MethodId} {below : List Frame} {meth : Method} {c : Code} {G : ka_G} {args : Array Value} (hl0 : l.stackTraces = false) (hI : ka_I G) (C0 : ka_C p s m args meth c cL_errors 10 "GlossRowsLaw" (some .boolean)) (hK : ka_Kn G s) (hT : ka_T9 (ka_A G) s) (hN : kl_Nc s) {Q : Int32 → ka_S → Prop} : ∀ (σ : ka_S) (v1 : Int64) (v3 : Int32) (v4 : Int32) (v5 : Int32), kw_L_errors_80 Q σ v1 v3 v4 v5 → ∀ (cl : Nat), cl + 486 ≤ 493 → ∀ (H : Heap) (locs : List Loc), ka_P G σ H → va_S (ka_A G) s.heap H locs → ∀ ls : Array Slot, lv_has ls 10 [(0, .ref (ka_a G (22, 0, 0))), (1, .long v1), (3, .int v3), (4, .int v4), (5, .int v5)] → W p l e rm_L_errors s m args below meth c H locs cl (6 * cl) (MQ below (va_Qi Q (ka_B G) (ka_A G)) args s 493 2958 (ka_A G)) (F0 m 80 ls []) := by
  obtain ⟨hx, hb, -, hml, hown, hts, -⟩ := id C0
  intro σ v1 v3 v4 v5 hq cl hcl H locs hP hS ls hl
  unfold kw_L_errors_80 at hq
  refine lv_aload_n hx hb dL_errors_80 rfl (lv_at hl 0 rfl) ?_
  refine lv_iload_n hx hb dL_errors_81 rfl (lv_at hl 2 rfl) ?_
  refine lv_iconst (v := 0) hx hb dL_errors_82 (by decide) ?_
  refine lv_iconst (v := 4) hx hb dL_errors_83 (by decide) ?_
  refine kj_Wl (As := [.ref (ka_a G (22, 0, 0)), .int v3, .int (0 : Int32), .int (4 : Int32)]) (rest := []) C0 hK hT hN hP hS (fun _ h => h) hl (km_L_part l hl0 hI hq) kd_L_part kq_609 ⟨rfl, rfl, Nat.le_of_ble_eq_true rfl, Nat.le_of_ble_eq_true rfl⟩ rfl (Nat.le_of_ble_eq_true rfl) dL_errors_84 ⟨by show _ ≤ 493; omega, by show _ ≤ 2958; omega⟩ (fun r45 σ46 H locs hq hP hkp hS => ?_)
  refine lv_ldc2 hx hb hown (hts _ kq_461) dL_errors_87 ?_
  refine kr_cne (tgt := 379) C0 dL_errors_90 dL_errors_91 (by decide) (fun hc => ?_) (fun hc => ?_)
  · have hq := hq.2 hc
    refine lv_iconst (v := 0) hx hb dL_errors_379 (by decide) ?_
    refine lv_istore (lv' := [(6, .int (0 : Int32)), (0, .ref (ka_a G (22, 0, 0))), (1, .long v1), (3, .int v3), (4, .int v4), (5, .int v5)]) hx hb dL_errors_380 hl (by decide) rfl (fun ls hl => ?_)
    refine lv_iconst (v := 0) hx hb dL_errors_382 (by decide) ?_
    refine lv_istore (lv' := [(7, .int (0 : Int32)), (6, .int (0 : Int32)), (0, .ref (ka_a G (22, 0, 0))), (1, .long v1), (3, .int v3), (4, .int v4), (5, .int v5)]) hx hb dL_errors_383 hl (by decide) rfl (fun ls hl => ?_)
    obtain ⟨n47, hn47, hq⟩ := hq
    refine W.widen (k := (cl + 2)) (n := 6 * (cl + 2)) (by omega) (by omega) ?_
    exact kb_L_errors_385 hl0 hI C0 hK hT hN n47 σ46 v1 v3 v4 v5 (0 : Int32) (0 : Int32) hq (cl + 2) (by omega) H locs hP hS ls (lv_sub hl [2, 3, 4, 5, 6, 1, 0] rfl)
  · have hq := hq.1 hc
    refine lv_aload_n hx hb dL_errors_94 rfl (lv_at hl 0 rfl) ?_
    refine lv_iconst (v := -1) hx hb dL_errors_95 (by decide) ?_
    refine lv_iconst (v := 0) hx hb dL_errors_96 (by decide) ?_
    refine lv_iconst (v := 1) hx hb dL_errors_97 (by decide) ?_
    refine lv_iconst (v := -1) hx hb dL_errors_98 (by decide) ?_
    refine kj_Wl (As := [.ref (ka_a G (22, 0, 0)), .int (-1 : Int32), .int (0 : Int32), .int (1 : Int32), .int (-1 : Int32)]) (rest := []) C0 hK hT hN hP hS (fun _ h => h) hl (km_L_letter l hl0 hI hq) kd_L_letter kq_582 ⟨rfl, rfl, Nat.le_of_ble_eq_true rfl, Nat.le_of_ble_eq_true rfl⟩ rfl (Nat.le_of_ble_eq_true rfl) dL_errors_99 ⟨by show _ ≤ 493; omega, by show _ ≤ 2958; omega⟩ (fun r48 σ49 H locs hq hP hkp hS => ?_)
    refine lv_ldc2 hx hb hown (hts _ kq_461) dL_errors_102 ?_
    refine kr_cne (tgt := 379) C0 dL_errors_105 dL_errors_106 (by decide) (fun hc => ?_) (fun hc => ?_)
    · have hq := hq.2 hc
      refine lv_iconst (v := 0) hx hb dL_errors_379 (by decide) ?_
      refine lv_istore (lv' := [(6, .int (0 : Int32)), (0, .ref (ka_a G (22, 0, 0))), (1, .long v1), (3, .int v3), (4, .int v4), (5, .int v5)]) hx hb dL_errors_380 hl (by decide) rfl (fun ls hl => ?_)
      refine lv_iconst (v := 0) hx hb dL_errors_382 (by decide) ?_
      refine lv_istore (lv' := [(7, .int (0 : Int32)), (6, .int (0 : Int32)), (0, .ref (ka_a G (22, 0, 0))), (1, .long v1), (3, .int v3), (4, .int v4), (5, .int v5)]) hx hb dL_errors_383 hl (by decide) rfl (fun ls hl => ?_)
      obtain ⟨n50, hn50, hq⟩ := hq
      refine W.widen (k := (cl + 4)) (n := 6 * (cl + 4)) (by omega) (by omega) ?_
      exact kb_L_errors_385 hl0 hI C0 hK hT hN n50 σ49 v1 v3 v4 v5 (0 : Int32) (0 : Int32) hq (cl + 4) (by omega) H locs hP hS ls (lv_sub hl [2, 3, 4, 5, 6, 1, 0] rfl)
    · have hq := hq.1 hc
      refine lv_aload_n hx hb dL_errors_109 rfl (lv_at hl 0 rfl) ?_
      refine lv_iload hx hb dL_errors_110 (lv_at hl 3 rfl) ?_
      refine lv_iconst (v := 0) hx hb dL_errors_112 (by decide) ?_
      refine lv_iconst (v := -1) hx hb dL_errors_113 (by decide) ?_
      refine kj_Wl (As := [.ref (ka_a G (22, 0, 0)), .int v4, .int (0 : Int32), .int (-1 : Int32)]) (rest := []) C0 hK hT hN hP hS (fun _ h => h) hl (km_L_entry l hl0 hI hq) kd_L_entry kq_620 ⟨rfl, rfl, Nat.le_of_ble_eq_true rfl, Nat.le_of_ble_eq_true rfl⟩ rfl (Nat.le_of_ble_eq_true rfl) dL_errors_114 ⟨by show _ ≤ 493; omega, by show _ ≤ 2958; omega⟩ (fun r51 σ52 H locs hq hP hkp hS => ?_)
      refine lv_ldc2 hx hb hown (hts _ kq_461) dL_errors_117 ?_
      refine kr_cne (tgt := 379) C0 dL_errors_120 dL_errors_121 (by decide) (fun hc => ?_) (fun hc => ?_)
      · have hq := hq.2 hc
        refine lv_iconst (v := 0) hx hb dL_errors_379 (by decide) ?_
        refine lv_istore (lv' := [(6, .int (0 : Int32)), (0, .ref (ka_a G (22, 0, 0))), (1, .long v1), (3, .int v3), (4, .int v4), (5, .int v5)]) hx hb dL_errors_380 hl (by decide) rfl (fun ls hl => ?_)
        refine lv_iconst (v := 0) hx hb dL_errors_382 (by decide) ?_
        refine lv_istore (lv' := [(7, .int (0 : Int32)), (6, .int (0 : Int32)), (0, .ref (ka_a G (22, 0, 0))), (1, .long v1), (3, .int v3), (4, .int v4), (5, .int v5)]) hx hb dL_errors_383 hl (by decide) rfl (fun ls hl => ?_)
        obtain ⟨n53, hn53, hq⟩ := hq
        refine W.widen (k := (cl + 6)) (n := 6 * (cl + 6)) (by omega) (by omega) ?_
        exact kb_L_errors_385 hl0 hI C0 hK hT hN n53 σ52 v1 v3 v4 v5 (0 : Int32) (0 : Int32) hq (cl + 6) (by omega) H locs hP hS ls (lv_sub hl [2, 3, 4, 5, 6, 1, 0] rfl)
      · have hq := hq.1 hc
        refine lv_aload_n hx hb dL_errors_124 rfl (lv_at hl 0 rfl) ?_
        refine lv_iload hx hb dL_errors_125 (lv_at hl 4 rfl) ?_
        refine lv_iconst (v := 3) hx hb dL_errors_127 (by decide) ?_
        refine kj_Wl (As := [.ref (ka_a G (22, 0, 0)), .int v5, .int (3 : Int32)]) (rest := []) C0 hK hT hN hP hS (fun _ h => h) hl (km_L_row l hl0 hI hq) kd_L_row kq_687 ⟨rfl, rfl, Nat.le_of_ble_eq_true rfl, Nat.le_of_ble_eq_true rfl⟩ rfl (Nat.le_of_ble_eq_true rfl) dL_errors_128 ⟨by show _ ≤ 493; omega, by show _ ≤ 2958; omega⟩ (fun r54 σ55 H locs hq hP hkp hS => ?_)
        refine lv_ldc2 hx hb hown (hts _ kq_461) dL_errors_131 ?_
        refine kr_cne (tgt := 379) C0 dL_errors_134 dL_errors_135 (by decide) (fun hc => ?_) (fun hc => ?_)
        · have hq := hq.2 hc
          refine lv_iconst (v := 0) hx hb dL_errors_379 (by decide) ?_
          refine lv_istore (lv' := [(6, .int (0 : Int32)), (0, .ref (ka_a G (22, 0, 0))), (1, .long v1), (3, .int v3), (4, .int v4), (5, .int v5)]) hx hb dL_errors_380 hl (by decide) rfl (fun ls hl => ?_)
          refine lv_iconst (v := 0) hx hb dL_errors_382 (by decide) ?_
          refine lv_istore (lv' := [(7, .int (0 : Int32)), (6, .int (0 : Int32)), (0, .ref (ka_a G (22, 0, 0))), (1, .long v1), (3, .int v3), (4, .int v4), (5, .int v5)]) hx hb dL_errors_383 hl (by decide) rfl (fun ls hl => ?_)
          obtain ⟨n56, hn56, hq⟩ := hq
          refine W.widen (k := (cl + 8)) (n := 6 * (cl + 8)) (by omega) (by omega) ?_
          exact kb_L_errors_385 hl0 hI C0 hK hT hN n56 σ55 v1 v3 v4 v5 (0 : Int32) (0 : Int32) hq (cl + 8) (by omega) H locs hP hS ls (lv_sub hl [2, 3, 4, 5, 6, 1, 0] rfl)
        · have hq := hq.1 hc
          refine lv_aload_n hx hb dL_errors_138 rfl (lv_at hl 0 rfl) ?_
          refine lv_iload hx hb dL_errors_139 (lv_at hl 4 rfl) ?_
          refine lv_iconst (v := -1) hx hb dL_errors_141 (by decide) ?_
          refine kj_Wl (As := [.ref (ka_a G (22, 0, 0)), .int v5, .int (-1 : Int32)]) (rest := []) C0 hK hT hN hP hS (fun _ h => h) hl (km_L_at l hl0 hI hq) kd_L_at kq_724 ⟨rfl, rfl, Nat.le_of_ble_eq_true rfl, Nat.le_of_ble_eq_true rfl⟩ rfl (Nat.le_of_ble_eq_true rfl) dL_errors_142 ⟨by show _ ≤ 493; omega, by show _ ≤ 2958; omega⟩ (fun r57 σ58 H locs hq hP hkp hS => ?_)
          refine lv_ldc2 hx hb hown (hts _ kq_461) dL_errors_145 ?_
          refine kr_cne (tgt := 379) C0 dL_errors_148 dL_errors_149 (by decide) (fun hc => ?_) (fun hc => ?_)
          · have hq := hq.2 hc
            refine lv_iconst (v := 0) hx hb dL_errors_379 (by decide) ?_
            refine lv_istore (lv' := [(6, .int (0 : Int32)), (0, .ref (ka_a G (22, 0, 0))), (1, .long v1), (3, .int v3), (4, .int v4), (5, .int v5)]) hx hb dL_errors_380 hl (by decide) rfl (fun ls hl => ?_)
            refine lv_iconst (v := 0) hx hb dL_errors_382 (by decide) ?_
            refine lv_istore (lv' := [(7, .int (0 : Int32)), (6, .int (0 : Int32)), (0, .ref (ka_a G (22, 0, 0))), (1, .long v1), (3, .int v3), (4, .int v4), (5, .int v5)]) hx hb dL_errors_383 hl (by decide) rfl (fun ls hl => ?_)
            obtain ⟨n59, hn59, hq⟩ := hq
            refine W.widen (k := (cl + 10)) (n := 6 * (cl + 10)) (by omega) (by omega) ?_
            exact kb_L_errors_385 hl0 hI C0 hK hT hN n59 σ58 v1 v3 v4 v5 (0 : Int32) (0 : Int32) hq (cl + 10) (by omega) H locs hP hS ls (lv_sub hl [2, 3, 4, 5, 6, 1, 0] rfl)
          · have hq := hq.1 hc
            refine lv_aload_n hx hb dL_errors_152 rfl (lv_at hl 0 rfl) ?_
            refine lv_iload_n hx hb dL_errors_153 rfl (lv_at hl 2 rfl) ?_
            refine lv_iconst (v := 1) hx hb dL_errors_154 (by decide) ?_
            refine lv_iadd hx hb dL_errors_155 ?_
            refine kj_Wl (As := [.ref (ka_a G (22, 0, 0)), .int (v3 + (1 : Int32))]) (rest := []) C0 hK hT hN hP hS (fun _ h => h) hl (km_L_insert l hl0 hI hq) kd_L_insert kq_853 ⟨rfl, rfl, Nat.le_of_ble_eq_true rfl, Nat.le_of_ble_eq_true rfl⟩ rfl (Nat.le_of_ble_eq_true rfl) dL_errors_156 ⟨by show _ ≤ 493; omega, by show _ ≤ 2958; omega⟩ (fun r60 σ61 H locs hq hP hkp hS => ?_)
            refine lv_ldc2 hx hb hown (hts _ kq_461) dL_errors_159 ?_
            refine kr_cne (tgt := 379) C0 dL_errors_162 dL_errors_163 (by decide) (fun hc => ?_) (fun hc => ?_)
            · have hq := hq.2 hc
              refine lv_iconst (v := 0) hx hb dL_errors_379 (by decide) ?_
              refine lv_istore (lv' := [(6, .int (0 : Int32)), (0, .ref (ka_a G (22, 0, 0))), (1, .long v1), (3, .int v3), (4, .int v4), (5, .int v5)]) hx hb dL_errors_380 hl (by decide) rfl (fun ls hl => ?_)
              refine lv_iconst (v := 0) hx hb dL_errors_382 (by decide) ?_
              refine lv_istore (lv' := [(7, .int (0 : Int32)), (6, .int (0 : Int32)), (0, .ref (ka_a G (22, 0, 0))), (1, .long v1), (3, .int v3), (4, .int v4), (5, .int v5)]) hx hb dL_errors_383 hl (by decide) rfl (fun ls hl => ?_)
              obtain ⟨n62, hn62, hq⟩ := hq
              refine W.widen (k := (cl + 11)) (n := 6 * (cl + 11)) (by omega) (by omega) ?_
              exact kb_L_errors_385 hl0 hI C0 hK hT hN n62 σ61 v1 v3 v4 v5 (0 : Int32) (0 : Int32) hq (cl + 11) (by omega) H locs hP hS ls (lv_sub hl [2, 3, 4, 5, 6, 1, 0] rfl)
            · have hq := hq.1 hc
              refine lv_aload_n hx hb dL_errors_166 rfl (lv_at hl 0 rfl) ?_
              refine lv_iconst (v := -1) hx hb dL_errors_167 (by decide) ?_
              refine kj_Wl (As := [.ref (ka_a G (22, 0, 0)), .int (-1 : Int32)]) (rest := []) C0 hK hT hN hP hS (fun _ h => h) hl (km_L_insert l hl0 hI hq) kd_L_insert kq_853 ⟨rfl, rfl, Nat.le_of_ble_eq_true rfl, Nat.le_of_ble_eq_true rfl⟩ rfl (Nat.le_of_ble_eq_true rfl) dL_errors_168 ⟨by show _ ≤ 493; omega, by show _ ≤ 2958; omega⟩ (fun r63 σ64 H locs hq hP hkp hS => ?_)
              refine lv_ldc2 hx hb hown (hts _ kq_461) dL_errors_171 ?_
              refine kr_cne (tgt := 379) C0 dL_errors_174 dL_errors_175 (by decide) (fun hc => ?_) (fun hc => ?_)
              · have hq := hq.2 hc
                refine lv_iconst (v := 0) hx hb dL_errors_379 (by decide) ?_
                refine lv_istore (lv' := [(6, .int (0 : Int32)), (0, .ref (ka_a G (22, 0, 0))), (1, .long v1), (3, .int v3), (4, .int v4), (5, .int v5)]) hx hb dL_errors_380 hl (by decide) rfl (fun ls hl => ?_)
                refine lv_iconst (v := 0) hx hb dL_errors_382 (by decide) ?_
                refine lv_istore (lv' := [(7, .int (0 : Int32)), (6, .int (0 : Int32)), (0, .ref (ka_a G (22, 0, 0))), (1, .long v1), (3, .int v3), (4, .int v4), (5, .int v5)]) hx hb dL_errors_383 hl (by decide) rfl (fun ls hl => ?_)
                obtain ⟨n65, hn65, hq⟩ := hq
                refine W.widen (k := (cl + 12)) (n := 6 * (cl + 12)) (by omega) (by omega) ?_
                exact kb_L_errors_385 hl0 hI C0 hK hT hN n65 σ64 v1 v3 v4 v5 (0 : Int32) (0 : Int32) hq (cl + 12) (by omega) H locs hP hS ls (lv_sub hl [2, 3, 4, 5, 6, 1, 0] rfl)
              · have hq := hq.1 hc
                refine lv_aload_n hx hb dL_errors_178 rfl (lv_at hl 0 rfl) ?_
                refine lv_iload_n hx hb dL_errors_179 rfl (lv_at hl 2 rfl) ?_
                refine kj_Wl (As := [.ref (ka_a G (22, 0, 0)), .int v3]) (rest := []) C0 hK hT hN hP hS (fun _ h => h) hl (km_L_remove l hl0 hI hq) kd_L_remove kq_867 ⟨rfl, rfl, Nat.le_of_ble_eq_true rfl, Nat.le_of_ble_eq_true rfl⟩ rfl (Nat.le_of_ble_eq_true rfl) dL_errors_180 ⟨by show _ ≤ 493; omega, by show _ ≤ 2958; omega⟩ (fun r66 σ67 H locs hq hP hkp hS => ?_)
                refine lv_ldc2 hx hb hown (hts _ kq_461) dL_errors_183 ?_
                refine kr_cne (tgt := 379) C0 dL_errors_186 dL_errors_187 (by decide) (fun hc => ?_) (fun hc => ?_)
                · have hq := hq.2 hc
                  refine lv_iconst (v := 0) hx hb dL_errors_379 (by decide) ?_
                  refine lv_istore (lv' := [(6, .int (0 : Int32)), (0, .ref (ka_a G (22, 0, 0))), (1, .long v1), (3, .int v3), (4, .int v4), (5, .int v5)]) hx hb dL_errors_380 hl (by decide) rfl (fun ls hl => ?_)
                  refine lv_iconst (v := 0) hx hb dL_errors_382 (by decide) ?_
                  refine lv_istore (lv' := [(7, .int (0 : Int32)), (6, .int (0 : Int32)), (0, .ref (ka_a G (22, 0, 0))), (1, .long v1), (3, .int v3), (4, .int v4), (5, .int v5)]) hx hb dL_errors_383 hl (by decide) rfl (fun ls hl => ?_)
                  obtain ⟨n68, hn68, hq⟩ := hq
                  refine W.widen (k := (cl + 13)) (n := 6 * (cl + 13)) (by omega) (by omega) ?_
                  exact kb_L_errors_385 hl0 hI C0 hK hT hN n68 σ67 v1 v3 v4 v5 (0 : Int32) (0 : Int32) hq (cl + 13) (by omega) H locs hP hS ls (lv_sub hl [2, 3, 4, 5, 6, 1, 0] rfl)
                · have hq := hq.1 hc
                  refine W.widen (k := (cl + 13)) (n := 6 * (cl + 13)) (by omega) (by omega) ?_
                  exact kb_L_errors_190 hl0 hI C0 hK hT hN σ67 v1 v3 v4 v5 hq (cl + 13) (by omega) H locs hP hS ls (lv_sub hl [0, 1, 2, 3, 4] rfl)
def kw_L_errors (σ : ka_S) (Q : Int32 → ka_S → Prop) : Prop := kw_L_now σ (fun r1 σ2 =>
  kw_L_words σ2 (fun r3 σ4 =>
  kw_L_about σ4 (7 : Int32) (fun r5 σ6 =>
  ∀ x7 : Int32, x7 = r5.toInt32 → 
  kw_L_about σ6 (5 : Int32) (fun r8 σ9 =>
  ∀ x10 : Int32, x10 = r8.toInt32 → 
  kw_L_append σ9 (-1 : Int32) (fun r11 σ12 =>
  (r11 = (-9000000000000000002 : Int64) → kw_L_append σ12 (256 : Int32) (fun r14 σ15 =>
    (r14 = (-9000000000000000002 : Int64) → kw_L_about σ15 (12 : Int32) (fun r17 σ18 =>
      (r17 = (-9000000000000000002 : Int64) → kw_L_word σ18 r3 (8 : Int32) (fun r20 σ21 =>
        (r20 = (-9000000000000000001 : Int64) → kw_L_errors_80 Q σ21 r1 r3 x7 x10) ∧
        (¬ r20 = (-9000000000000000001 : Int64) → ∃ n22 : Nat, n22 ≤ 13 ∧ kw_L_errors_385 Q n22 σ21 r1 r3 x7 x10 (0 : Int32) (0 : Int32)))) ∧
      (¬ r17 = (-9000000000000000002 : Int64) → ∃ n19 : Nat, n19 ≤ 13 ∧ kw_L_errors_385 Q n19 σ18 r1 r3 x7 x10 (0 : Int32) (0 : Int32)))) ∧
    (¬ r14 = (-9000000000000000002 : Int64) → ∃ n16 : Nat, n16 ≤ 13 ∧ kw_L_errors_385 Q n16 σ15 r1 r3 x7 x10 (0 : Int32) (0 : Int32)))) ∧
  (¬ r11 = (-9000000000000000002 : Int64) → ∃ n13 : Nat, n13 ≤ 13 ∧ kw_L_errors_385 Q n13 σ12 r1 r3 x7 x10 (0 : Int32) (0 : Int32)))))))
set_option maxHeartbeats 4000000 in
set_option maxRecDepth 100000 in
theorem km_L_errors (l : Launch) (hl0 : l.stackTraces = false) {G : ka_G} (hI : ka_I G) {σ : ka_S} {Q : Int32 → ka_S → Prop} (hq : kw_L_errors σ Q) : kd_i l yL_errors (kw_ yL_errors cL_errors 10 (some .boolean)) rm_L_errors 493 2958 G [.ref (ka_a G (22, 0, 0))] σ Q := by
  refine kj_of "GlossRowsLaw" rfl (by decide) (Nat.le_of_ble_eq_true rfl) ?_
  intro p e s m below meth c C0 hK hT hN H locs hP hS ls hl
  obtain ⟨hx, hb, -, hml, hown, hts, -⟩ := id C0
  have hl : lv_has ls 10 [(0, .ref (ka_a G (22, 0, 0)))] := hl
  unfold kw_L_errors at hq
  refine lv_aload_n hx hb dL_errors_0 rfl (lv_at hl 0 rfl) ?_
  refine kj_Sl (As := [.ref (ka_a G (22, 0, 0))]) (rest := []) C0 hK hT hN hP hS (fun _ h => h) hl (km_L_now l hl0 hI hq) kd_L_now kq_473 ⟨rfl, rfl, Nat.le_of_ble_eq_true rfl, Nat.le_of_ble_eq_true rfl⟩ rfl (Nat.le_of_ble_eq_true rfl) dL_errors_1 ⟨by show _ ≤ 493; omega, by show _ ≤ 2958; omega⟩ (fun r1 σ2 H locs hq hP hkp hS => ?_)
  refine lv_lstore_n (lv' := [(1, .long r1), (0, .ref (ka_a G (22, 0, 0)))]) hx hb dL_errors_4 rfl hl (by decide) rfl (fun ls hl => ?_)
  refine lv_aload_n hx hb dL_errors_5 rfl (lv_at hl 1 rfl) ?_
  refine kj_Si (As := [.ref (ka_a G (22, 0, 0))]) (rest := []) C0 hK hT hN hP hS (fun _ h => h) hl (km_L_words l hl0 hI hq) kd_L_words kq_560 ⟨rfl, rfl, Nat.le_of_ble_eq_true rfl, Nat.le_of_ble_eq_true rfl⟩ rfl (Nat.le_of_ble_eq_true rfl) dL_errors_6 ⟨by show _ ≤ 493; omega, by show _ ≤ 2958; omega⟩ (fun r3 σ4 H locs hq hP hkp hS => ?_)
  refine lv_istore_n (lv' := [(3, .int r3), (1, .long r1), (0, .ref (ka_a G (22, 0, 0)))]) hx hb dL_errors_9 rfl hl (by decide) rfl (fun ls hl => ?_)
  refine lv_aload_n hx hb dL_errors_10 rfl (lv_at hl 2 rfl) ?_
  refine lv_bipush (v := 7) hx hb dL_errors_11 (by decide) ?_
  refine kj_Wl (As := [.ref (ka_a G (22, 0, 0)), .int (7 : Int32)]) (rest := []) C0 hK hT hN hP hS (fun _ h => h) hl (km_L_about l hl0 hI hq) kd_L_about kq_478 ⟨rfl, rfl, Nat.le_of_ble_eq_true rfl, Nat.le_of_ble_eq_true rfl⟩ rfl (Nat.le_of_ble_eq_true rfl) dL_errors_13 ⟨by show _ ≤ 493; omega, by show _ ≤ 2958; omega⟩ (fun r5 σ6 H locs hq hP hkp hS => ?_)
  refine lv_l2i hx hb dL_errors_16 rfl ?_
  refine lv_topi (fun x7 ex7 => ?_)
  have hq := hq x7 ex7
  refine lv_istore (lv' := [(4, .int x7), (3, .int r3), (1, .long r1), (0, .ref (ka_a G (22, 0, 0)))]) hx hb dL_errors_17 hl (by decide) rfl (fun ls hl => ?_)
  refine lv_aload_n hx hb dL_errors_19 rfl (lv_at hl 3 rfl) ?_
  refine lv_iconst (v := 5) hx hb dL_errors_20 (by decide) ?_
  refine kj_Wl (As := [.ref (ka_a G (22, 0, 0)), .int (5 : Int32)]) (rest := []) C0 hK hT hN hP hS (fun _ h => h) hl (km_L_about l hl0 hI hq) kd_L_about kq_478 ⟨rfl, rfl, Nat.le_of_ble_eq_true rfl, Nat.le_of_ble_eq_true rfl⟩ rfl (Nat.le_of_ble_eq_true rfl) dL_errors_21 ⟨by show _ ≤ 493; omega, by show _ ≤ 2958; omega⟩ (fun r8 σ9 H locs hq hP hkp hS => ?_)
  refine lv_l2i hx hb dL_errors_24 rfl ?_
  refine lv_topi (fun x10 ex10 => ?_)
  have hq := hq x10 ex10
  refine lv_istore (lv' := [(5, .int x10), (4, .int x7), (3, .int r3), (1, .long r1), (0, .ref (ka_a G (22, 0, 0)))]) hx hb dL_errors_25 hl (by decide) rfl (fun ls hl => ?_)
  refine lv_aload_n hx hb dL_errors_27 rfl (lv_at hl 4 rfl) ?_
  refine lv_iconst (v := -1) hx hb dL_errors_28 (by decide) ?_
  refine kj_Wl (As := [.ref (ka_a G (22, 0, 0)), .int (-1 : Int32)]) (rest := []) C0 hK hT hN hP hS (fun _ h => h) hl (km_L_append l hl0 hI hq) kd_L_append kq_840 ⟨rfl, rfl, Nat.le_of_ble_eq_true rfl, Nat.le_of_ble_eq_true rfl⟩ rfl (Nat.le_of_ble_eq_true rfl) dL_errors_29 ⟨by show _ ≤ 493; omega, by show _ ≤ 2958; omega⟩ (fun r11 σ12 H locs hq hP hkp hS => ?_)
  refine lv_ldc2 hx hb hown (hts _ kq_558) dL_errors_32 ?_
  refine kr_cne (tgt := 379) C0 dL_errors_35 dL_errors_36 (by decide) (fun hc => ?_) (fun hc => ?_)
  · have hq := hq.2 hc
    refine lv_iconst (v := 0) hx hb dL_errors_379 (by decide) ?_
    refine lv_istore (lv' := [(6, .int (0 : Int32)), (5, .int x10), (4, .int x7), (3, .int r3), (1, .long r1), (0, .ref (ka_a G (22, 0, 0)))]) hx hb dL_errors_380 hl (by decide) rfl (fun ls hl => ?_)
    refine lv_iconst (v := 0) hx hb dL_errors_382 (by decide) ?_
    refine lv_istore (lv' := [(7, .int (0 : Int32)), (6, .int (0 : Int32)), (5, .int x10), (4, .int x7), (3, .int r3), (1, .long r1), (0, .ref (ka_a G (22, 0, 0)))]) hx hb dL_errors_383 hl (by decide) rfl (fun ls hl => ?_)
    obtain ⟨n13, hn13, hq⟩ := hq
    refine W.widen (k := 3) (n := 6 * 3) (by omega) (by omega) ?_
    exact kb_L_errors_385 hl0 hI C0 hK hT hN n13 σ12 r1 r3 x7 x10 (0 : Int32) (0 : Int32) hq 3 (by omega) H locs hP hS ls (lv_sub hl [6, 5, 4, 3, 2, 1, 0] rfl)
  · have hq := hq.1 hc
    refine lv_aload_n hx hb dL_errors_39 rfl (lv_at hl 4 rfl) ?_
    refine lv_sipush (v := 256) hx hb dL_errors_40 (by decide) ?_
    refine kj_Wl (As := [.ref (ka_a G (22, 0, 0)), .int (256 : Int32)]) (rest := []) C0 hK hT hN hP hS (fun _ h => h) hl (km_L_append l hl0 hI hq) kd_L_append kq_840 ⟨rfl, rfl, Nat.le_of_ble_eq_true rfl, Nat.le_of_ble_eq_true rfl⟩ rfl (Nat.le_of_ble_eq_true rfl) dL_errors_43 ⟨by show _ ≤ 493; omega, by show _ ≤ 2958; omega⟩ (fun r14 σ15 H locs hq hP hkp hS => ?_)
    refine lv_ldc2 hx hb hown (hts _ kq_558) dL_errors_46 ?_
    refine kr_cne (tgt := 379) C0 dL_errors_49 dL_errors_50 (by decide) (fun hc => ?_) (fun hc => ?_)
    · have hq := hq.2 hc
      refine lv_iconst (v := 0) hx hb dL_errors_379 (by decide) ?_
      refine lv_istore (lv' := [(6, .int (0 : Int32)), (5, .int x10), (4, .int x7), (3, .int r3), (1, .long r1), (0, .ref (ka_a G (22, 0, 0)))]) hx hb dL_errors_380 hl (by decide) rfl (fun ls hl => ?_)
      refine lv_iconst (v := 0) hx hb dL_errors_382 (by decide) ?_
      refine lv_istore (lv' := [(7, .int (0 : Int32)), (6, .int (0 : Int32)), (5, .int x10), (4, .int x7), (3, .int r3), (1, .long r1), (0, .ref (ka_a G (22, 0, 0)))]) hx hb dL_errors_383 hl (by decide) rfl (fun ls hl => ?_)
      obtain ⟨n16, hn16, hq⟩ := hq
      refine W.widen (k := 4) (n := 6 * 4) (by omega) (by omega) ?_
      exact kb_L_errors_385 hl0 hI C0 hK hT hN n16 σ15 r1 r3 x7 x10 (0 : Int32) (0 : Int32) hq 4 (by omega) H locs hP hS ls (lv_sub hl [6, 5, 4, 3, 2, 1, 0] rfl)
    · have hq := hq.1 hc
      refine lv_aload_n hx hb dL_errors_53 rfl (lv_at hl 4 rfl) ?_
      refine lv_bipush (v := 12) hx hb dL_errors_54 (by decide) ?_
      refine kj_Wl (As := [.ref (ka_a G (22, 0, 0)), .int (12 : Int32)]) (rest := []) C0 hK hT hN hP hS (fun _ h => h) hl (km_L_about l hl0 hI hq) kd_L_about kq_478 ⟨rfl, rfl, Nat.le_of_ble_eq_true rfl, Nat.le_of_ble_eq_true rfl⟩ rfl (Nat.le_of_ble_eq_true rfl) dL_errors_56 ⟨by show _ ≤ 493; omega, by show _ ≤ 2958; omega⟩ (fun r17 σ18 H locs hq hP hkp hS => ?_)
      refine lv_ldc2 hx hb hown (hts _ kq_558) dL_errors_59 ?_
      refine kr_cne (tgt := 379) C0 dL_errors_62 dL_errors_63 (by decide) (fun hc => ?_) (fun hc => ?_)
      · have hq := hq.2 hc
        refine lv_iconst (v := 0) hx hb dL_errors_379 (by decide) ?_
        refine lv_istore (lv' := [(6, .int (0 : Int32)), (5, .int x10), (4, .int x7), (3, .int r3), (1, .long r1), (0, .ref (ka_a G (22, 0, 0)))]) hx hb dL_errors_380 hl (by decide) rfl (fun ls hl => ?_)
        refine lv_iconst (v := 0) hx hb dL_errors_382 (by decide) ?_
        refine lv_istore (lv' := [(7, .int (0 : Int32)), (6, .int (0 : Int32)), (5, .int x10), (4, .int x7), (3, .int r3), (1, .long r1), (0, .ref (ka_a G (22, 0, 0)))]) hx hb dL_errors_383 hl (by decide) rfl (fun ls hl => ?_)
        obtain ⟨n19, hn19, hq⟩ := hq
        refine W.widen (k := 5) (n := 6 * 5) (by omega) (by omega) ?_
        exact kb_L_errors_385 hl0 hI C0 hK hT hN n19 σ18 r1 r3 x7 x10 (0 : Int32) (0 : Int32) hq 5 (by omega) H locs hP hS ls (lv_sub hl [6, 5, 4, 3, 2, 1, 0] rfl)
      · have hq := hq.1 hc
        refine lv_aload_n hx hb dL_errors_66 rfl (lv_at hl 4 rfl) ?_
        refine lv_iload_n hx hb dL_errors_67 rfl (lv_at hl 2 rfl) ?_
        refine lv_bipush (v := 8) hx hb dL_errors_68 (by decide) ?_
        refine kj_Wl (As := [.ref (ka_a G (22, 0, 0)), .int r3, .int (8 : Int32)]) (rest := []) C0 hK hT hN hP hS (fun _ h => h) hl (km_L_word l hl0 hI hq) kd_L_word kq_563 ⟨rfl, rfl, Nat.le_of_ble_eq_true rfl, Nat.le_of_ble_eq_true rfl⟩ rfl (Nat.le_of_ble_eq_true rfl) dL_errors_70 ⟨by show _ ≤ 493; omega, by show _ ≤ 2958; omega⟩ (fun r20 σ21 H locs hq hP hkp hS => ?_)
        refine lv_ldc2 hx hb hown (hts _ kq_461) dL_errors_73 ?_
        refine kr_cne (tgt := 379) C0 dL_errors_76 dL_errors_77 (by decide) (fun hc => ?_) (fun hc => ?_)
        · have hq := hq.2 hc
          refine lv_iconst (v := 0) hx hb dL_errors_379 (by decide) ?_
          refine lv_istore (lv' := [(6, .int (0 : Int32)), (5, .int x10), (4, .int x7), (3, .int r3), (1, .long r1), (0, .ref (ka_a G (22, 0, 0)))]) hx hb dL_errors_380 hl (by decide) rfl (fun ls hl => ?_)
          refine lv_iconst (v := 0) hx hb dL_errors_382 (by decide) ?_
          refine lv_istore (lv' := [(7, .int (0 : Int32)), (6, .int (0 : Int32)), (5, .int x10), (4, .int x7), (3, .int r3), (1, .long r1), (0, .ref (ka_a G (22, 0, 0)))]) hx hb dL_errors_383 hl (by decide) rfl (fun ls hl => ?_)
          obtain ⟨n22, hn22, hq⟩ := hq
          refine W.widen (k := 7) (n := 6 * 7) (by omega) (by omega) ?_
          exact kb_L_errors_385 hl0 hI C0 hK hT hN n22 σ21 r1 r3 x7 x10 (0 : Int32) (0 : Int32) hq 7 (by omega) H locs hP hS ls (lv_sub hl [6, 5, 4, 3, 2, 1, 0] rfl)
        · have hq := hq.1 hc
          refine W.widen (k := 7) (n := 6 * 7) (by omega) (by omega) ?_
          exact kb_L_errors_80 hl0 hI C0 hK hT hN σ21 r1 r3 x7 x10 hq 7 (by omega) H locs hP hS ls (lv_sub hl [4, 3, 2, 1, 0] rfl)
