/-! law: follows(LGlossRows;I)Z -/
def rm_L_follows : Room := { frames := 10, cells := 12, slots := 72, locals := 224 }
def kw_L_follows_920 (Q : Int32 → ka_S → Prop) (σ : ka_S) (v2 : Int64) (v4 : Int32) (v7 : Int32) : Prop := (v7 = (0 : Int32) → Q (0 : Int32) σ) ∧
  (¬ v7 = (0 : Int32) → kw0_L_restore σ (1 : Int32) (fun r68 σ69 =>
    (r68 = v4.toInt64 → kw_L_now σ69 (fun r70 σ71 =>
      (r70 = v2 → kw_L_undo σ71 (fun r72 σ73 =>
        (r72 = (-9000000000000000003 : Int64) → Q (1 : Int32) σ73) ∧
        (¬ r72 = (-9000000000000000003 : Int64) → Q (0 : Int32) σ73))) ∧
      (¬ r70 = v2 → Q (0 : Int32) σ71))) ∧
    (¬ r68 = v4.toInt64 → Q (0 : Int32) σ69)))
set_option maxHeartbeats 4000000 in
set_option maxRecDepth 100000 in
theorem kb_L_follows_920 {p : Program} {l : Launch} {e : Env} {s : State} {m : MethodId} {below : List Frame} {meth : Method} {c : Code} {G : ka_G} {args : Array Value} (hl0 : l.stackTraces = false) (hI : ka_I G) (C0 : ka_C p s m args meth c cL_follows 27 "GlossRowsLaw" (some .boolean)) (hK : ka_Kn G s) (hT : ka_T9 (ka_A G) s) (hN : kl_Nc s) {Q : Int32 → ka_S → Prop} : ∀ (σ : ka_S) (v2 : Int64) (v4 : Int32) (v7 : Int32), kw_L_follows_920 Q σ v2 v4 v7 → ∀ (cl : Nat), cl + 1 ≤ 12 → ∀ (H : Heap) (locs : List Loc), ka_P G σ H → va_S (ka_A G) s.heap H locs → ∀ ls : Array Slot, lv_has ls 27 [(0, .ref (ka_a G (22, 0, 0))), (2, .long v2), (4, .int v4), (7, .int v7)] → W p l e rm_L_follows s m args below meth c H locs cl (6 * cl) (MQ below (va_Qi Q (ka_B G) (ka_A G)) args s 12 72 (ka_A G)) (F0 m 920 ls []) := by
  obtain ⟨hx, hb, -, hml, hown, hts, -⟩ := id C0
  intro σ v2 v4 v7 hq cl hcl H locs hP hS ls hl
  unfold kw_L_follows_920 at hq
  refine lv_iload hx hb dL_follows_920 (lv_at hl 3 rfl) ?_
  refine lv_if_eq (tgt := 961) hx hb dL_follows_922 (by decide) (fun hc => ?_) (fun hc => ?_)
  · have hq := hq.1 hc
    refine lv_iconst (v := 0) hx hb dL_follows_961 (by decide) ?_
    exact kl_zret C0 hK hP hS rfl hq dL_follows_962 ⟨by omega, by omega⟩
  · have hq := hq.2 hc
    refine lv_aload_n hx hb dL_follows_925 rfl (lv_at hl 0 rfl) ?_
    refine lv_iconst (v := 1) hx hb dL_follows_926 (by decide) ?_
    refine kj_Wl (As := [.ref (ka_a G (22, 0, 0)), .int (1 : Int32)]) (rest := []) C0 hK hT hN hP hS (fun _ h => h) hl (km0_L_restore l hl0 hI hq) kd_L_restore kq_462 ⟨rfl, rfl, Nat.le_of_ble_eq_true rfl, Nat.le_of_ble_eq_true rfl⟩ rfl (Nat.le_of_ble_eq_true rfl) dL_follows_927 ⟨by show _ ≤ 12; omega, by show _ ≤ 72; omega⟩ (fun r68 σ69 H locs hq hP hkp hS => ?_)
    refine lv_iload hx hb dL_follows_930 (lv_at hl 2 rfl) ?_
    refine lv_i2l hx hb dL_follows_932 rfl ?_
    refine kr_cne (tgt := 961) C0 dL_follows_933 dL_follows_934 (by decide) (fun hc => ?_) (fun hc => ?_)
    · have hq := hq.2 hc
      refine lv_iconst (v := 0) hx hb dL_follows_961 (by decide) ?_
      exact kl_zret C0 hK hP hS rfl hq dL_follows_962 ⟨by omega, by omega⟩
    · have hq := hq.1 hc
      refine lv_aload_n hx hb dL_follows_937 rfl (lv_at hl 0 rfl) ?_
      refine kj_Sl (As := [.ref (ka_a G (22, 0, 0))]) (rest := []) C0 hK hT hN hP hS (fun _ h => h) hl (km_L_now l hl0 hI hq) kd_L_now kq_473 ⟨rfl, rfl, Nat.le_of_ble_eq_true rfl, Nat.le_of_ble_eq_true rfl⟩ rfl (Nat.le_of_ble_eq_true rfl) dL_follows_938 ⟨by show _ ≤ 12; omega, by show _ ≤ 72; omega⟩ (fun r70 σ71 H locs hq hP hkp hS => ?_)
      refine lv_lload_n hx hb dL_follows_941 rfl (lv_at hl 1 rfl) ?_
      refine kr_cne (tgt := 961) C0 dL_follows_942 dL_follows_943 (by decide) (fun hc => ?_) (fun hc => ?_)
      · have hq := hq.2 hc
        refine lv_iconst (v := 0) hx hb dL_follows_961 (by decide) ?_
        exact kl_zret C0 hK hP hS rfl hq dL_follows_962 ⟨by omega, by omega⟩
      · have hq := hq.1 hc
        refine lv_aload_n hx hb dL_follows_946 rfl (lv_at hl 0 rfl) ?_
        refine kj_Wl (As := [.ref (ka_a G (22, 0, 0))]) (rest := []) C0 hK hT hN hP hS (fun _ h => h) hl (km_L_undo l hl0 hI hq) kd_L_undo kq_966 ⟨rfl, rfl, Nat.le_of_ble_eq_true rfl, Nat.le_of_ble_eq_true rfl⟩ rfl (Nat.le_of_ble_eq_true rfl) dL_follows_947 ⟨by show _ ≤ 12; omega, by show _ ≤ 72; omega⟩ (fun r72 σ73 H locs hq hP hkp hS => ?_)
        refine lv_ldc2 hx hb hown (hts _ kq_424) dL_follows_950 ?_
        refine kr_cne (tgt := 961) C0 dL_follows_953 dL_follows_954 (by decide) (fun hc => ?_) (fun hc => ?_)
        · have hq := hq.2 hc
          refine lv_iconst (v := 0) hx hb dL_follows_961 (by decide) ?_
          exact kl_zret C0 hK hP hS rfl hq dL_follows_962 ⟨by omega, by omega⟩
        · have hq := hq.1 hc
          refine lv_iconst (v := 1) hx hb dL_follows_957 (by decide) ?_
          refine lv_goto (tgt := 962) hx hb dL_follows_958 (by decide) ?_
          exact kl_zret C0 hK hP hS rfl hq dL_follows_962 ⟨by omega, by omega⟩
def kw_L_follows_918 (Q : Int32 → ka_S → Prop) (σ : ka_S) (v2 : Int64) (v4 : Int32) (t0 : Int32) : Prop := kw_L_follows_920 Q σ v2 v4 t0
set_option maxHeartbeats 4000000 in
set_option maxRecDepth 100000 in
theorem kb_L_follows_918 {p : Program} {l : Launch} {e : Env} {s : State} {m : MethodId} {below : List Frame} {meth : Method} {c : Code} {G : ka_G} {args : Array Value} (hl0 : l.stackTraces = false) (hI : ka_I G) (C0 : ka_C p s m args meth c cL_follows 27 "GlossRowsLaw" (some .boolean)) (hK : ka_Kn G s) (hT : ka_T9 (ka_A G) s) (hN : kl_Nc s) {Q : Int32 → ka_S → Prop} : ∀ (σ : ka_S) (v2 : Int64) (v4 : Int32) (t0 : Int32), kw_L_follows_918 Q σ v2 v4 t0 → ∀ (cl : Nat), cl + 1 ≤ 12 → ∀ (H : Heap) (locs : List Loc), ka_P G σ H → va_S (ka_A G) s.heap H locs → ∀ ls : Array Slot, lv_has ls 27 [(0, .ref (ka_a G (22, 0, 0))), (2, .long v2), (4, .int v4)] → W p l e rm_L_follows s m args below meth c H locs cl (6 * cl) (MQ below (va_Qi Q (ka_B G) (ka_A G)) args s 12 72 (ka_A G)) (F0 m 918 ls [.int t0]) := by
  obtain ⟨hx, hb, -, hml, hown, hts, -⟩ := id C0
  intro σ v2 v4 t0 hq cl hcl H locs hP hS ls hl
  unfold kw_L_follows_918 at hq
  refine lv_istore (lv' := [(7, .int t0), (0, .ref (ka_a G (22, 0, 0))), (2, .long v2), (4, .int v4)]) hx hb dL_follows_918 hl (by decide) rfl (fun ls hl => ?_)
  refine W.widen (k := (cl + 0)) (n := 6 * (cl + 0)) (by omega) (by omega) ?_
  exact kb_L_follows_920 hl0 hI C0 hK hT hN σ v2 v4 t0 hq (cl + 0) (by omega) H locs hP hS ls (lv_sub hl [1, 2, 3, 0] rfl)
def kw_L_follows_917 (Q : Int32 → ka_S → Prop) (σ : ka_S) (v2 : Int64) (v4 : Int32) : Prop := kw_L_follows_918 Q σ v2 v4 (0 : Int32)
set_option maxHeartbeats 4000000 in
set_option maxRecDepth 100000 in
theorem kb_L_follows_917 {p : Program} {l : Launch} {e : Env} {s : State} {m : MethodId} {below : List Frame} {meth : Method} {c : Code} {G : ka_G} {args : Array Value} (hl0 : l.stackTraces = false) (hI : ka_I G) (C0 : ka_C p s m args meth c cL_follows 27 "GlossRowsLaw" (some .boolean)) (hK : ka_Kn G s) (hT : ka_T9 (ka_A G) s) (hN : kl_Nc s) {Q : Int32 → ka_S → Prop} : ∀ (σ : ka_S) (v2 : Int64) (v4 : Int32), kw_L_follows_917 Q σ v2 v4 → ∀ (cl : Nat), cl + 1 ≤ 12 → ∀ (H : Heap) (locs : List Loc), ka_P G σ H → va_S (ka_A G) s.heap H locs → ∀ ls : Array Slot, lv_has ls 27 [(0, .ref (ka_a G (22, 0, 0))), (2, .long v2), (4, .int v4)] → W p l e rm_L_follows s m args below meth c H locs cl (6 * cl) (MQ below (va_Qi Q (ka_B G) (ka_A G)) args s 12 72 (ka_A G)) (F0 m 917 ls []) := by
  obtain ⟨hx, hb, -, hml, hown, hts, -⟩ := id C0
  intro σ v2 v4 hq cl hcl H locs hP hS ls hl
  unfold kw_L_follows_917 at hq
  refine lv_iconst (v := 0) hx hb dL_follows_917 (by decide) ?_
  refine W.widen (k := (cl + 0)) (n := 6 * (cl + 0)) (by omega) (by omega) ?_
  exact kb_L_follows_918 hl0 hI C0 hK hT hN σ v2 v4 (0 : Int32) hq (cl + 0) (by omega) H locs hP hS ls (lv_sub hl [0, 1, 2] rfl)
def kw_L_follows_875 (Q : Int32 → ka_S → Prop) (σ : ka_S) (v2 : Int64) (v4 : Int32) (v7 : Int32) (v16 : Int32) : Prop := (v7 = (0 : Int32) → kw_L_follows_917 Q σ v2 v4) ∧
  (¬ v7 = (0 : Int32) → kw0_L_remove σ v16 (fun r112 σ113 =>
    (r112 = (v4.toInt64 - (1 : Int64)) → kw_L_undo σ113 (fun r114 σ115 =>
      (r114 < (0 : Int64) → kw_L_follows_917 Q σ115 v2 v4) ∧
      (¬ r114 < (0 : Int64) → kw_L_now σ115 (fun r116 σ117 =>
        (r116 = v2 → kw_L_follows_918 Q σ117 v2 v4 (1 : Int32)) ∧
        (¬ r116 = v2 → kw_L_follows_917 Q σ117 v2 v4))))) ∧
    (¬ r112 = (v4.toInt64 - (1 : Int64)) → kw_L_follows_917 Q σ113 v2 v4)))
set_option maxHeartbeats 4000000 in
set_option maxRecDepth 100000 in
theorem kb_L_follows_875 {p : Program} {l : Launch} {e : Env} {s : State} {m : MethodId} {below : List Frame} {meth : Method} {c : Code} {G : ka_G} {args : Array Value} (hl0 : l.stackTraces = false) (hI : ka_I G) (C0 : ka_C p s m args meth c cL_follows 27 "GlossRowsLaw" (some .boolean)) (hK : ka_Kn G s) (hT : ka_T9 (ka_A G) s) (hN : kl_Nc s) {Q : Int32 → ka_S → Prop} : ∀ (σ : ka_S) (v2 : Int64) (v4 : Int32) (v7 : Int32) (v16 : Int32), kw_L_follows_875 Q σ v2 v4 v7 v16 → ∀ (cl : Nat), cl + 2 ≤ 12 → ∀ (H : Heap) (locs : List Loc), ka_P G σ H → va_S (ka_A G) s.heap H locs → ∀ ls : Array Slot, lv_has ls 27 [(0, .ref (ka_a G (22, 0, 0))), (2, .long v2), (4, .int v4), (7, .int v7), (16, .int v16)] → W p l e rm_L_follows s m args below meth c H locs cl (6 * cl) (MQ below (va_Qi Q (ka_B G) (ka_A G)) args s 12 72 (ka_A G)) (F0 m 875 ls []) := by
  obtain ⟨hx, hb, -, hml, hown, hts, -⟩ := id C0
  intro σ v2 v4 v7 v16 hq cl hcl H locs hP hS ls hl
  unfold kw_L_follows_875 at hq
  refine lv_iload hx hb dL_follows_875 (lv_at hl 3 rfl) ?_
  refine lv_if_eq (tgt := 917) hx hb dL_follows_877 (by decide) (fun hc => ?_) (fun hc => ?_)
  · have hq := hq.1 hc
    refine W.widen (k := (cl + 0)) (n := 6 * (cl + 0)) (by omega) (by omega) ?_
    exact kb_L_follows_917 hl0 hI C0 hK hT hN σ v2 v4 hq (cl + 0) (by omega) H locs hP hS ls (lv_sub hl [0, 1, 2] rfl)
  · have hq := hq.2 hc
    refine lv_aload_n hx hb dL_follows_880 rfl (lv_at hl 0 rfl) ?_
    refine lv_iload hx hb dL_follows_881 (lv_at hl 4 rfl) ?_
    refine kj_Wl (As := [.ref (ka_a G (22, 0, 0)), .int v16]) (rest := []) C0 hK hT hN hP hS (fun _ h => h) hl (km0_L_remove l hl0 hI hq) kd_L_remove kq_867 ⟨rfl, rfl, Nat.le_of_ble_eq_true rfl, Nat.le_of_ble_eq_true rfl⟩ rfl (Nat.le_of_ble_eq_true rfl) dL_follows_883 ⟨by show _ ≤ 12; omega, by show _ ≤ 72; omega⟩ (fun r112 σ113 H locs hq hP hkp hS => ?_)
    refine lv_iload hx hb dL_follows_886 (lv_at hl 2 rfl) ?_
    refine lv_i2l hx hb dL_follows_888 rfl ?_
    refine lv_lconst (v := 1) hx hb dL_follows_889 (by decide) ?_
    refine lv_lsub hx hb dL_follows_890 ?_
    refine kr_cne (tgt := 917) C0 dL_follows_891 dL_follows_892 (by decide) (fun hc => ?_) (fun hc => ?_)
    · have hq := hq.2 hc
      refine W.widen (k := (cl + 0)) (n := 6 * (cl + 0)) (by omega) (by omega) ?_
      exact kb_L_follows_917 hl0 hI C0 hK hT hN σ113 v2 v4 hq (cl + 0) (by omega) H locs hP hS ls (lv_sub hl [0, 1, 2] rfl)
    · have hq := hq.1 hc
      refine lv_aload_n hx hb dL_follows_895 rfl (lv_at hl 0 rfl) ?_
      refine kj_Wl (As := [.ref (ka_a G (22, 0, 0))]) (rest := []) C0 hK hT hN hP hS (fun _ h => h) hl (km_L_undo l hl0 hI hq) kd_L_undo kq_966 ⟨rfl, rfl, Nat.le_of_ble_eq_true rfl, Nat.le_of_ble_eq_true rfl⟩ rfl (Nat.le_of_ble_eq_true rfl) dL_follows_896 ⟨by show _ ≤ 12; omega, by show _ ≤ 72; omega⟩ (fun r114 σ115 H locs hq hP hkp hS => ?_)
      refine lv_lconst (v := 0) hx hb dL_follows_899 (by decide) ?_
      refine kr_clt (tgt := 917) C0 dL_follows_900 dL_follows_901 (by decide) (fun hc => ?_) (fun hc => ?_)
      · have hq := hq.1 hc
        refine W.widen (k := (cl + 1)) (n := 6 * (cl + 1)) (by omega) (by omega) ?_
        exact kb_L_follows_917 hl0 hI C0 hK hT hN σ115 v2 v4 hq (cl + 1) (by omega) H locs hP hS ls (lv_sub hl [0, 1, 2] rfl)
      · have hq := hq.2 hc
        refine lv_aload_n hx hb dL_follows_904 rfl (lv_at hl 0 rfl) ?_
        refine kj_Sl (As := [.ref (ka_a G (22, 0, 0))]) (rest := []) C0 hK hT hN hP hS (fun _ h => h) hl (km_L_now l hl0 hI hq) kd_L_now kq_473 ⟨rfl, rfl, Nat.le_of_ble_eq_true rfl, Nat.le_of_ble_eq_true rfl⟩ rfl (Nat.le_of_ble_eq_true rfl) dL_follows_905 ⟨by show _ ≤ 12; omega, by show _ ≤ 72; omega⟩ (fun r116 σ117 H locs hq hP hkp hS => ?_)
        refine lv_lload_n hx hb dL_follows_908 rfl (lv_at hl 1 rfl) ?_
        refine kr_cne (tgt := 917) C0 dL_follows_909 dL_follows_910 (by decide) (fun hc => ?_) (fun hc => ?_)
        · have hq := hq.2 hc
          refine W.widen (k := (cl + 1)) (n := 6 * (cl + 1)) (by omega) (by omega) ?_
          exact kb_L_follows_917 hl0 hI C0 hK hT hN σ117 v2 v4 hq (cl + 1) (by omega) H locs hP hS ls (lv_sub hl [0, 1, 2] rfl)
        · have hq := hq.1 hc
          refine lv_iconst (v := 1) hx hb dL_follows_913 (by decide) ?_
          refine lv_goto (tgt := 918) hx hb dL_follows_914 (by decide) ?_
          refine W.widen (k := (cl + 1)) (n := 6 * (cl + 1)) (by omega) (by omega) ?_
          exact kb_L_follows_918 hl0 hI C0 hK hT hN σ117 v2 v4 (1 : Int32) hq (cl + 1) (by omega) H locs hP hS ls (lv_sub hl [0, 1, 2] rfl)
def kw_L_follows_873 (Q : Int32 → ka_S → Prop) (σ : ka_S) (v2 : Int64) (v4 : Int32) (v16 : Int32) (t0 : Int32) : Prop := kw_L_follows_875 Q σ v2 v4 t0 v16
set_option maxHeartbeats 4000000 in
set_option maxRecDepth 100000 in
theorem kb_L_follows_873 {p : Program} {l : Launch} {e : Env} {s : State} {m : MethodId} {below : List Frame} {meth : Method} {c : Code} {G : ka_G} {args : Array Value} (hl0 : l.stackTraces = false) (hI : ka_I G) (C0 : ka_C p s m args meth c cL_follows 27 "GlossRowsLaw" (some .boolean)) (hK : ka_Kn G s) (hT : ka_T9 (ka_A G) s) (hN : kl_Nc s) {Q : Int32 → ka_S → Prop} : ∀ (σ : ka_S) (v2 : Int64) (v4 : Int32) (v16 : Int32) (t0 : Int32), kw_L_follows_873 Q σ v2 v4 v16 t0 → ∀ (cl : Nat), cl + 2 ≤ 12 → ∀ (H : Heap) (locs : List Loc), ka_P G σ H → va_S (ka_A G) s.heap H locs → ∀ ls : Array Slot, lv_has ls 27 [(0, .ref (ka_a G (22, 0, 0))), (2, .long v2), (4, .int v4), (16, .int v16)] → W p l e rm_L_follows s m args below meth c H locs cl (6 * cl) (MQ below (va_Qi Q (ka_B G) (ka_A G)) args s 12 72 (ka_A G)) (F0 m 873 ls [.int t0]) := by
  obtain ⟨hx, hb, -, hml, hown, hts, -⟩ := id C0
  intro σ v2 v4 v16 t0 hq cl hcl H locs hP hS ls hl
  unfold kw_L_follows_873 at hq
  refine lv_istore (lv' := [(7, .int t0), (0, .ref (ka_a G (22, 0, 0))), (2, .long v2), (4, .int v4), (16, .int v16)]) hx hb dL_follows_873 hl (by decide) rfl (fun ls hl => ?_)
  refine W.widen (k := (cl + 0)) (n := 6 * (cl + 0)) (by omega) (by omega) ?_
  exact kb_L_follows_875 hl0 hI C0 hK hT hN σ v2 v4 t0 v16 hq (cl + 0) (by omega) H locs hP hS ls (lv_sub hl [1, 2, 3, 0, 4] rfl)
def kw_L_follows_872 (Q : Int32 → ka_S → Prop) (σ : ka_S) (v2 : Int64) (v4 : Int32) (v16 : Int32) : Prop := kw_L_follows_873 Q σ v2 v4 v16 (0 : Int32)
set_option maxHeartbeats 4000000 in
set_option maxRecDepth 100000 in
theorem kb_L_follows_872 {p : Program} {l : Launch} {e : Env} {s : State} {m : MethodId} {below : List Frame} {meth : Method} {c : Code} {G : ka_G} {args : Array Value} (hl0 : l.stackTraces = false) (hI : ka_I G) (C0 : ka_C p s m args meth c cL_follows 27 "GlossRowsLaw" (some .boolean)) (hK : ka_Kn G s) (hT : ka_T9 (ka_A G) s) (hN : kl_Nc s) {Q : Int32 → ka_S → Prop} : ∀ (σ : ka_S) (v2 : Int64) (v4 : Int32) (v16 : Int32), kw_L_follows_872 Q σ v2 v4 v16 → ∀ (cl : Nat), cl + 2 ≤ 12 → ∀ (H : Heap) (locs : List Loc), ka_P G σ H → va_S (ka_A G) s.heap H locs → ∀ ls : Array Slot, lv_has ls 27 [(0, .ref (ka_a G (22, 0, 0))), (2, .long v2), (4, .int v4), (16, .int v16)] → W p l e rm_L_follows s m args below meth c H locs cl (6 * cl) (MQ below (va_Qi Q (ka_B G) (ka_A G)) args s 12 72 (ka_A G)) (F0 m 872 ls []) := by
  obtain ⟨hx, hb, -, hml, hown, hts, -⟩ := id C0
  intro σ v2 v4 v16 hq cl hcl H locs hP hS ls hl
  unfold kw_L_follows_872 at hq
  refine lv_iconst (v := 0) hx hb dL_follows_872 (by decide) ?_
  refine W.widen (k := (cl + 0)) (n := 6 * (cl + 0)) (by omega) (by omega) ?_
  exact kb_L_follows_873 hl0 hI C0 hK hT hN σ v2 v4 v16 (0 : Int32) hq (cl + 0) (by omega) H locs hP hS ls (lv_sub hl [0, 1, 2, 3] rfl)
def kw_L_follows_805 (Q : Int32 → ka_S → Prop) (σ : ka_S) (v2 : Int64) (v4 : Int32) (v7 : Int32) (v16 : Int32) (v17 : Int32) (v23 : Int64) (v25 : Int64) : Prop := (v23 = (-9 : Int64) → kw_L_follows_875 Q σ v2 v4 v7 v16) ∧
  (¬ v23 = (-9 : Int64) → (v7 = (0 : Int32) → kw_L_follows_875 Q σ v2 v4 v7 v16) ∧
    (¬ v7 = (0 : Int32) → kw0_L_forget σ v23.toInt32 (fun r102 σ103 =>
      (r102 = (v25 - (1 : Int64)) → kw0_L_part σ103 v16 v17 (3 : Int32) (fun r104 σ105 =>
        (r104 = (-9 : Int64) → kw_L_undo σ105 (fun r106 σ107 =>
          (r106 < (0 : Int64) → kw_L_follows_872 Q σ107 v2 v4 v16) ∧
          (¬ r106 < (0 : Int64) → kw_L_now σ107 (fun r108 σ109 =>
            (r108 = v2 → kw_L_follows_873 Q σ109 v2 v4 v16 (1 : Int32)) ∧
            (¬ r108 = v2 → kw_L_follows_872 Q σ109 v2 v4 v16))))) ∧
        (¬ r104 = (-9 : Int64) → kw_L_follows_872 Q σ105 v2 v4 v16))) ∧
      (¬ r102 = (v25 - (1 : Int64)) → kw_L_follows_872 Q σ103 v2 v4 v16))))
set_option maxHeartbeats 4000000 in
set_option maxRecDepth 100000 in
theorem kb_L_follows_805 {p : Program} {l : Launch} {e : Env} {s : State} {m : MethodId} {below : List Frame} {meth : Method} {c : Code} {G : ka_G} {args : Array Value} (hl0 : l.stackTraces = false) (hI : ka_I G) (C0 : ka_C p s m args meth c cL_follows 27 "GlossRowsLaw" (some .boolean)) (hK : ka_Kn G s) (hT : ka_T9 (ka_A G) s) (hN : kl_Nc s) {Q : Int32 → ka_S → Prop} : ∀ (σ : ka_S) (v2 : Int64) (v4 : Int32) (v7 : Int32) (v16 : Int32) (v17 : Int32) (v23 : Int64) (v25 : Int64), kw_L_follows_805 Q σ v2 v4 v7 v16 v17 v23 v25 → ∀ (cl : Nat), cl + 3 ≤ 12 → ∀ (H : Heap) (locs : List Loc), ka_P G σ H → va_S (ka_A G) s.heap H locs → ∀ ls : Array Slot, lv_has ls 27 [(0, .ref (ka_a G (22, 0, 0))), (2, .long v2), (4, .int v4), (7, .int v7), (16, .int v16), (17, .int v17), (23, .long v23), (25, .long v25)] → W p l e rm_L_follows s m args below meth c H locs cl (6 * cl) (MQ below (va_Qi Q (ka_B G) (ka_A G)) args s 12 72 (ka_A G)) (F0 m 805 ls []) := by
  obtain ⟨hx, hb, -, hml, hown, hts, -⟩ := id C0
  intro σ v2 v4 v7 v16 v17 v23 v25 hq cl hcl H locs hP hS ls hl
  unfold kw_L_follows_805 at hq
  refine lv_lload hx hb dL_follows_805 (lv_at hl 6 rfl) ?_
  refine lv_ldc2 hx hb hown (hts _ kq_957) dL_follows_807 ?_
  refine kr_ceq (tgt := 875) C0 dL_follows_810 dL_follows_811 (by decide) (fun hc => ?_) (fun hc => ?_)
  · have hq := hq.1 hc
    refine W.widen (k := (cl + 0)) (n := 6 * (cl + 0)) (by omega) (by omega) ?_
    exact kb_L_follows_875 hl0 hI C0 hK hT hN σ v2 v4 v7 v16 hq (cl + 0) (by omega) H locs hP hS ls (lv_sub hl [0, 1, 2, 3, 4] rfl)
  · have hq := hq.2 hc
    refine lv_iload hx hb dL_follows_814 (lv_at hl 3 rfl) ?_
    refine lv_if_eq (tgt := 875) hx hb dL_follows_816 (by decide) (fun hc => ?_) (fun hc => ?_)
    · have hq := hq.1 hc
      refine W.widen (k := (cl + 0)) (n := 6 * (cl + 0)) (by omega) (by omega) ?_
      exact kb_L_follows_875 hl0 hI C0 hK hT hN σ v2 v4 v7 v16 hq (cl + 0) (by omega) H locs hP hS ls (lv_sub hl [0, 1, 2, 3, 4] rfl)
    · have hq := hq.2 hc
      refine lv_aload_n hx hb dL_follows_819 rfl (lv_at hl 0 rfl) ?_
      refine lv_lload hx hb dL_follows_820 (lv_at hl 6 rfl) ?_
      refine lv_l2i hx hb dL_follows_822 rfl ?_
      refine kj_Wl (As := [.ref (ka_a G (22, 0, 0)), .int v23.toInt32]) (rest := []) C0 hK hT hN hP hS (fun _ h => h) hl (km0_L_forget l hl0 hI hq) kd_L_forget kq_939 ⟨rfl, rfl, Nat.le_of_ble_eq_true rfl, Nat.le_of_ble_eq_true rfl⟩ rfl (Nat.le_of_ble_eq_true rfl) dL_follows_823 ⟨by show _ ≤ 12; omega, by show _ ≤ 72; omega⟩ (fun r102 σ103 H locs hq hP hkp hS => ?_)
      refine lv_lload hx hb dL_follows_826 (lv_at hl 7 rfl) ?_
      refine lv_lconst (v := 1) hx hb dL_follows_828 (by decide) ?_
      refine lv_lsub hx hb dL_follows_829 ?_
      refine kr_cne (tgt := 872) C0 dL_follows_830 dL_follows_831 (by decide) (fun hc => ?_) (fun hc => ?_)
      · have hq := hq.2 hc
        refine W.widen (k := (cl + 0)) (n := 6 * (cl + 0)) (by omega) (by omega) ?_
        exact kb_L_follows_872 hl0 hI C0 hK hT hN σ103 v2 v4 v16 hq (cl + 0) (by omega) H locs hP hS ls (lv_sub hl [0, 1, 2, 4] rfl)
      · have hq := hq.1 hc
        refine lv_aload_n hx hb dL_follows_834 rfl (lv_at hl 0 rfl) ?_
        refine lv_iload hx hb dL_follows_835 (lv_at hl 4 rfl) ?_
        refine lv_iload hx hb dL_follows_837 (lv_at hl 5 rfl) ?_
        refine lv_iconst (v := 3) hx hb dL_follows_839 (by decide) ?_
        refine kj_Wl (As := [.ref (ka_a G (22, 0, 0)), .int v16, .int v17, .int (3 : Int32)]) (rest := []) C0 hK hT hN hP hS (fun _ h => h) hl (km0_L_part l hl0 hI hq) kd_L_part kq_609 ⟨rfl, rfl, Nat.le_of_ble_eq_true rfl, Nat.le_of_ble_eq_true rfl⟩ rfl (Nat.le_of_ble_eq_true rfl) dL_follows_840 ⟨by show _ ≤ 12; omega, by show _ ≤ 72; omega⟩ (fun r104 σ105 H locs hq hP hkp hS => ?_)
        refine lv_ldc2 hx hb hown (hts _ kq_957) dL_follows_843 ?_
        refine kr_cne (tgt := 872) C0 dL_follows_846 dL_follows_847 (by decide) (fun hc => ?_) (fun hc => ?_)
        · have hq := hq.2 hc
          refine W.widen (k := (cl + 0)) (n := 6 * (cl + 0)) (by omega) (by omega) ?_
          exact kb_L_follows_872 hl0 hI C0 hK hT hN σ105 v2 v4 v16 hq (cl + 0) (by omega) H locs hP hS ls (lv_sub hl [0, 1, 2, 4] rfl)
        · have hq := hq.1 hc
          refine lv_aload_n hx hb dL_follows_850 rfl (lv_at hl 0 rfl) ?_
          refine kj_Wl (As := [.ref (ka_a G (22, 0, 0))]) (rest := []) C0 hK hT hN hP hS (fun _ h => h) hl (km_L_undo l hl0 hI hq) kd_L_undo kq_966 ⟨rfl, rfl, Nat.le_of_ble_eq_true rfl, Nat.le_of_ble_eq_true rfl⟩ rfl (Nat.le_of_ble_eq_true rfl) dL_follows_851 ⟨by show _ ≤ 12; omega, by show _ ≤ 72; omega⟩ (fun r106 σ107 H locs hq hP hkp hS => ?_)
          refine lv_lconst (v := 0) hx hb dL_follows_854 (by decide) ?_
          refine kr_clt (tgt := 872) C0 dL_follows_855 dL_follows_856 (by decide) (fun hc => ?_) (fun hc => ?_)
          · have hq := hq.1 hc
            refine W.widen (k := (cl + 1)) (n := 6 * (cl + 1)) (by omega) (by omega) ?_
            exact kb_L_follows_872 hl0 hI C0 hK hT hN σ107 v2 v4 v16 hq (cl + 1) (by omega) H locs hP hS ls (lv_sub hl [0, 1, 2, 4] rfl)
          · have hq := hq.2 hc
            refine lv_aload_n hx hb dL_follows_859 rfl (lv_at hl 0 rfl) ?_
            refine kj_Sl (As := [.ref (ka_a G (22, 0, 0))]) (rest := []) C0 hK hT hN hP hS (fun _ h => h) hl (km_L_now l hl0 hI hq) kd_L_now kq_473 ⟨rfl, rfl, Nat.le_of_ble_eq_true rfl, Nat.le_of_ble_eq_true rfl⟩ rfl (Nat.le_of_ble_eq_true rfl) dL_follows_860 ⟨by show _ ≤ 12; omega, by show _ ≤ 72; omega⟩ (fun r108 σ109 H locs hq hP hkp hS => ?_)
            refine lv_lload_n hx hb dL_follows_863 rfl (lv_at hl 1 rfl) ?_
            refine kr_cne (tgt := 872) C0 dL_follows_864 dL_follows_865 (by decide) (fun hc => ?_) (fun hc => ?_)
            · have hq := hq.2 hc
              refine W.widen (k := (cl + 1)) (n := 6 * (cl + 1)) (by omega) (by omega) ?_
              exact kb_L_follows_872 hl0 hI C0 hK hT hN σ109 v2 v4 v16 hq (cl + 1) (by omega) H locs hP hS ls (lv_sub hl [0, 1, 2, 4] rfl)
            · have hq := hq.1 hc
              refine lv_iconst (v := 1) hx hb dL_follows_868 (by decide) ?_
              refine lv_goto (tgt := 873) hx hb dL_follows_869 (by decide) ?_
              refine W.widen (k := (cl + 1)) (n := 6 * (cl + 1)) (by omega) (by omega) ?_
              exact kb_L_follows_873 hl0 hI C0 hK hT hN σ109 v2 v4 v16 (1 : Int32) hq (cl + 1) (by omega) H locs hP hS ls (lv_sub hl [0, 1, 2, 4] rfl)
def kw_L_follows_803 (Q : Int32 → ka_S → Prop) (σ : ka_S) (v2 : Int64) (v4 : Int32) (v16 : Int32) (v17 : Int32) (v23 : Int64) (v25 : Int64) (t0 : Int32) : Prop := kw_L_follows_805 Q σ v2 v4 t0 v16 v17 v23 v25
set_option maxHeartbeats 4000000 in
set_option maxRecDepth 100000 in
theorem kb_L_follows_803 {p : Program} {l : Launch} {e : Env} {s : State} {m : MethodId} {below : List Frame} {meth : Method} {c : Code} {G : ka_G} {args : Array Value} (hl0 : l.stackTraces = false) (hI : ka_I G) (C0 : ka_C p s m args meth c cL_follows 27 "GlossRowsLaw" (some .boolean)) (hK : ka_Kn G s) (hT : ka_T9 (ka_A G) s) (hN : kl_Nc s) {Q : Int32 → ka_S → Prop} : ∀ (σ : ka_S) (v2 : Int64) (v4 : Int32) (v16 : Int32) (v17 : Int32) (v23 : Int64) (v25 : Int64) (t0 : Int32), kw_L_follows_803 Q σ v2 v4 v16 v17 v23 v25 t0 → ∀ (cl : Nat), cl + 3 ≤ 12 → ∀ (H : Heap) (locs : List Loc), ka_P G σ H → va_S (ka_A G) s.heap H locs → ∀ ls : Array Slot, lv_has ls 27 [(0, .ref (ka_a G (22, 0, 0))), (2, .long v2), (4, .int v4), (16, .int v16), (17, .int v17), (23, .long v23), (25, .long v25)] → W p l e rm_L_follows s m args below meth c H locs cl (6 * cl) (MQ below (va_Qi Q (ka_B G) (ka_A G)) args s 12 72 (ka_A G)) (F0 m 803 ls [.int t0]) := by
  obtain ⟨hx, hb, -, hml, hown, hts, -⟩ := id C0
  intro σ v2 v4 v16 v17 v23 v25 t0 hq cl hcl H locs hP hS ls hl
  unfold kw_L_follows_803 at hq
  refine lv_istore (lv' := [(7, .int t0), (0, .ref (ka_a G (22, 0, 0))), (2, .long v2), (4, .int v4), (16, .int v16), (17, .int v17), (23, .long v23), (25, .long v25)]) hx hb dL_follows_803 hl (by decide) rfl (fun ls hl => ?_)
  refine W.widen (k := (cl + 0)) (n := 6 * (cl + 0)) (by omega) (by omega) ?_
  exact kb_L_follows_805 hl0 hI C0 hK hT hN σ v2 v4 t0 v16 v17 v23 v25 hq (cl + 0) (by omega) H locs hP hS ls (lv_sub hl [1, 2, 3, 0, 4, 5, 6, 7] rfl)
def kw_L_follows_802 (Q : Int32 → ka_S → Prop) (σ : ka_S) (v2 : Int64) (v4 : Int32) (v16 : Int32) (v17 : Int32) (v23 : Int64) (v25 : Int64) : Prop := kw_L_follows_803 Q σ v2 v4 v16 v17 v23 v25 (0 : Int32)
set_option maxHeartbeats 4000000 in
set_option maxRecDepth 100000 in
theorem kb_L_follows_802 {p : Program} {l : Launch} {e : Env} {s : State} {m : MethodId} {below : List Frame} {meth : Method} {c : Code} {G : ka_G} {args : Array Value} (hl0 : l.stackTraces = false) (hI : ka_I G) (C0 : ka_C p s m args meth c cL_follows 27 "GlossRowsLaw" (some .boolean)) (hK : ka_Kn G s) (hT : ka_T9 (ka_A G) s) (hN : kl_Nc s) {Q : Int32 → ka_S → Prop} : ∀ (σ : ka_S) (v2 : Int64) (v4 : Int32) (v16 : Int32) (v17 : Int32) (v23 : Int64) (v25 : Int64), kw_L_follows_802 Q σ v2 v4 v16 v17 v23 v25 → ∀ (cl : Nat), cl + 3 ≤ 12 → ∀ (H : Heap) (locs : List Loc), ka_P G σ H → va_S (ka_A G) s.heap H locs → ∀ ls : Array Slot, lv_has ls 27 [(0, .ref (ka_a G (22, 0, 0))), (2, .long v2), (4, .int v4), (16, .int v16), (17, .int v17), (23, .long v23), (25, .long v25)] → W p l e rm_L_follows s m args below meth c H locs cl (6 * cl) (MQ below (va_Qi Q (ka_B G) (ka_A G)) args s 12 72 (ka_A G)) (F0 m 802 ls []) := by
  obtain ⟨hx, hb, -, hml, hown, hts, -⟩ := id C0
  intro σ v2 v4 v16 v17 v23 v25 hq cl hcl H locs hP hS ls hl
  unfold kw_L_follows_802 at hq
  refine lv_iconst (v := 0) hx hb dL_follows_802 (by decide) ?_
  refine W.widen (k := (cl + 0)) (n := 6 * (cl + 0)) (by omega) (by omega) ?_
  exact kb_L_follows_803 hl0 hI C0 hK hT hN σ v2 v4 v16 v17 v23 v25 (0 : Int32) hq (cl + 0) (by omega) H locs hP hS ls (lv_sub hl [0, 1, 2, 3, 4, 5, 6] rfl)
def kw_L_follows_718 (Q : Int32 → ka_S → Prop) (σ : ka_S) (v2 : Int64) (v4 : Int32) (v16 : Int32) (v17 : Int32) (v23 : Int64) (v25 : Int64) (t0 : Int64) (t1 : Int64) (t2 : Int64) : Prop := (t0 = (t1 + t2) → kw0_L_part σ v16 v17 (3 : Int32) (fun r118 σ119 =>
    (r118 = (-9 : Int64) → kw_L_follows_802 Q σ119 v2 v4 v16 v17 v23 v25) ∧
    (¬ r118 = (-9 : Int64) → kw0_L_part σ119 v16 v17 (3 : Int32) (fun r120 σ121 =>
      kw0_L_entry σ121 r120.toInt32 (1 : Int32) (0 : Int32) (fun r122 σ123 =>
      kw0_L_letter σ123 v16 v17 (1 : Int32) (0 : Int32) (fun r124 σ125 =>
      (r122 = r124 → kw0_L_about σ125 (8 : Int32) (fun r126 σ127 =>
        (r126 < (0 : Int64) → kw_L_follows_802 Q σ127 v2 v4 v16 v17 v23 v25) ∧
        (¬ r126 < (0 : Int64) → kw_L_undo σ127 (fun r128 σ129 =>
          (r128 < (0 : Int64) → kw_L_follows_802 Q σ129 v2 v4 v16 v17 v23 v25) ∧
          (¬ r128 < (0 : Int64) → kw_L_now σ129 (fun r130 σ131 =>
            (r130 = v2 → kw_L_follows_803 Q σ131 v2 v4 v16 v17 v23 v25 (1 : Int32)) ∧
            (¬ r130 = v2 → kw_L_follows_802 Q σ131 v2 v4 v16 v17 v23 v25))))))) ∧
      (¬ r122 = r124 → kw_L_follows_802 Q σ125 v2 v4 v16 v17 v23 v25))))))) ∧
  (¬ t0 = (t1 + t2) → kw_L_follows_802 Q σ v2 v4 v16 v17 v23 v25)
set_option maxHeartbeats 4000000 in
set_option maxRecDepth 100000 in
theorem kb_L_follows_718 {p : Program} {l : Launch} {e : Env} {s : State} {m : MethodId} {below : List Frame} {meth : Method} {c : Code} {G : ka_G} {args : Array Value} (hl0 : l.stackTraces = false) (hI : ka_I G) (C0 : ka_C p s m args meth c cL_follows 27 "GlossRowsLaw" (some .boolean)) (hK : ka_Kn G s) (hT : ka_T9 (ka_A G) s) (hN : kl_Nc s) {Q : Int32 → ka_S → Prop} : ∀ (σ : ka_S) (v2 : Int64) (v4 : Int32) (v16 : Int32) (v17 : Int32) (v23 : Int64) (v25 : Int64) (t0 : Int64) (t1 : Int64) (t2 : Int64), kw_L_follows_718 Q σ v2 v4 v16 v17 v23 v25 t0 t1 t2 → ∀ (cl : Nat), cl + 4 ≤ 12 → ∀ (H : Heap) (locs : List Loc), ka_P G σ H → va_S (ka_A G) s.heap H locs → ∀ ls : Array Slot, lv_has ls 27 [(0, .ref (ka_a G (22, 0, 0))), (2, .long v2), (4, .int v4), (16, .int v16), (17, .int v17), (23, .long v23), (25, .long v25)] → W p l e rm_L_follows s m args below meth c H locs cl (6 * cl) (MQ below (va_Qi Q (ka_B G) (ka_A G)) args s 12 72 (ka_A G)) (F0 m 718 ls [.long t2, .long t1, .long t0]) := by
  obtain ⟨hx, hb, -, hml, hown, hts, -⟩ := id C0
  intro σ v2 v4 v16 v17 v23 v25 t0 t1 t2 hq cl hcl H locs hP hS ls hl
  unfold kw_L_follows_718 at hq
  refine lv_ladd hx hb dL_follows_718 ?_
  refine kr_cne (tgt := 802) C0 dL_follows_719 dL_follows_720 (by decide) (fun hc => ?_) (fun hc => ?_)
  · have hq := hq.2 hc
    refine W.widen (k := (cl + 0)) (n := 6 * (cl + 0)) (by omega) (by omega) ?_
    exact kb_L_follows_802 hl0 hI C0 hK hT hN σ v2 v4 v16 v17 v23 v25 hq (cl + 0) (by omega) H locs hP hS ls (lv_sub hl [0, 1, 2, 3, 4, 5, 6] rfl)
  · have hq := hq.1 hc
    refine lv_aload_n hx hb dL_follows_723 rfl (lv_at hl 0 rfl) ?_
    refine lv_iload hx hb dL_follows_724 (lv_at hl 3 rfl) ?_
    refine lv_iload hx hb dL_follows_726 (lv_at hl 4 rfl) ?_
    refine lv_iconst (v := 3) hx hb dL_follows_728 (by decide) ?_
    refine kj_Wl (As := [.ref (ka_a G (22, 0, 0)), .int v16, .int v17, .int (3 : Int32)]) (rest := []) C0 hK hT hN hP hS (fun _ h => h) hl (km0_L_part l hl0 hI hq) kd_L_part kq_609 ⟨rfl, rfl, Nat.le_of_ble_eq_true rfl, Nat.le_of_ble_eq_true rfl⟩ rfl (Nat.le_of_ble_eq_true rfl) dL_follows_729 ⟨by show _ ≤ 12; omega, by show _ ≤ 72; omega⟩ (fun r118 σ119 H locs hq hP hkp hS => ?_)
    refine lv_ldc2 hx hb hown (hts _ kq_957) dL_follows_732 ?_
    refine kr_ceq (tgt := 802) C0 dL_follows_735 dL_follows_736 (by decide) (fun hc => ?_) (fun hc => ?_)
    · have hq := hq.1 hc
      refine W.widen (k := (cl + 0)) (n := 6 * (cl + 0)) (by omega) (by omega) ?_
      exact kb_L_follows_802 hl0 hI C0 hK hT hN σ119 v2 v4 v16 v17 v23 v25 hq (cl + 0) (by omega) H locs hP hS ls (lv_sub hl [0, 1, 2, 3, 4, 5, 6] rfl)
    · have hq := hq.2 hc
      refine lv_aload_n hx hb dL_follows_739 rfl (lv_at hl 0 rfl) ?_
      refine lv_aload_n hx hb dL_follows_740 rfl (lv_at hl 0 rfl) ?_
      refine lv_iload hx hb dL_follows_741 (lv_at hl 3 rfl) ?_
      refine lv_iload hx hb dL_follows_743 (lv_at hl 4 rfl) ?_
      refine lv_iconst (v := 3) hx hb dL_follows_745 (by decide) ?_
      refine kj_Wl (As := [.ref (ka_a G (22, 0, 0)), .int v16, .int v17, .int (3 : Int32)]) (rest := [.ref (ka_a G (22, 0, 0))]) C0 hK hT hN hP hS (fun _ h => h) hl (km0_L_part l hl0 hI hq) kd_L_part kq_609 ⟨rfl, rfl, Nat.le_of_ble_eq_true rfl, Nat.le_of_ble_eq_true rfl⟩ rfl (Nat.le_of_ble_eq_true rfl) dL_follows_746 ⟨by show _ ≤ 12; omega, by show _ ≤ 72; omega⟩ (fun r120 σ121 H locs hq hP hkp hS => ?_)
      refine lv_l2i hx hb dL_follows_749 rfl ?_
      refine lv_iconst (v := 1) hx hb dL_follows_750 (by decide) ?_
      refine lv_iconst (v := 0) hx hb dL_follows_751 (by decide) ?_
      refine kj_Wl (As := [.ref (ka_a G (22, 0, 0)), .int r120.toInt32, .int (1 : Int32), .int (0 : Int32)]) (rest := []) C0 hK hT hN hP hS (fun _ h => h) hl (km0_L_entry l hl0 hI hq) kd_L_entry kq_620 ⟨rfl, rfl, Nat.le_of_ble_eq_true rfl, Nat.le_of_ble_eq_true rfl⟩ rfl (Nat.le_of_ble_eq_true rfl) dL_follows_752 ⟨by show _ ≤ 12; omega, by show _ ≤ 72; omega⟩ (fun r122 σ123 H locs hq hP hkp hS => ?_)
      refine lv_aload_n hx hb dL_follows_755 rfl (lv_at hl 0 rfl) ?_
      refine lv_iload hx hb dL_follows_756 (lv_at hl 3 rfl) ?_
      refine lv_iload hx hb dL_follows_758 (lv_at hl 4 rfl) ?_
      refine lv_iconst (v := 1) hx hb dL_follows_760 (by decide) ?_
      refine lv_iconst (v := 0) hx hb dL_follows_761 (by decide) ?_
      refine kj_Wl (As := [.ref (ka_a G (22, 0, 0)), .int v16, .int v17, .int (1 : Int32), .int (0 : Int32)]) (rest := [.long r122]) C0 hK hT hN hP hS (fun _ h => h) hl (km0_L_letter l hl0 hI hq) kd_L_letter kq_582 ⟨rfl, rfl, Nat.le_of_ble_eq_true rfl, Nat.le_of_ble_eq_true rfl⟩ rfl (Nat.le_of_ble_eq_true rfl) dL_follows_762 ⟨by show _ ≤ 12; omega, by show _ ≤ 72; omega⟩ (fun r124 σ125 H locs hq hP hkp hS => ?_)
      refine kr_cne (tgt := 802) C0 dL_follows_765 dL_follows_766 (by decide) (fun hc => ?_) (fun hc => ?_)
      · have hq := hq.2 hc
        refine W.widen (k := (cl + 0)) (n := 6 * (cl + 0)) (by omega) (by omega) ?_
        exact kb_L_follows_802 hl0 hI C0 hK hT hN σ125 v2 v4 v16 v17 v23 v25 hq (cl + 0) (by omega) H locs hP hS ls (lv_sub hl [0, 1, 2, 3, 4, 5, 6] rfl)
      · have hq := hq.1 hc
        refine lv_aload_n hx hb dL_follows_769 rfl (lv_at hl 0 rfl) ?_
        refine lv_bipush (v := 8) hx hb dL_follows_770 (by decide) ?_
        refine kj_Wl (As := [.ref (ka_a G (22, 0, 0)), .int (8 : Int32)]) (rest := []) C0 hK hT hN hP hS (fun _ h => h) hl (km0_L_about l hl0 hI hq) kd_L_about kq_478 ⟨rfl, rfl, Nat.le_of_ble_eq_true rfl, Nat.le_of_ble_eq_true rfl⟩ rfl (Nat.le_of_ble_eq_true rfl) dL_follows_772 ⟨by show _ ≤ 12; omega, by show _ ≤ 72; omega⟩ (fun r126 σ127 H locs hq hP hkp hS => ?_)
        refine lv_lconst (v := 0) hx hb dL_follows_775 (by decide) ?_
        refine kr_clt (tgt := 802) C0 dL_follows_776 dL_follows_777 (by decide) (fun hc => ?_) (fun hc => ?_)
        · have hq := hq.1 hc
          refine W.widen (k := (cl + 0)) (n := 6 * (cl + 0)) (by omega) (by omega) ?_
          exact kb_L_follows_802 hl0 hI C0 hK hT hN σ127 v2 v4 v16 v17 v23 v25 hq (cl + 0) (by omega) H locs hP hS ls (lv_sub hl [0, 1, 2, 3, 4, 5, 6] rfl)
        · have hq := hq.2 hc
          refine lv_aload_n hx hb dL_follows_780 rfl (lv_at hl 0 rfl) ?_
          refine kj_Wl (As := [.ref (ka_a G (22, 0, 0))]) (rest := []) C0 hK hT hN hP hS (fun _ h => h) hl (km_L_undo l hl0 hI hq) kd_L_undo kq_966 ⟨rfl, rfl, Nat.le_of_ble_eq_true rfl, Nat.le_of_ble_eq_true rfl⟩ rfl (Nat.le_of_ble_eq_true rfl) dL_follows_781 ⟨by show _ ≤ 12; omega, by show _ ≤ 72; omega⟩ (fun r128 σ129 H locs hq hP hkp hS => ?_)
          refine lv_lconst (v := 0) hx hb dL_follows_784 (by decide) ?_
          refine kr_clt (tgt := 802) C0 dL_follows_785 dL_follows_786 (by decide) (fun hc => ?_) (fun hc => ?_)
          · have hq := hq.1 hc
            refine W.widen (k := (cl + 1)) (n := 6 * (cl + 1)) (by omega) (by omega) ?_
            exact kb_L_follows_802 hl0 hI C0 hK hT hN σ129 v2 v4 v16 v17 v23 v25 hq (cl + 1) (by omega) H locs hP hS ls (lv_sub hl [0, 1, 2, 3, 4, 5, 6] rfl)
          · have hq := hq.2 hc
            refine lv_aload_n hx hb dL_follows_789 rfl (lv_at hl 0 rfl) ?_
            refine kj_Sl (As := [.ref (ka_a G (22, 0, 0))]) (rest := []) C0 hK hT hN hP hS (fun _ h => h) hl (km_L_now l hl0 hI hq) kd_L_now kq_473 ⟨rfl, rfl, Nat.le_of_ble_eq_true rfl, Nat.le_of_ble_eq_true rfl⟩ rfl (Nat.le_of_ble_eq_true rfl) dL_follows_790 ⟨by show _ ≤ 12; omega, by show _ ≤ 72; omega⟩ (fun r130 σ131 H locs hq hP hkp hS => ?_)
            refine lv_lload_n hx hb dL_follows_793 rfl (lv_at hl 1 rfl) ?_
            refine kr_cne (tgt := 802) C0 dL_follows_794 dL_follows_795 (by decide) (fun hc => ?_) (fun hc => ?_)
            · have hq := hq.2 hc
              refine W.widen (k := (cl + 1)) (n := 6 * (cl + 1)) (by omega) (by omega) ?_
              exact kb_L_follows_802 hl0 hI C0 hK hT hN σ131 v2 v4 v16 v17 v23 v25 hq (cl + 1) (by omega) H locs hP hS ls (lv_sub hl [0, 1, 2, 3, 4, 5, 6] rfl)
            · have hq := hq.1 hc
              refine lv_iconst (v := 1) hx hb dL_follows_798 (by decide) ?_
              refine lv_goto (tgt := 803) hx hb dL_follows_799 (by decide) ?_
              refine W.widen (k := (cl + 1)) (n := 6 * (cl + 1)) (by omega) (by omega) ?_
              exact kb_L_follows_803 hl0 hI C0 hK hT hN σ131 v2 v4 v16 v17 v23 v25 (1 : Int32) hq (cl + 1) (by omega) H locs hP hS ls (lv_sub hl [0, 1, 2, 3, 4, 5, 6] rfl)
def kw_L_follows_689 (Q : Int32 → ka_S → Prop) (σ : ka_S) (v2 : Int64) (v4 : Int32) (v7 : Int32) (v16 : Int32) (v17 : Int32) (v23 : Int64) (v25 : Int64) : Prop := (v7 = (0 : Int32) → kw_L_follows_805 Q σ v2 v4 v7 v16 v17 v23 v25) ∧
  (¬ v7 = (0 : Int32) → kw0_L_learn σ v16 v17 (fun r110 σ111 =>
    (v23 = (-9 : Int64) → kw_L_follows_718 Q σ111 v2 v4 v16 v17 v23 v25 r110 v25 (1 : Int64)) ∧
    (¬ v23 = (-9 : Int64) → kw_L_follows_718 Q σ111 v2 v4 v16 v17 v23 v25 r110 v25 (0 : Int64))))
set_option maxHeartbeats 4000000 in
set_option maxRecDepth 100000 in
theorem kb_L_follows_689 {p : Program} {l : Launch} {e : Env} {s : State} {m : MethodId} {below : List Frame} {meth : Method} {c : Code} {G : ka_G} {args : Array Value} (hl0 : l.stackTraces = false) (hI : ka_I G) (C0 : ka_C p s m args meth c cL_follows 27 "GlossRowsLaw" (some .boolean)) (hK : ka_Kn G s) (hT : ka_T9 (ka_A G) s) (hN : kl_Nc s) {Q : Int32 → ka_S → Prop} : ∀ (σ : ka_S) (v2 : Int64) (v4 : Int32) (v7 : Int32) (v16 : Int32) (v17 : Int32) (v23 : Int64) (v25 : Int64), kw_L_follows_689 Q σ v2 v4 v7 v16 v17 v23 v25 → ∀ (cl : Nat), cl + 4 ≤ 12 → ∀ (H : Heap) (locs : List Loc), ka_P G σ H → va_S (ka_A G) s.heap H locs → ∀ ls : Array Slot, lv_has ls 27 [(0, .ref (ka_a G (22, 0, 0))), (2, .long v2), (4, .int v4), (7, .int v7), (16, .int v16), (17, .int v17), (23, .long v23), (25, .long v25)] → W p l e rm_L_follows s m args below meth c H locs cl (6 * cl) (MQ below (va_Qi Q (ka_B G) (ka_A G)) args s 12 72 (ka_A G)) (F0 m 689 ls []) := by
  obtain ⟨hx, hb, -, hml, hown, hts, -⟩ := id C0
  intro σ v2 v4 v7 v16 v17 v23 v25 hq cl hcl H locs hP hS ls hl
  unfold kw_L_follows_689 at hq
  refine lv_iload hx hb dL_follows_689 (lv_at hl 3 rfl) ?_
  refine lv_if_eq (tgt := 805) hx hb dL_follows_691 (by decide) (fun hc => ?_) (fun hc => ?_)
  · have hq := hq.1 hc
    refine W.widen (k := (cl + 0)) (n := 6 * (cl + 0)) (by omega) (by omega) ?_
    exact kb_L_follows_805 hl0 hI C0 hK hT hN σ v2 v4 v7 v16 v17 v23 v25 hq (cl + 0) (by omega) H locs hP hS ls (lv_sub hl [0, 1, 2, 3, 4, 5, 6, 7] rfl)
  · have hq := hq.2 hc
    refine lv_aload_n hx hb dL_follows_694 rfl (lv_at hl 0 rfl) ?_
    refine lv_iload hx hb dL_follows_695 (lv_at hl 4 rfl) ?_
    refine lv_iload hx hb dL_follows_697 (lv_at hl 5 rfl) ?_
    refine kj_Wl (As := [.ref (ka_a G (22, 0, 0)), .int v16, .int v17]) (rest := []) C0 hK hT hN hP hS (fun _ h => h) hl (km0_L_learn l hl0 hI hq) kd_L_learn kq_931 ⟨rfl, rfl, Nat.le_of_ble_eq_true rfl, Nat.le_of_ble_eq_true rfl⟩ rfl (Nat.le_of_ble_eq_true rfl) dL_follows_699 ⟨by show _ ≤ 12; omega, by show _ ≤ 72; omega⟩ (fun r110 σ111 H locs hq hP hkp hS => ?_)
    refine lv_lload hx hb dL_follows_702 (lv_at hl 7 rfl) ?_
    refine lv_lload hx hb dL_follows_704 (lv_at hl 6 rfl) ?_
    refine lv_ldc2 hx hb hown (hts _ kq_957) dL_follows_706 ?_
    refine kr_cne (tgt := 717) C0 dL_follows_709 dL_follows_710 (by decide) (fun hc => ?_) (fun hc => ?_)
    · have hq := hq.2 hc
      refine lv_lconst (v := 0) hx hb dL_follows_717 (by decide) ?_
      refine W.widen (k := (cl + 0)) (n := 6 * (cl + 0)) (by omega) (by omega) ?_
      exact kb_L_follows_718 hl0 hI C0 hK hT hN σ111 v2 v4 v16 v17 v23 v25 r110 v25 (0 : Int64) hq (cl + 0) (by omega) H locs hP hS ls (lv_sub hl [0, 1, 2, 4, 5, 6, 7] rfl)
    · have hq := hq.1 hc
      refine lv_lconst (v := 1) hx hb dL_follows_713 (by decide) ?_
      refine lv_goto (tgt := 718) hx hb dL_follows_714 (by decide) ?_
      refine W.widen (k := (cl + 0)) (n := 6 * (cl + 0)) (by omega) (by omega) ?_
      exact kb_L_follows_718 hl0 hI C0 hK hT hN σ111 v2 v4 v16 v17 v23 v25 r110 v25 (1 : Int64) hq (cl + 0) (by omega) H locs hP hS ls (lv_sub hl [0, 1, 2, 4, 5, 6, 7] rfl)
def kw_L_follows_636 (Q : Int32 → ka_S → Prop) (σ : ka_S) (v2 : Int64) (v4 : Int32) (v16 : Int32) (v17 : Int32) (t0 : Int32) : Prop := kw0_L_part σ v16 v17 (3 : Int32) (fun r88 σ89 =>
  kw0_L_about σ89 (7 : Int32) (fun r90 σ91 =>
  kw0_L_part σ91 v16 v17 (1 : Int32) (fun r92 σ93 =>
  (r92 ≤ (0 : Int64) → kw_L_follows_805 Q σ93 v2 v4 t0 v16 v17 r88 r90) ∧
  (¬ r92 ≤ (0 : Int64) → (r88 = (-9 : Int64) → ((16 : Int64) ≤ r90 → kw_L_follows_805 Q σ93 v2 v4 t0 v16 v17 r88 r90) ∧
      (¬ (16 : Int64) ≤ r90 → kw_L_follows_689 Q σ93 v2 v4 t0 v16 v17 r88 r90)) ∧
    (¬ r88 = (-9 : Int64) → kw_L_follows_689 Q σ93 v2 v4 t0 v16 v17 r88 r90)))))
set_option maxHeartbeats 4000000 in
set_option maxRecDepth 100000 in
theorem kb_L_follows_636 {p : Program} {l : Launch} {e : Env} {s : State} {m : MethodId} {below : List Frame} {meth : Method} {c : Code} {G : ka_G} {args : Array Value} (hl0 : l.stackTraces = false) (hI : ka_I G) (C0 : ka_C p s m args meth c cL_follows 27 "GlossRowsLaw" (some .boolean)) (hK : ka_Kn G s) (hT : ka_T9 (ka_A G) s) (hN : kl_Nc s) {Q : Int32 → ka_S → Prop} : ∀ (σ : ka_S) (v2 : Int64) (v4 : Int32) (v16 : Int32) (v17 : Int32) (t0 : Int32), kw_L_follows_636 Q σ v2 v4 v16 v17 t0 → ∀ (cl : Nat), cl + 4 ≤ 12 → ∀ (H : Heap) (locs : List Loc), ka_P G σ H → va_S (ka_A G) s.heap H locs → ∀ ls : Array Slot, lv_has ls 27 [(0, .ref (ka_a G (22, 0, 0))), (2, .long v2), (4, .int v4), (16, .int v16), (17, .int v17)] → W p l e rm_L_follows s m args below meth c H locs cl (6 * cl) (MQ below (va_Qi Q (ka_B G) (ka_A G)) args s 12 72 (ka_A G)) (F0 m 636 ls [.int t0]) := by
  obtain ⟨hx, hb, -, hml, hown, hts, -⟩ := id C0
  intro σ v2 v4 v16 v17 t0 hq cl hcl H locs hP hS ls hl
  unfold kw_L_follows_636 at hq
  refine lv_istore (lv' := [(7, .int t0), (0, .ref (ka_a G (22, 0, 0))), (2, .long v2), (4, .int v4), (16, .int v16), (17, .int v17)]) hx hb dL_follows_636 hl (by decide) rfl (fun ls hl => ?_)
  refine lv_aload_n hx hb dL_follows_638 rfl (lv_at hl 1 rfl) ?_
  refine lv_iload hx hb dL_follows_639 (lv_at hl 4 rfl) ?_
  refine lv_iload hx hb dL_follows_641 (lv_at hl 5 rfl) ?_
  refine lv_iconst (v := 3) hx hb dL_follows_643 (by decide) ?_
  refine kj_Wl (As := [.ref (ka_a G (22, 0, 0)), .int v16, .int v17, .int (3 : Int32)]) (rest := []) C0 hK hT hN hP hS (fun _ h => h) hl (km0_L_part l hl0 hI hq) kd_L_part kq_609 ⟨rfl, rfl, Nat.le_of_ble_eq_true rfl, Nat.le_of_ble_eq_true rfl⟩ rfl (Nat.le_of_ble_eq_true rfl) dL_follows_644 ⟨by show _ ≤ 12; omega, by show _ ≤ 72; omega⟩ (fun r88 σ89 H locs hq hP hkp hS => ?_)
  refine lv_lstore (lv' := [(23, .long r88), (7, .int t0), (0, .ref (ka_a G (22, 0, 0))), (2, .long v2), (4, .int v4), (16, .int v16), (17, .int v17)]) hx hb dL_follows_647 hl (by decide) rfl (fun ls hl => ?_)
  refine lv_aload_n hx hb dL_follows_649 rfl (lv_at hl 2 rfl) ?_
  refine lv_bipush (v := 7) hx hb dL_follows_650 (by decide) ?_
  refine kj_Wl (As := [.ref (ka_a G (22, 0, 0)), .int (7 : Int32)]) (rest := []) C0 hK hT hN hP hS (fun _ h => h) hl (km0_L_about l hl0 hI hq) kd_L_about kq_478 ⟨rfl, rfl, Nat.le_of_ble_eq_true rfl, Nat.le_of_ble_eq_true rfl⟩ rfl (Nat.le_of_ble_eq_true rfl) dL_follows_652 ⟨by show _ ≤ 12; omega, by show _ ≤ 72; omega⟩ (fun r90 σ91 H locs hq hP hkp hS => ?_)
  refine lv_lstore (lv' := [(25, .long r90), (23, .long r88), (7, .int t0), (0, .ref (ka_a G (22, 0, 0))), (2, .long v2), (4, .int v4), (16, .int v16), (17, .int v17)]) hx hb dL_follows_655 hl (by decide) rfl (fun ls hl => ?_)
  refine lv_aload_n hx hb dL_follows_657 rfl (lv_at hl 3 rfl) ?_
  refine lv_iload hx hb dL_follows_658 (lv_at hl 6 rfl) ?_
  refine lv_iload hx hb dL_follows_660 (lv_at hl 7 rfl) ?_
  refine lv_iconst (v := 1) hx hb dL_follows_662 (by decide) ?_
  refine kj_Wl (As := [.ref (ka_a G (22, 0, 0)), .int v16, .int v17, .int (1 : Int32)]) (rest := []) C0 hK hT hN hP hS (fun _ h => h) hl (km0_L_part l hl0 hI hq) kd_L_part kq_609 ⟨rfl, rfl, Nat.le_of_ble_eq_true rfl, Nat.le_of_ble_eq_true rfl⟩ rfl (Nat.le_of_ble_eq_true rfl) dL_follows_663 ⟨by show _ ≤ 12; omega, by show _ ≤ 72; omega⟩ (fun r92 σ93 H locs hq hP hkp hS => ?_)
  refine lv_lconst (v := 0) hx hb dL_follows_666 (by decide) ?_
  refine kr_cle (tgt := 805) C0 dL_follows_667 dL_follows_668 (by decide) (fun hc => ?_) (fun hc => ?_)
  · have hq := hq.1 hc
    refine W.widen (k := (cl + 0)) (n := 6 * (cl + 0)) (by omega) (by omega) ?_
    exact kb_L_follows_805 hl0 hI C0 hK hT hN σ93 v2 v4 t0 v16 v17 r88 r90 hq (cl + 0) (by omega) H locs hP hS ls (lv_sub hl [3, 4, 5, 2, 6, 7, 1, 0] rfl)
  · have hq := hq.2 hc
    refine lv_lload hx hb dL_follows_671 (lv_at hl 1 rfl) ?_
    refine lv_ldc2 hx hb hown (hts _ kq_957) dL_follows_673 ?_
    refine kr_cne (tgt := 689) C0 dL_follows_676 dL_follows_677 (by decide) (fun hc => ?_) (fun hc => ?_)
    · have hq := hq.2 hc
      refine W.widen (k := (cl + 0)) (n := 6 * (cl + 0)) (by omega) (by omega) ?_
      exact kb_L_follows_689 hl0 hI C0 hK hT hN σ93 v2 v4 t0 v16 v17 r88 r90 hq (cl + 0) (by omega) H locs hP hS ls (lv_sub hl [3, 4, 5, 2, 6, 7, 1, 0] rfl)
    · have hq := hq.1 hc
      refine lv_lload hx hb dL_follows_680 (lv_at hl 0 rfl) ?_
      refine lv_ldc2 hx hb hown (hts _ kq_961) dL_follows_682 ?_
      refine kr_cge (tgt := 805) C0 dL_follows_685 dL_follows_686 (by decide) (fun hc => ?_) (fun hc => ?_)
      · have hq := hq.1 hc
        refine W.widen (k := (cl + 0)) (n := 6 * (cl + 0)) (by omega) (by omega) ?_
        exact kb_L_follows_805 hl0 hI C0 hK hT hN σ93 v2 v4 t0 v16 v17 r88 r90 hq (cl + 0) (by omega) H locs hP hS ls (lv_sub hl [3, 4, 5, 2, 6, 7, 1, 0] rfl)
      · have hq := hq.2 hc
        refine W.widen (k := (cl + 0)) (n := 6 * (cl + 0)) (by omega) (by omega) ?_
        exact kb_L_follows_689 hl0 hI C0 hK hT hN σ93 v2 v4 t0 v16 v17 r88 r90 hq (cl + 0) (by omega) H locs hP hS ls (lv_sub hl [3, 4, 5, 2, 6, 7, 1, 0] rfl)
def kw_L_follows_635 (Q : Int32 → ka_S → Prop) (σ : ka_S) (v2 : Int64) (v4 : Int32) (v16 : Int32) (v17 : Int32) : Prop := kw_L_follows_636 Q σ v2 v4 v16 v17 (0 : Int32)
set_option maxHeartbeats 4000000 in
set_option maxRecDepth 100000 in
theorem kb_L_follows_635 {p : Program} {l : Launch} {e : Env} {s : State} {m : MethodId} {below : List Frame} {meth : Method} {c : Code} {G : ka_G} {args : Array Value} (hl0 : l.stackTraces = false) (hI : ka_I G) (C0 : ka_C p s m args meth c cL_follows 27 "GlossRowsLaw" (some .boolean)) (hK : ka_Kn G s) (hT : ka_T9 (ka_A G) s) (hN : kl_Nc s) {Q : Int32 → ka_S → Prop} : ∀ (σ : ka_S) (v2 : Int64) (v4 : Int32) (v16 : Int32) (v17 : Int32), kw_L_follows_635 Q σ v2 v4 v16 v17 → ∀ (cl : Nat), cl + 4 ≤ 12 → ∀ (H : Heap) (locs : List Loc), ka_P G σ H → va_S (ka_A G) s.heap H locs → ∀ ls : Array Slot, lv_has ls 27 [(0, .ref (ka_a G (22, 0, 0))), (2, .long v2), (4, .int v4), (16, .int v16), (17, .int v17)] → W p l e rm_L_follows s m args below meth c H locs cl (6 * cl) (MQ below (va_Qi Q (ka_B G) (ka_A G)) args s 12 72 (ka_A G)) (F0 m 635 ls []) := by
  obtain ⟨hx, hb, -, hml, hown, hts, -⟩ := id C0
  intro σ v2 v4 v16 v17 hq cl hcl H locs hP hS ls hl
  unfold kw_L_follows_635 at hq
  refine lv_iconst (v := 0) hx hb dL_follows_635 (by decide) ?_
  refine W.widen (k := (cl + 0)) (n := 6 * (cl + 0)) (by omega) (by omega) ?_
  exact kb_L_follows_636 hl0 hI C0 hK hT hN σ v2 v4 v16 v17 (0 : Int32) hq (cl + 0) (by omega) H locs hP hS ls (lv_sub hl [0, 1, 2, 3, 4] rfl)
def kw_L_follows_583 (Q : Int32 → ka_S → Prop) (σ : ka_S) (v2 : Int64) (v4 : Int32) (v16 : Int32) (v17 : Int32) (t0 : Int64) (t1 : Int64) (t2 : Int64) : Prop := (t0 = (t1 - t2) → kw0_L_word σ v16 (5 : Int32) (fun r94 σ95 =>
    (r94 = (0 : Int64) → kw0_L_word σ95 v16 (7 : Int32) (fun r96 σ97 =>
      (r96 = (0 : Int64) → kw_L_undo σ97 (fun r98 σ99 =>
        (r98 < (0 : Int64) → kw_L_follows_635 Q σ99 v2 v4 v16 v17) ∧
        (¬ r98 < (0 : Int64) → kw_L_now σ99 (fun r100 σ101 =>
          (r100 = v2 → kw_L_follows_636 Q σ101 v2 v4 v16 v17 (1 : Int32)) ∧
          (¬ r100 = v2 → kw_L_follows_635 Q σ101 v2 v4 v16 v17))))) ∧
      (¬ r96 = (0 : Int64) → kw_L_follows_635 Q σ97 v2 v4 v16 v17))) ∧
    (¬ r94 = (0 : Int64) → kw_L_follows_635 Q σ95 v2 v4 v16 v17))) ∧
  (¬ t0 = (t1 - t2) → kw_L_follows_635 Q σ v2 v4 v16 v17)
set_option maxHeartbeats 4000000 in
set_option maxRecDepth 100000 in
theorem kb_L_follows_583 {p : Program} {l : Launch} {e : Env} {s : State} {m : MethodId} {below : List Frame} {meth : Method} {c : Code} {G : ka_G} {args : Array Value} (hl0 : l.stackTraces = false) (hI : ka_I G) (C0 : ka_C p s m args meth c cL_follows 27 "GlossRowsLaw" (some .boolean)) (hK : ka_Kn G s) (hT : ka_T9 (ka_A G) s) (hN : kl_Nc s) {Q : Int32 → ka_S → Prop} : ∀ (σ : ka_S) (v2 : Int64) (v4 : Int32) (v16 : Int32) (v17 : Int32) (t0 : Int64) (t1 : Int64) (t2 : Int64), kw_L_follows_583 Q σ v2 v4 v16 v17 t0 t1 t2 → ∀ (cl : Nat), cl + 5 ≤ 12 → ∀ (H : Heap) (locs : List Loc), ka_P G σ H → va_S (ka_A G) s.heap H locs → ∀ ls : Array Slot, lv_has ls 27 [(0, .ref (ka_a G (22, 0, 0))), (2, .long v2), (4, .int v4), (16, .int v16), (17, .int v17)] → W p l e rm_L_follows s m args below meth c H locs cl (6 * cl) (MQ below (va_Qi Q (ka_B G) (ka_A G)) args s 12 72 (ka_A G)) (F0 m 583 ls [.long t2, .long t1, .long t0]) := by
  obtain ⟨hx, hb, -, hml, hown, hts, -⟩ := id C0
  intro σ v2 v4 v16 v17 t0 t1 t2 hq cl hcl H locs hP hS ls hl
  unfold kw_L_follows_583 at hq
  refine lv_lsub hx hb dL_follows_583 ?_
  refine kr_cne (tgt := 635) C0 dL_follows_584 dL_follows_585 (by decide) (fun hc => ?_) (fun hc => ?_)
  · have hq := hq.2 hc
    refine W.widen (k := (cl + 0)) (n := 6 * (cl + 0)) (by omega) (by omega) ?_
    exact kb_L_follows_635 hl0 hI C0 hK hT hN σ v2 v4 v16 v17 hq (cl + 0) (by omega) H locs hP hS ls (lv_sub hl [0, 1, 2, 3, 4] rfl)
  · have hq := hq.1 hc
    refine lv_aload_n hx hb dL_follows_588 rfl (lv_at hl 0 rfl) ?_
    refine lv_iload hx hb dL_follows_589 (lv_at hl 3 rfl) ?_
    refine lv_iconst (v := 5) hx hb dL_follows_591 (by decide) ?_
    refine kj_Wl (As := [.ref (ka_a G (22, 0, 0)), .int v16, .int (5 : Int32)]) (rest := []) C0 hK hT hN hP hS (fun _ h => h) hl (km0_L_word l hl0 hI hq) kd_L_word kq_563 ⟨rfl, rfl, Nat.le_of_ble_eq_true rfl, Nat.le_of_ble_eq_true rfl⟩ rfl (Nat.le_of_ble_eq_true rfl) dL_follows_592 ⟨by show _ ≤ 12; omega, by show _ ≤ 72; omega⟩ (fun r94 σ95 H locs hq hP hkp hS => ?_)
    refine lv_lconst (v := 0) hx hb dL_follows_595 (by decide) ?_
    refine kr_cne (tgt := 635) C0 dL_follows_596 dL_follows_597 (by decide) (fun hc => ?_) (fun hc => ?_)
    · have hq := hq.2 hc
      refine W.widen (k := (cl + 0)) (n := 6 * (cl + 0)) (by omega) (by omega) ?_
      exact kb_L_follows_635 hl0 hI C0 hK hT hN σ95 v2 v4 v16 v17 hq (cl + 0) (by omega) H locs hP hS ls (lv_sub hl [0, 1, 2, 3, 4] rfl)
    · have hq := hq.1 hc
      refine lv_aload_n hx hb dL_follows_600 rfl (lv_at hl 0 rfl) ?_
      refine lv_iload hx hb dL_follows_601 (lv_at hl 3 rfl) ?_
      refine lv_bipush (v := 7) hx hb dL_follows_603 (by decide) ?_
      refine kj_Wl (As := [.ref (ka_a G (22, 0, 0)), .int v16, .int (7 : Int32)]) (rest := []) C0 hK hT hN hP hS (fun _ h => h) hl (km0_L_word l hl0 hI hq) kd_L_word kq_563 ⟨rfl, rfl, Nat.le_of_ble_eq_true rfl, Nat.le_of_ble_eq_true rfl⟩ rfl (Nat.le_of_ble_eq_true rfl) dL_follows_605 ⟨by show _ ≤ 12; omega, by show _ ≤ 72; omega⟩ (fun r96 σ97 H locs hq hP hkp hS => ?_)
      refine lv_lconst (v := 0) hx hb dL_follows_608 (by decide) ?_
      refine kr_cne (tgt := 635) C0 dL_follows_609 dL_follows_610 (by decide) (fun hc => ?_) (fun hc => ?_)
      · have hq := hq.2 hc
        refine W.widen (k := (cl + 0)) (n := 6 * (cl + 0)) (by omega) (by omega) ?_
        exact kb_L_follows_635 hl0 hI C0 hK hT hN σ97 v2 v4 v16 v17 hq (cl + 0) (by omega) H locs hP hS ls (lv_sub hl [0, 1, 2, 3, 4] rfl)
      · have hq := hq.1 hc
        refine lv_aload_n hx hb dL_follows_613 rfl (lv_at hl 0 rfl) ?_
        refine kj_Wl (As := [.ref (ka_a G (22, 0, 0))]) (rest := []) C0 hK hT hN hP hS (fun _ h => h) hl (km_L_undo l hl0 hI hq) kd_L_undo kq_966 ⟨rfl, rfl, Nat.le_of_ble_eq_true rfl, Nat.le_of_ble_eq_true rfl⟩ rfl (Nat.le_of_ble_eq_true rfl) dL_follows_614 ⟨by show _ ≤ 12; omega, by show _ ≤ 72; omega⟩ (fun r98 σ99 H locs hq hP hkp hS => ?_)
        refine lv_lconst (v := 0) hx hb dL_follows_617 (by decide) ?_
        refine kr_clt (tgt := 635) C0 dL_follows_618 dL_follows_619 (by decide) (fun hc => ?_) (fun hc => ?_)
        · have hq := hq.1 hc
          refine W.widen (k := (cl + 1)) (n := 6 * (cl + 1)) (by omega) (by omega) ?_
          exact kb_L_follows_635 hl0 hI C0 hK hT hN σ99 v2 v4 v16 v17 hq (cl + 1) (by omega) H locs hP hS ls (lv_sub hl [0, 1, 2, 3, 4] rfl)
        · have hq := hq.2 hc
          refine lv_aload_n hx hb dL_follows_622 rfl (lv_at hl 0 rfl) ?_
          refine kj_Sl (As := [.ref (ka_a G (22, 0, 0))]) (rest := []) C0 hK hT hN hP hS (fun _ h => h) hl (km_L_now l hl0 hI hq) kd_L_now kq_473 ⟨rfl, rfl, Nat.le_of_ble_eq_true rfl, Nat.le_of_ble_eq_true rfl⟩ rfl (Nat.le_of_ble_eq_true rfl) dL_follows_623 ⟨by show _ ≤ 12; omega, by show _ ≤ 72; omega⟩ (fun r100 σ101 H locs hq hP hkp hS => ?_)
          refine lv_lload_n hx hb dL_follows_626 rfl (lv_at hl 1 rfl) ?_
          refine kr_cne (tgt := 635) C0 dL_follows_627 dL_follows_628 (by decide) (fun hc => ?_) (fun hc => ?_)
          · have hq := hq.2 hc
            refine W.widen (k := (cl + 1)) (n := 6 * (cl + 1)) (by omega) (by omega) ?_
            exact kb_L_follows_635 hl0 hI C0 hK hT hN σ101 v2 v4 v16 v17 hq (cl + 1) (by omega) H locs hP hS ls (lv_sub hl [0, 1, 2, 3, 4] rfl)
          · have hq := hq.1 hc
            refine lv_iconst (v := 1) hx hb dL_follows_631 (by decide) ?_
            refine lv_goto (tgt := 636) hx hb dL_follows_632 (by decide) ?_
            refine W.widen (k := (cl + 1)) (n := 6 * (cl + 1)) (by omega) (by omega) ?_
            exact kb_L_follows_636 hl0 hI C0 hK hT hN σ101 v2 v4 v16 v17 (1 : Int32) hq (cl + 1) (by omega) H locs hP hS ls (lv_sub hl [0, 1, 2, 3, 4] rfl)
def kw_L_follows_582 (Q : Int32 → ka_S → Prop) (σ : ka_S) (v2 : Int64) (v4 : Int32) (v16 : Int32) (v17 : Int32) (t0 : Int64) (t1 : Int64) : Prop := kw_L_follows_583 Q σ v2 v4 v16 v17 t0 t1 (0 : Int64)
set_option maxHeartbeats 4000000 in
set_option maxRecDepth 100000 in
theorem kb_L_follows_582 {p : Program} {l : Launch} {e : Env} {s : State} {m : MethodId} {below : List Frame} {meth : Method} {c : Code} {G : ka_G} {args : Array Value} (hl0 : l.stackTraces = false) (hI : ka_I G) (C0 : ka_C p s m args meth c cL_follows 27 "GlossRowsLaw" (some .boolean)) (hK : ka_Kn G s) (hT : ka_T9 (ka_A G) s) (hN : kl_Nc s) {Q : Int32 → ka_S → Prop} : ∀ (σ : ka_S) (v2 : Int64) (v4 : Int32) (v16 : Int32) (v17 : Int32) (t0 : Int64) (t1 : Int64), kw_L_follows_582 Q σ v2 v4 v16 v17 t0 t1 → ∀ (cl : Nat), cl + 5 ≤ 12 → ∀ (H : Heap) (locs : List Loc), ka_P G σ H → va_S (ka_A G) s.heap H locs → ∀ ls : Array Slot, lv_has ls 27 [(0, .ref (ka_a G (22, 0, 0))), (2, .long v2), (4, .int v4), (16, .int v16), (17, .int v17)] → W p l e rm_L_follows s m args below meth c H locs cl (6 * cl) (MQ below (va_Qi Q (ka_B G) (ka_A G)) args s 12 72 (ka_A G)) (F0 m 582 ls [.long t1, .long t0]) := by
  obtain ⟨hx, hb, -, hml, hown, hts, -⟩ := id C0
  intro σ v2 v4 v16 v17 t0 t1 hq cl hcl H locs hP hS ls hl
  unfold kw_L_follows_582 at hq
  refine lv_lconst (v := 0) hx hb dL_follows_582 (by decide) ?_
  refine W.widen (k := (cl + 0)) (n := 6 * (cl + 0)) (by omega) (by omega) ?_
  exact kb_L_follows_583 hl0 hI C0 hK hT hN σ v2 v4 v16 v17 t0 t1 (0 : Int64) hq (cl + 0) (by omega) H locs hP hS ls (lv_sub hl [0, 1, 2, 3, 4] rfl)
def kw_L_follows_534 (Q : Int32 → ka_S → Prop) (σ : ka_S) (v2 : Int64) (v4 : Int32) (v16 : Int32) (v17 : Int32) (v19 : Int64) (v21 : Int32) (v22 : Int32) (t0 : Int64) (t1 : Int64) (t2 : Int64) : Prop := (t0 = (t1 + t2) → kw0_L_word σ v16 (5 : Int32) (fun r82 σ83 =>
    (r82 = (1 : Int64) → kw_L_undo σ83 (fun r84 σ85 =>
      (r84 < (0 : Int64) → kw_L_follows_635 Q σ85 v2 v4 v16 v17) ∧
      (¬ r84 < (0 : Int64) → kw0_L_join σ85 v16 (fun r86 σ87 =>
        (v21 = (0 : Int32) → kw_L_follows_582 Q σ87 v2 v4 v16 v17 r86 v19) ∧
        (¬ v21 = (0 : Int32) → (v22 = (0 : Int32) → kw_L_follows_583 Q σ87 v2 v4 v16 v17 r86 v19 (1 : Int64)) ∧
          (¬ v22 = (0 : Int32) → kw_L_follows_582 Q σ87 v2 v4 v16 v17 r86 v19)))))) ∧
    (¬ r82 = (1 : Int64) → kw_L_follows_635 Q σ83 v2 v4 v16 v17))) ∧
  (¬ t0 = (t1 + t2) → kw_L_follows_635 Q σ v2 v4 v16 v17)
set_option maxHeartbeats 4000000 in
set_option maxRecDepth 100000 in
theorem kb_L_follows_534 {p : Program} {l : Launch} {e : Env} {s : State} {m : MethodId} {below : List Frame} {meth : Method} {c : Code} {G : ka_G} {args : Array Value} (hl0 : l.stackTraces = false) (hI : ka_I G) (C0 : ka_C p s m args meth c cL_follows 27 "GlossRowsLaw" (some .boolean)) (hK : ka_Kn G s) (hT : ka_T9 (ka_A G) s) (hN : kl_Nc s) {Q : Int32 → ka_S → Prop} : ∀ (σ : ka_S) (v2 : Int64) (v4 : Int32) (v16 : Int32) (v17 : Int32) (v19 : Int64) (v21 : Int32) (v22 : Int32) (t0 : Int64) (t1 : Int64) (t2 : Int64), kw_L_follows_534 Q σ v2 v4 v16 v17 v19 v21 v22 t0 t1 t2 → ∀ (cl : Nat), cl + 6 ≤ 12 → ∀ (H : Heap) (locs : List Loc), ka_P G σ H → va_S (ka_A G) s.heap H locs → ∀ ls : Array Slot, lv_has ls 27 [(0, .ref (ka_a G (22, 0, 0))), (2, .long v2), (4, .int v4), (16, .int v16), (17, .int v17), (19, .long v19), (21, .int v21), (22, .int v22)] → W p l e rm_L_follows s m args below meth c H locs cl (6 * cl) (MQ below (va_Qi Q (ka_B G) (ka_A G)) args s 12 72 (ka_A G)) (F0 m 534 ls [.long t2, .long t1, .long t0]) := by
  obtain ⟨hx, hb, -, hml, hown, hts, -⟩ := id C0
  intro σ v2 v4 v16 v17 v19 v21 v22 t0 t1 t2 hq cl hcl H locs hP hS ls hl
  unfold kw_L_follows_534 at hq
  refine lv_ladd hx hb dL_follows_534 ?_
  refine kr_cne (tgt := 635) C0 dL_follows_535 dL_follows_536 (by decide) (fun hc => ?_) (fun hc => ?_)
  · have hq := hq.2 hc
    refine W.widen (k := (cl + 0)) (n := 6 * (cl + 0)) (by omega) (by omega) ?_
    exact kb_L_follows_635 hl0 hI C0 hK hT hN σ v2 v4 v16 v17 hq (cl + 0) (by omega) H locs hP hS ls (lv_sub hl [0, 1, 2, 3, 4] rfl)
  · have hq := hq.1 hc
    refine lv_aload_n hx hb dL_follows_539 rfl (lv_at hl 0 rfl) ?_
    refine lv_iload hx hb dL_follows_540 (lv_at hl 3 rfl) ?_
    refine lv_iconst (v := 5) hx hb dL_follows_542 (by decide) ?_
    refine kj_Wl (As := [.ref (ka_a G (22, 0, 0)), .int v16, .int (5 : Int32)]) (rest := []) C0 hK hT hN hP hS (fun _ h => h) hl (km0_L_word l hl0 hI hq) kd_L_word kq_563 ⟨rfl, rfl, Nat.le_of_ble_eq_true rfl, Nat.le_of_ble_eq_true rfl⟩ rfl (Nat.le_of_ble_eq_true rfl) dL_follows_543 ⟨by show _ ≤ 12; omega, by show _ ≤ 72; omega⟩ (fun r82 σ83 H locs hq hP hkp hS => ?_)
    refine lv_lconst (v := 1) hx hb dL_follows_546 (by decide) ?_
    refine kr_cne (tgt := 635) C0 dL_follows_547 dL_follows_548 (by decide) (fun hc => ?_) (fun hc => ?_)
    · have hq := hq.2 hc
      refine W.widen (k := (cl + 0)) (n := 6 * (cl + 0)) (by omega) (by omega) ?_
      exact kb_L_follows_635 hl0 hI C0 hK hT hN σ83 v2 v4 v16 v17 hq (cl + 0) (by omega) H locs hP hS ls (lv_sub hl [0, 1, 2, 3, 4] rfl)
    · have hq := hq.1 hc
      refine lv_aload_n hx hb dL_follows_551 rfl (lv_at hl 0 rfl) ?_
      refine kj_Wl (As := [.ref (ka_a G (22, 0, 0))]) (rest := []) C0 hK hT hN hP hS (fun _ h => h) hl (km_L_undo l hl0 hI hq) kd_L_undo kq_966 ⟨rfl, rfl, Nat.le_of_ble_eq_true rfl, Nat.le_of_ble_eq_true rfl⟩ rfl (Nat.le_of_ble_eq_true rfl) dL_follows_552 ⟨by show _ ≤ 12; omega, by show _ ≤ 72; omega⟩ (fun r84 σ85 H locs hq hP hkp hS => ?_)
      refine lv_lconst (v := 0) hx hb dL_follows_555 (by decide) ?_
      refine kr_clt (tgt := 635) C0 dL_follows_556 dL_follows_557 (by decide) (fun hc => ?_) (fun hc => ?_)
      · have hq := hq.1 hc
        refine W.widen (k := (cl + 1)) (n := 6 * (cl + 1)) (by omega) (by omega) ?_
        exact kb_L_follows_635 hl0 hI C0 hK hT hN σ85 v2 v4 v16 v17 hq (cl + 1) (by omega) H locs hP hS ls (lv_sub hl [0, 1, 2, 3, 4] rfl)
      · have hq := hq.2 hc
        refine lv_aload_n hx hb dL_follows_560 rfl (lv_at hl 0 rfl) ?_
        refine lv_iload hx hb dL_follows_561 (lv_at hl 3 rfl) ?_
        refine kj_Wl (As := [.ref (ka_a G (22, 0, 0)), .int v16]) (rest := []) C0 hK hT hN hP hS (fun _ h => h) hl (km0_L_join l hl0 hI hq) kd_L_join kq_881 ⟨rfl, rfl, Nat.le_of_ble_eq_true rfl, Nat.le_of_ble_eq_true rfl⟩ rfl (Nat.le_of_ble_eq_true rfl) dL_follows_563 ⟨by show _ ≤ 12; omega, by show _ ≤ 72; omega⟩ (fun r86 σ87 H locs hq hP hkp hS => ?_)
        refine lv_lload hx hb dL_follows_566 (lv_at hl 5 rfl) ?_
        refine lv_iload hx hb dL_follows_568 (lv_at hl 6 rfl) ?_
        refine lv_if_eq (tgt := 582) hx hb dL_follows_570 (by decide) (fun hc => ?_) (fun hc => ?_)
        · have hq := hq.1 hc
          refine W.widen (k := (cl + 1)) (n := 6 * (cl + 1)) (by omega) (by omega) ?_
          exact kb_L_follows_582 hl0 hI C0 hK hT hN σ87 v2 v4 v16 v17 r86 v19 hq (cl + 1) (by omega) H locs hP hS ls (lv_sub hl [0, 1, 2, 3, 4] rfl)
        · have hq := hq.2 hc
          refine lv_iload hx hb dL_follows_573 (lv_at hl 7 rfl) ?_
          refine lv_if_ne (tgt := 582) hx hb dL_follows_575 (by decide) (fun hc => ?_) (fun hc => ?_)
          · have hq := hq.2 hc
            refine W.widen (k := (cl + 1)) (n := 6 * (cl + 1)) (by omega) (by omega) ?_
            exact kb_L_follows_582 hl0 hI C0 hK hT hN σ87 v2 v4 v16 v17 r86 v19 hq (cl + 1) (by omega) H locs hP hS ls (lv_sub hl [0, 1, 2, 3, 4] rfl)
          · have hq := hq.1 hc
            refine lv_lconst (v := 1) hx hb dL_follows_578 (by decide) ?_
            refine lv_goto (tgt := 583) hx hb dL_follows_579 (by decide) ?_
            refine W.widen (k := (cl + 1)) (n := 6 * (cl + 1)) (by omega) (by omega) ?_
            exact kb_L_follows_583 hl0 hI C0 hK hT hN σ87 v2 v4 v16 v17 r86 v19 (1 : Int64) hq (cl + 1) (by omega) H locs hP hS ls (lv_sub hl [0, 1, 2, 3, 4] rfl)
def kw_L_follows_529 (Q : Int32 → ka_S → Prop) (σ : ka_S) (v2 : Int64) (v4 : Int32) (v16 : Int32) (v17 : Int32) (v19 : Int64) (v21 : Int32) (v22 : Int32) (t0 : Int64) (t1 : Int64) : Prop := kw_L_follows_534 Q σ v2 v4 v16 v17 v19 v21 v22 t0 t1 (0 : Int64)
set_option maxHeartbeats 4000000 in
set_option maxRecDepth 100000 in
theorem kb_L_follows_529 {p : Program} {l : Launch} {e : Env} {s : State} {m : MethodId} {below : List Frame} {meth : Method} {c : Code} {G : ka_G} {args : Array Value} (hl0 : l.stackTraces = false) (hI : ka_I G) (C0 : ka_C p s m args meth c cL_follows 27 "GlossRowsLaw" (some .boolean)) (hK : ka_Kn G s) (hT : ka_T9 (ka_A G) s) (hN : kl_Nc s) {Q : Int32 → ka_S → Prop} : ∀ (σ : ka_S) (v2 : Int64) (v4 : Int32) (v16 : Int32) (v17 : Int32) (v19 : Int64) (v21 : Int32) (v22 : Int32) (t0 : Int64) (t1 : Int64), kw_L_follows_529 Q σ v2 v4 v16 v17 v19 v21 v22 t0 t1 → ∀ (cl : Nat), cl + 6 ≤ 12 → ∀ (H : Heap) (locs : List Loc), ka_P G σ H → va_S (ka_A G) s.heap H locs → ∀ ls : Array Slot, lv_has ls 27 [(0, .ref (ka_a G (22, 0, 0))), (2, .long v2), (4, .int v4), (16, .int v16), (17, .int v17), (19, .long v19), (21, .int v21), (22, .int v22)] → W p l e rm_L_follows s m args below meth c H locs cl (6 * cl) (MQ below (va_Qi Q (ka_B G) (ka_A G)) args s 12 72 (ka_A G)) (F0 m 529 ls [.long t1, .long t0]) := by
  obtain ⟨hx, hb, -, hml, hown, hts, -⟩ := id C0
  intro σ v2 v4 v16 v17 v19 v21 v22 t0 t1 hq cl hcl H locs hP hS ls hl
  unfold kw_L_follows_529 at hq
  refine lv_lconst (v := 0) hx hb dL_follows_529 (by decide) ?_
  refine lv_goto (tgt := 534) hx hb dL_follows_530 (by decide) ?_
  refine W.widen (k := (cl + 0)) (n := 6 * (cl + 0)) (by omega) (by omega) ?_
  exact kb_L_follows_534 hl0 hI C0 hK hT hN σ v2 v4 v16 v17 v19 v21 v22 t0 t1 (0 : Int64) hq (cl + 0) (by omega) H locs hP hS ls (lv_sub hl [0, 1, 2, 3, 4, 5, 6, 7] rfl)
def kw_L_follows_466 (Q : Int32 → ka_S → Prop) (σ : ka_S) (v2 : Int64) (v4 : Int32) (v16 : Int32) (v17 : Int32) (v18 : Int32) (v19 : Int64) (v21 : Int32) (t0 : Int32) : Prop := kw_L_in σ ((v18 / (10 : Int32)).toInt64) (0 : Int64) (v4.toInt64 - (1 : Int64)) (fun r74 σ75 =>
  (r74 = (0 : Int32) → kw_L_follows_635 Q σ75 v2 v4 v16 v17) ∧
  (¬ r74 = (0 : Int32) → kw0_L_word σ75 (v18 / (10 : Int32)) (0 : Int32) (fun r76 σ77 =>
    kw_L_in σ77 ((v18 - v18 / (10 : Int32) * (10 : Int32)).toInt64) (0 : Int64) (r76 - (1 : Int64)) (fun r78 σ79 =>
    (r78 = (0 : Int32) → kw_L_follows_635 Q σ79 v2 v4 v16 v17) ∧
    (¬ r78 = (0 : Int32) → kw0_L_end σ79 v16 (fun r80 σ81 =>
      (v21 = (0 : Int32) → (t0 = (0 : Int32) → kw_L_follows_534 Q σ81 v2 v4 v16 v17 v19 v21 t0 r80 v19 (1 : Int64)) ∧
        (¬ t0 = (0 : Int32) → kw_L_follows_529 Q σ81 v2 v4 v16 v17 v19 v21 t0 r80 v19)) ∧
      (¬ v21 = (0 : Int32) → kw_L_follows_529 Q σ81 v2 v4 v16 v17 v19 v21 t0 r80 v19)))))))
set_option maxHeartbeats 4000000 in
set_option maxRecDepth 100000 in
theorem kb_L_follows_466 {p : Program} {l : Launch} {e : Env} {s : State} {m : MethodId} {below : List Frame} {meth : Method} {c : Code} {G : ka_G} {args : Array Value} (hl0 : l.stackTraces = false) (hI : ka_I G) (C0 : ka_C p s m args meth c cL_follows 27 "GlossRowsLaw" (some .boolean)) (hK : ka_Kn G s) (hT : ka_T9 (ka_A G) s) (hN : kl_Nc s) {Q : Int32 → ka_S → Prop} : ∀ (σ : ka_S) (v2 : Int64) (v4 : Int32) (v16 : Int32) (v17 : Int32) (v18 : Int32) (v19 : Int64) (v21 : Int32) (t0 : Int32), kw_L_follows_466 Q σ v2 v4 v16 v17 v18 v19 v21 t0 → ∀ (cl : Nat), cl + 6 ≤ 12 → ∀ (H : Heap) (locs : List Loc), ka_P G σ H → va_S (ka_A G) s.heap H locs → ∀ ls : Array Slot, lv_has ls 27 [(0, .ref (ka_a G (22, 0, 0))), (2, .long v2), (4, .int v4), (16, .int v16), (17, .int v17), (18, .int v18), (19, .long v19), (21, .int v21)] → W p l e rm_L_follows s m args below meth c H locs cl (6 * cl) (MQ below (va_Qi Q (ka_B G) (ka_A G)) args s 12 72 (ka_A G)) (F0 m 466 ls [.int t0]) := by
  obtain ⟨hx, hb, -, hml, hown, hts, -⟩ := id C0
  intro σ v2 v4 v16 v17 v18 v19 v21 t0 hq cl hcl H locs hP hS ls hl
  unfold kw_L_follows_466 at hq
  refine lv_istore (lv' := [(22, .int t0), (0, .ref (ka_a G (22, 0, 0))), (2, .long v2), (4, .int v4), (16, .int v16), (17, .int v17), (18, .int v18), (19, .long v19), (21, .int v21)]) hx hb dL_follows_466 hl (by decide) rfl (fun ls hl => ?_)
  refine lv_iload hx hb dL_follows_468 (lv_at hl 6 rfl) ?_
  refine lv_bipush (v := 10) hx hb dL_follows_470 (by decide) ?_
  refine lv_idiv hx hb dL_follows_472 (by decide) ?_
  refine lv_i2l hx hb dL_follows_473 rfl ?_
  refine lv_lconst (v := 0) hx hb dL_follows_474 (by decide) ?_
  refine lv_iload hx hb dL_follows_475 (lv_at hl 3 rfl) ?_
  refine lv_i2l hx hb dL_follows_477 rfl ?_
  refine lv_lconst (v := 1) hx hb dL_follows_478 (by decide) ?_
  refine lv_lsub hx hb dL_follows_479 ?_
  refine kr_Si (As := [.long ((v18 / (10 : Int32)).toInt64), .long (0 : Int64), .long (v4.toInt64 - (1 : Int64))]) (rest := []) C0 hK hP hS hl (km_L_in l hI hq) kd_L_in kq_954 ⟨rfl, rfl, Nat.le_of_ble_eq_true rfl, Nat.le_of_ble_eq_true rfl⟩ rfl (Nat.le_of_ble_eq_true rfl) dL_follows_480 ⟨by show _ ≤ 12; omega, by show _ ≤ 72; omega⟩ (fun r74 σ75 H locs hq hP hS => ?_)
  refine lv_if_eq (tgt := 635) hx hb dL_follows_483 (by decide) (fun hc => ?_) (fun hc => ?_)
  · have hq := hq.1 hc
    refine W.widen (k := (cl + 0)) (n := 6 * (cl + 0)) (by omega) (by omega) ?_
    exact kb_L_follows_635 hl0 hI C0 hK hT hN σ75 v2 v4 v16 v17 hq (cl + 0) (by omega) H locs hP hS ls (lv_sub hl [1, 2, 3, 4, 5] rfl)
  · have hq := hq.2 hc
    refine lv_iload hx hb dL_follows_486 (lv_at hl 6 rfl) ?_
    refine lv_bipush (v := 10) hx hb dL_follows_488 (by decide) ?_
    refine lv_irem hx hb dL_follows_490 (by decide) ?_
    refine lv_i2l hx hb dL_follows_491 rfl ?_
    refine lv_lconst (v := 0) hx hb dL_follows_492 (by decide) ?_
    refine lv_aload_n hx hb dL_follows_493 rfl (lv_at hl 1 rfl) ?_
    refine lv_iload hx hb dL_follows_494 (lv_at hl 6 rfl) ?_
    refine lv_bipush (v := 10) hx hb dL_follows_496 (by decide) ?_
    refine lv_idiv hx hb dL_follows_498 (by decide) ?_
    refine lv_iconst (v := 0) hx hb dL_follows_499 (by decide) ?_
    refine kj_Wl (As := [.ref (ka_a G (22, 0, 0)), .int (v18 / (10 : Int32)), .int (0 : Int32)]) (rest := [.long (0 : Int64), .long ((v18 - v18 / (10 : Int32) * (10 : Int32)).toInt64)]) C0 hK hT hN hP hS (fun _ h => h) hl (km0_L_word l hl0 hI hq) kd_L_word kq_563 ⟨rfl, rfl, Nat.le_of_ble_eq_true rfl, Nat.le_of_ble_eq_true rfl⟩ rfl (Nat.le_of_ble_eq_true rfl) dL_follows_500 ⟨by show _ ≤ 12; omega, by show _ ≤ 72; omega⟩ (fun r76 σ77 H locs hq hP hkp hS => ?_)
    refine lv_lconst (v := 1) hx hb dL_follows_503 (by decide) ?_
    refine lv_lsub hx hb dL_follows_504 ?_
    refine kr_Si (As := [.long ((v18 - v18 / (10 : Int32) * (10 : Int32)).toInt64), .long (0 : Int64), .long (r76 - (1 : Int64))]) (rest := []) C0 hK hP hS hl (km_L_in l hI hq) kd_L_in kq_954 ⟨rfl, rfl, Nat.le_of_ble_eq_true rfl, Nat.le_of_ble_eq_true rfl⟩ rfl (Nat.le_of_ble_eq_true rfl) dL_follows_505 ⟨by show _ ≤ 12; omega, by show _ ≤ 72; omega⟩ (fun r78 σ79 H locs hq hP hS => ?_)
    refine lv_if_eq (tgt := 635) hx hb dL_follows_508 (by decide) (fun hc => ?_) (fun hc => ?_)
    · have hq := hq.1 hc
      refine W.widen (k := (cl + 0)) (n := 6 * (cl + 0)) (by omega) (by omega) ?_
      exact kb_L_follows_635 hl0 hI C0 hK hT hN σ79 v2 v4 v16 v17 hq (cl + 0) (by omega) H locs hP hS ls (lv_sub hl [1, 2, 3, 4, 5] rfl)
    · have hq := hq.2 hc
      refine lv_aload_n hx hb dL_follows_511 rfl (lv_at hl 1 rfl) ?_
      refine lv_iload hx hb dL_follows_512 (lv_at hl 4 rfl) ?_
      refine kj_Wl (As := [.ref (ka_a G (22, 0, 0)), .int v16]) (rest := []) C0 hK hT hN hP hS (fun _ h => h) hl (km0_L_end l hl0 hI hq) kd_L_end kq_874 ⟨rfl, rfl, Nat.le_of_ble_eq_true rfl, Nat.le_of_ble_eq_true rfl⟩ rfl (Nat.le_of_ble_eq_true rfl) dL_follows_514 ⟨by show _ ≤ 12; omega, by show _ ≤ 72; omega⟩ (fun r80 σ81 H locs hq hP hkp hS => ?_)
      refine lv_lload hx hb dL_follows_517 (lv_at hl 7 rfl) ?_
      refine lv_iload hx hb dL_follows_519 (lv_at hl 8 rfl) ?_
      refine lv_if_ne (tgt := 529) hx hb dL_follows_521 (by decide) (fun hc => ?_) (fun hc => ?_)
      · have hq := hq.2 hc
        refine W.widen (k := (cl + 0)) (n := 6 * (cl + 0)) (by omega) (by omega) ?_
        exact kb_L_follows_529 hl0 hI C0 hK hT hN σ81 v2 v4 v16 v17 v19 v21 t0 r80 v19 hq (cl + 0) (by omega) H locs hP hS ls (lv_sub hl [1, 2, 3, 4, 5, 7, 8, 0] rfl)
      · have hq := hq.1 hc
        refine lv_iload hx hb dL_follows_524 (lv_at hl 0 rfl) ?_
        refine lv_if_eq (tgt := 533) hx hb dL_follows_526 (by decide) (fun hc => ?_) (fun hc => ?_)
        · have hq := hq.1 hc
          refine lv_lconst (v := 1) hx hb dL_follows_533 (by decide) ?_
          refine W.widen (k := (cl + 0)) (n := 6 * (cl + 0)) (by omega) (by omega) ?_
          exact kb_L_follows_534 hl0 hI C0 hK hT hN σ81 v2 v4 v16 v17 v19 v21 t0 r80 v19 (1 : Int64) hq (cl + 0) (by omega) H locs hP hS ls (lv_sub hl [1, 2, 3, 4, 5, 7, 8, 0] rfl)
        · have hq := hq.2 hc
          refine W.widen (k := (cl + 0)) (n := 6 * (cl + 0)) (by omega) (by omega) ?_
          exact kb_L_follows_529 hl0 hI C0 hK hT hN σ81 v2 v4 v16 v17 v19 v21 t0 r80 v19 hq (cl + 0) (by omega) H locs hP hS ls (lv_sub hl [1, 2, 3, 4, 5, 7, 8, 0] rfl)
def kw_L_follows_450 (Q : Int32 → ka_S → Prop) (σ : ka_S) (v2 : Int64) (v4 : Int32) (v16 : Int32) (v17 : Int32) (v18 : Int32) (v19 : Int64) (t0 : Int32) : Prop := (v16 = (v4 - (1 : Int32)) → kw_L_follows_466 Q σ v2 v4 v16 v17 v18 v19 t0 (1 : Int32)) ∧
  (¬ v16 = (v4 - (1 : Int32)) → kw_L_follows_466 Q σ v2 v4 v16 v17 v18 v19 t0 (0 : Int32))
set_option maxHeartbeats 4000000 in
set_option maxRecDepth 100000 in
theorem kb_L_follows_450 {p : Program} {l : Launch} {e : Env} {s : State} {m : MethodId} {below : List Frame} {meth : Method} {c : Code} {G : ka_G} {args : Array Value} (hl0 : l.stackTraces = false) (hI : ka_I G) (C0 : ka_C p s m args meth c cL_follows 27 "GlossRowsLaw" (some .boolean)) (hK : ka_Kn G s) (hT : ka_T9 (ka_A G) s) (hN : kl_Nc s) {Q : Int32 → ka_S → Prop} : ∀ (σ : ka_S) (v2 : Int64) (v4 : Int32) (v16 : Int32) (v17 : Int32) (v18 : Int32) (v19 : Int64) (t0 : Int32), kw_L_follows_450 Q σ v2 v4 v16 v17 v18 v19 t0 → ∀ (cl : Nat), cl + 6 ≤ 12 → ∀ (H : Heap) (locs : List Loc), ka_P G σ H → va_S (ka_A G) s.heap H locs → ∀ ls : Array Slot, lv_has ls 27 [(0, .ref (ka_a G (22, 0, 0))), (2, .long v2), (4, .int v4), (16, .int v16), (17, .int v17), (18, .int v18), (19, .long v19)] → W p l e rm_L_follows s m args below meth c H locs cl (6 * cl) (MQ below (va_Qi Q (ka_B G) (ka_A G)) args s 12 72 (ka_A G)) (F0 m 450 ls [.int t0]) := by
  obtain ⟨hx, hb, -, hml, hown, hts, -⟩ := id C0
  intro σ v2 v4 v16 v17 v18 v19 t0 hq cl hcl H locs hP hS ls hl
  unfold kw_L_follows_450 at hq
  refine lv_istore (lv' := [(21, .int t0), (0, .ref (ka_a G (22, 0, 0))), (2, .long v2), (4, .int v4), (16, .int v16), (17, .int v17), (18, .int v18), (19, .long v19)]) hx hb dL_follows_450 hl (by decide) rfl (fun ls hl => ?_)
  refine lv_iload hx hb dL_follows_452 (lv_at hl 4 rfl) ?_
  refine lv_iload hx hb dL_follows_454 (lv_at hl 3 rfl) ?_
  refine lv_iconst (v := 1) hx hb dL_follows_456 (by decide) ?_
  refine lv_isub hx hb dL_follows_457 ?_
  refine lv_icmp_ne (tgt := 465) hx hb dL_follows_458 (by decide) (fun hc => ?_) (fun hc => ?_)
  · have hq := hq.2 hc
    refine lv_iconst (v := 0) hx hb dL_follows_465 (by decide) ?_
    refine W.widen (k := (cl + 0)) (n := 6 * (cl + 0)) (by omega) (by omega) ?_
    exact kb_L_follows_466 hl0 hI C0 hK hT hN σ v2 v4 v16 v17 v18 v19 t0 (0 : Int32) hq (cl + 0) (by omega) H locs hP hS ls (lv_sub hl [1, 2, 3, 4, 5, 6, 7, 0] rfl)
  · have hq := hq.1 hc
    refine lv_iconst (v := 1) hx hb dL_follows_461 (by decide) ?_
    refine lv_goto (tgt := 466) hx hb dL_follows_462 (by decide) ?_
    refine W.widen (k := (cl + 0)) (n := 6 * (cl + 0)) (by omega) (by omega) ?_
    exact kb_L_follows_466 hl0 hI C0 hK hT hN σ v2 v4 v16 v17 v18 v19 t0 (1 : Int32) hq (cl + 0) (by omega) H locs hP hS ls (lv_sub hl [1, 2, 3, 4, 5, 6, 7, 0] rfl)
def kw_L_follows_385 (Q : Int32 → ka_S → Prop) (σ : ka_S) (v1 : Int32) (v2 : Int64) (v4 : Int32) (t0 : Int32) : Prop := (v4 ≤ (0 : Int32) → kw_L_follows_920 Q σ v2 v4 t0) ∧
  (¬ v4 ≤ (0 : Int32) → (t0 = (0 : Int32) → kw_L_follows_920 Q σ v2 v4 t0) ∧
    (¬ t0 = (0 : Int32) → ¬ v4 = 0 ∧
      ∀ x58 : Int32, x58 = ((v1 / (7 : Int32)) - (v1 / (7 : Int32)) / v4 * v4) → 
      kw0_L_word σ x58 (0 : Int32) (fun r59 σ60 =>
      ¬ r59.toInt32 = 0 ∧
      ∀ x61 : Int32, x61 = ((v1 / (3 : Int32)) - (v1 / (3 : Int32)) / r59.toInt32 * r59.toInt32) → 
      kw_X8_mostUsed σ60 (fun r62 σ63 =>
      kw0_L_about σ63 (3 : Int32) (fun r64 σ65 =>
      kw0_L_word σ65 x58 (5 : Int32) (fun r66 σ67 =>
      (r66 = (1 : Int64) → kw_L_follows_450 Q σ67 v2 v4 x58 x61 r62 r64 (1 : Int32)) ∧
      (¬ r66 = (1 : Int64) → kw_L_follows_450 Q σ67 v2 v4 x58 x61 r62 r64 (0 : Int32))))))))
set_option maxHeartbeats 4000000 in
set_option maxRecDepth 100000 in
theorem kb_L_follows_385 {p : Program} {l : Launch} {e : Env} {s : State} {m : MethodId} {below : List Frame} {meth : Method} {c : Code} {G : ka_G} {args : Array Value} (hl0 : l.stackTraces = false) (hI : ka_I G) (C0 : ka_C p s m args meth c cL_follows 27 "GlossRowsLaw" (some .boolean)) (hK : ka_Kn G s) (hT : ka_T9 (ka_A G) s) (hN : kl_Nc s) {Q : Int32 → ka_S → Prop} : ∀ (σ : ka_S) (v1 : Int32) (v2 : Int64) (v4 : Int32) (t0 : Int32), kw_L_follows_385 Q σ v1 v2 v4 t0 → ∀ (cl : Nat), cl + 6 ≤ 12 → ∀ (H : Heap) (locs : List Loc), ka_P G σ H → va_S (ka_A G) s.heap H locs → ∀ ls : Array Slot, lv_has ls 27 [(0, .ref (ka_a G (22, 0, 0))), (1, .int v1), (2, .long v2), (4, .int v4)] → W p l e rm_L_follows s m args below meth c H locs cl (6 * cl) (MQ below (va_Qi Q (ka_B G) (ka_A G)) args s 12 72 (ka_A G)) (F0 m 385 ls [.int t0]) := by
  obtain ⟨hx, hb, -, hml, hown, hts, -⟩ := id C0
  intro σ v1 v2 v4 t0 hq cl hcl H locs hP hS ls hl
  unfold kw_L_follows_385 at hq
  refine lv_istore (lv' := [(7, .int t0), (0, .ref (ka_a G (22, 0, 0))), (1, .int v1), (2, .long v2), (4, .int v4)]) hx hb dL_follows_385 hl (by decide) rfl (fun ls hl => ?_)
  refine lv_iload hx hb dL_follows_387 (lv_at hl 4 rfl) ?_
  refine lv_if_le (tgt := 920) hx hb dL_follows_389 (by decide) (fun hc => ?_) (fun hc => ?_)
  · have hq := hq.1 hc
    refine W.widen (k := (cl + 0)) (n := 6 * (cl + 0)) (by omega) (by omega) ?_
    exact kb_L_follows_920 hl0 hI C0 hK hT hN σ v2 v4 t0 hq (cl + 0) (by omega) H locs hP hS ls (lv_sub hl [1, 3, 4, 0] rfl)
  · have hq := hq.2 hc
    refine lv_iload hx hb dL_follows_392 (lv_at hl 0 rfl) ?_
    refine lv_if_eq (tgt := 920) hx hb dL_follows_394 (by decide) (fun hc => ?_) (fun hc => ?_)
    · have hq := hq.1 hc
      refine W.widen (k := (cl + 0)) (n := 6 * (cl + 0)) (by omega) (by omega) ?_
      exact kb_L_follows_920 hl0 hI C0 hK hT hN σ v2 v4 t0 hq (cl + 0) (by omega) H locs hP hS ls (lv_sub hl [1, 3, 4, 0] rfl)
    · have hq := hq.2 hc
      refine lv_iload_n hx hb dL_follows_397 rfl (lv_at hl 2 rfl) ?_
      refine lv_bipush (v := 7) hx hb dL_follows_398 (by decide) ?_
      refine lv_idiv hx hb dL_follows_400 (by decide) ?_
      refine lv_iload hx hb dL_follows_401 (lv_at hl 4 rfl) ?_
      obtain ⟨hne, hq⟩ := hq
      refine lv_irem hx hb dL_follows_403 hne ?_
      refine lv_topi (fun x58 ex58 => ?_)
      have hq := hq x58 ex58
      refine lv_istore (lv' := [(16, .int x58), (7, .int t0), (0, .ref (ka_a G (22, 0, 0))), (1, .int v1), (2, .long v2), (4, .int v4)]) hx hb dL_follows_404 hl (by decide) rfl (fun ls hl => ?_)
      refine lv_iload_n hx hb dL_follows_406 rfl (lv_at hl 3 rfl) ?_
      refine lv_iconst (v := 3) hx hb dL_follows_407 (by decide) ?_
      refine lv_idiv hx hb dL_follows_408 (by decide) ?_
      refine lv_aload_n hx hb dL_follows_409 rfl (lv_at hl 2 rfl) ?_
      refine lv_iload hx hb dL_follows_410 (lv_at hl 0 rfl) ?_
      refine lv_iconst (v := 0) hx hb dL_follows_412 (by decide) ?_
      refine kj_Wl (As := [.ref (ka_a G (22, 0, 0)), .int x58, .int (0 : Int32)]) (rest := [.int (v1 / (3 : Int32))]) C0 hK hT hN hP hS (fun _ h => h) hl (km0_L_word l hl0 hI hq) kd_L_word kq_563 ⟨rfl, rfl, Nat.le_of_ble_eq_true rfl, Nat.le_of_ble_eq_true rfl⟩ rfl (Nat.le_of_ble_eq_true rfl) dL_follows_413 ⟨by show _ ≤ 12; omega, by show _ ≤ 72; omega⟩ (fun r59 σ60 H locs hq hP hkp hS => ?_)
      refine lv_l2i hx hb dL_follows_416 rfl ?_
      obtain ⟨hne, hq⟩ := hq
      refine lv_irem hx hb dL_follows_417 hne ?_
      refine lv_topi (fun x61 ex61 => ?_)
      have hq := hq x61 ex61
      refine lv_istore (lv' := [(17, .int x61), (16, .int x58), (7, .int t0), (0, .ref (ka_a G (22, 0, 0))), (1, .int v1), (2, .long v2), (4, .int v4)]) hx hb dL_follows_418 hl (by decide) rfl (fun ls hl => ?_)
      refine lv_aload_n hx hb dL_follows_420 rfl (lv_at hl 3 rfl) ?_
      refine kj_Vi (k := (22, 0, 0)) (As := []) (rest := []) C0 hK hP hS (fun _ h => h) hl (km_X8_mostUsed l hI hq) kd_X8_mostUsed kq_647 (kv_s (by decide) (by decide)) rfl rfl rfl ⟨rfl, rfl, Nat.le_of_ble_eq_true rfl, Nat.le_of_ble_eq_true rfl⟩ rfl (Nat.le_of_ble_eq_true rfl) dL_follows_421 ⟨by show _ ≤ 12; omega, by show _ ≤ 72; omega⟩ (fun r62 σ63 H locs hq hP hkp hS => ?_)
      refine lv_istore (lv' := [(18, .int r62), (17, .int x61), (16, .int x58), (7, .int t0), (0, .ref (ka_a G (22, 0, 0))), (1, .int v1), (2, .long v2), (4, .int v4)]) hx hb dL_follows_424 hl (by decide) rfl (fun ls hl => ?_)
      refine lv_aload_n hx hb dL_follows_426 rfl (lv_at hl 4 rfl) ?_
      refine lv_iconst (v := 3) hx hb dL_follows_427 (by decide) ?_
      refine kj_Wl (As := [.ref (ka_a G (22, 0, 0)), .int (3 : Int32)]) (rest := []) C0 hK hT hN hP hS (fun _ h => h) hl (km0_L_about l hl0 hI hq) kd_L_about kq_478 ⟨rfl, rfl, Nat.le_of_ble_eq_true rfl, Nat.le_of_ble_eq_true rfl⟩ rfl (Nat.le_of_ble_eq_true rfl) dL_follows_428 ⟨by show _ ≤ 12; omega, by show _ ≤ 72; omega⟩ (fun r64 σ65 H locs hq hP hkp hS => ?_)
      refine lv_lstore (lv' := [(19, .long r64), (18, .int r62), (17, .int x61), (16, .int x58), (7, .int t0), (0, .ref (ka_a G (22, 0, 0))), (1, .int v1), (2, .long v2), (4, .int v4)]) hx hb dL_follows_431 hl (by decide) rfl (fun ls hl => ?_)
      refine lv_aload_n hx hb dL_follows_433 rfl (lv_at hl 5 rfl) ?_
      refine lv_iload hx hb dL_follows_434 (lv_at hl 3 rfl) ?_
      refine lv_iconst (v := 5) hx hb dL_follows_436 (by decide) ?_
      refine kj_Wl (As := [.ref (ka_a G (22, 0, 0)), .int x58, .int (5 : Int32)]) (rest := []) C0 hK hT hN hP hS (fun _ h => h) hl (km0_L_word l hl0 hI hq) kd_L_word kq_563 ⟨rfl, rfl, Nat.le_of_ble_eq_true rfl, Nat.le_of_ble_eq_true rfl⟩ rfl (Nat.le_of_ble_eq_true rfl) dL_follows_437 ⟨by show _ ≤ 12; omega, by show _ ≤ 72; omega⟩ (fun r66 σ67 H locs hq hP hkp hS => ?_)
      refine lv_lconst (v := 1) hx hb dL_follows_440 (by decide) ?_
      refine kr_cne (tgt := 449) C0 dL_follows_441 dL_follows_442 (by decide) (fun hc => ?_) (fun hc => ?_)
      · have hq := hq.2 hc
        refine lv_iconst (v := 0) hx hb dL_follows_449 (by decide) ?_
        refine W.widen (k := (cl + 0)) (n := 6 * (cl + 0)) (by omega) (by omega) ?_
        exact kb_L_follows_450 hl0 hI C0 hK hT hN σ67 v2 v4 x58 x61 r62 r64 (0 : Int32) hq (cl + 0) (by omega) H locs hP hS ls (lv_sub hl [5, 7, 8, 3, 2, 1, 0] rfl)
      · have hq := hq.1 hc
        refine lv_iconst (v := 1) hx hb dL_follows_445 (by decide) ?_
        refine lv_goto (tgt := 450) hx hb dL_follows_446 (by decide) ?_
        refine W.widen (k := (cl + 0)) (n := 6 * (cl + 0)) (by omega) (by omega) ?_
        exact kb_L_follows_450 hl0 hI C0 hK hT hN σ67 v2 v4 x58 x61 r62 r64 (1 : Int32) hq (cl + 0) (by omega) H locs hP hS ls (lv_sub hl [5, 7, 8, 3, 2, 1, 0] rfl)
def kw_L_follows_384 (Q : Int32 → ka_S → Prop) (σ : ka_S) (v1 : Int32) (v2 : Int64) (v4 : Int32) : Prop := kw_L_follows_385 Q σ v1 v2 v4 (0 : Int32)
set_option maxHeartbeats 4000000 in
set_option maxRecDepth 100000 in
theorem kb_L_follows_384 {p : Program} {l : Launch} {e : Env} {s : State} {m : MethodId} {below : List Frame} {meth : Method} {c : Code} {G : ka_G} {args : Array Value} (hl0 : l.stackTraces = false) (hI : ka_I G) (C0 : ka_C p s m args meth c cL_follows 27 "GlossRowsLaw" (some .boolean)) (hK : ka_Kn G s) (hT : ka_T9 (ka_A G) s) (hN : kl_Nc s) {Q : Int32 → ka_S → Prop} : ∀ (σ : ka_S) (v1 : Int32) (v2 : Int64) (v4 : Int32), kw_L_follows_384 Q σ v1 v2 v4 → ∀ (cl : Nat), cl + 6 ≤ 12 → ∀ (H : Heap) (locs : List Loc), ka_P G σ H → va_S (ka_A G) s.heap H locs → ∀ ls : Array Slot, lv_has ls 27 [(0, .ref (ka_a G (22, 0, 0))), (1, .int v1), (2, .long v2), (4, .int v4)] → W p l e rm_L_follows s m args below meth c H locs cl (6 * cl) (MQ below (va_Qi Q (ka_B G) (ka_A G)) args s 12 72 (ka_A G)) (F0 m 384 ls []) := by
  obtain ⟨hx, hb, -, hml, hown, hts, -⟩ := id C0
  intro σ v1 v2 v4 hq cl hcl H locs hP hS ls hl
  unfold kw_L_follows_384 at hq
  refine lv_iconst (v := 0) hx hb dL_follows_384 (by decide) ?_
  refine W.widen (k := (cl + 0)) (n := 6 * (cl + 0)) (by omega) (by omega) ?_
  exact kb_L_follows_385 hl0 hI C0 hK hT hN σ v1 v2 v4 (0 : Int32) hq (cl + 0) (by omega) H locs hP hS ls (lv_sub hl [0, 1, 2, 3] rfl)
def kw_L_follows_318 (Q : Int32 → ka_S → Prop) (σ : ka_S) (v1 : Int32) (v2 : Int64) (v4 : Int32) (v13 : Int64) (t0 : Int32) : Prop := kw_X8_fillGaps σ (fun r46 σ47 =>
  (t0 = (0 : Int32) → kw_L_follows_384 Q σ47 v1 v2 v4) ∧
  (¬ t0 = (0 : Int32) → kw0_L_about σ47 (2 : Int32) (fun r48 σ49 =>
    (r48 = (v13 - r46.toInt64) → kw_X8_fillGaps σ49 (fun r50 σ51 =>
      (r50 = (0 : Int32) → kw_L_undo σ51 (fun r52 σ53 =>
        (r52 < (0 : Int64) → kw_L_follows_384 Q σ53 v1 v2 v4) ∧
        (¬ r52 < (0 : Int64) → kw_L_undo σ53 (fun r54 σ55 =>
          (r54 < (0 : Int64) → kw_L_follows_384 Q σ55 v1 v2 v4) ∧
          (¬ r54 < (0 : Int64) → kw_L_now σ55 (fun r56 σ57 =>
            (r56 = v2 → kw_L_follows_385 Q σ57 v1 v2 v4 (1 : Int32)) ∧
            (¬ r56 = v2 → kw_L_follows_384 Q σ57 v1 v2 v4))))))) ∧
      (¬ r50 = (0 : Int32) → kw_L_follows_384 Q σ51 v1 v2 v4))) ∧
    (¬ r48 = (v13 - r46.toInt64) → kw_L_follows_384 Q σ49 v1 v2 v4))))
set_option maxHeartbeats 4000000 in
set_option maxRecDepth 100000 in
theorem kb_L_follows_318 {p : Program} {l : Launch} {e : Env} {s : State} {m : MethodId} {below : List Frame} {meth : Method} {c : Code} {G : ka_G} {args : Array Value} (hl0 : l.stackTraces = false) (hI : ka_I G) (C0 : ka_C p s m args meth c cL_follows 27 "GlossRowsLaw" (some .boolean)) (hK : ka_Kn G s) (hT : ka_T9 (ka_A G) s) (hN : kl_Nc s) {Q : Int32 → ka_S → Prop} : ∀ (σ : ka_S) (v1 : Int32) (v2 : Int64) (v4 : Int32) (v13 : Int64) (t0 : Int32), kw_L_follows_318 Q σ v1 v2 v4 v13 t0 → ∀ (cl : Nat), cl + 8 ≤ 12 → ∀ (H : Heap) (locs : List Loc), ka_P G σ H → va_S (ka_A G) s.heap H locs → ∀ ls : Array Slot, lv_has ls 27 [(0, .ref (ka_a G (22, 0, 0))), (1, .int v1), (2, .long v2), (4, .int v4), (13, .long v13)] → W p l e rm_L_follows s m args below meth c H locs cl (6 * cl) (MQ below (va_Qi Q (ka_B G) (ka_A G)) args s 12 72 (ka_A G)) (F0 m 318 ls [.int t0]) := by
  obtain ⟨hx, hb, -, hml, hown, hts, -⟩ := id C0
  intro σ v1 v2 v4 v13 t0 hq cl hcl H locs hP hS ls hl
  unfold kw_L_follows_318 at hq
  refine lv_istore (lv' := [(7, .int t0), (0, .ref (ka_a G (22, 0, 0))), (1, .int v1), (2, .long v2), (4, .int v4), (13, .long v13)]) hx hb dL_follows_318 hl (by decide) rfl (fun ls hl => ?_)
  refine lv_aload_n hx hb dL_follows_320 rfl (lv_at hl 1 rfl) ?_
  refine kj_Vi (k := (22, 0, 0)) (As := []) (rest := []) C0 hK hP hS (fun _ h => h) hl (km_X8_fillGaps l hI hq) kd_X8_fillGaps kq_978 (kv_s (by decide) (by decide)) rfl rfl rfl ⟨rfl, rfl, Nat.le_of_ble_eq_true rfl, Nat.le_of_ble_eq_true rfl⟩ rfl (Nat.le_of_ble_eq_true rfl) dL_follows_321 ⟨by show _ ≤ 12; omega, by show _ ≤ 72; omega⟩ (fun r46 σ47 H locs hq hP hkp hS => ?_)
  refine lv_istore (lv' := [(15, .int r46), (7, .int t0), (0, .ref (ka_a G (22, 0, 0))), (1, .int v1), (2, .long v2), (4, .int v4), (13, .long v13)]) hx hb dL_follows_324 hl (by decide) rfl (fun ls hl => ?_)
  refine lv_iload hx hb dL_follows_326 (lv_at hl 1 rfl) ?_
  refine lv_if_eq (tgt := 384) hx hb dL_follows_328 (by decide) (fun hc => ?_) (fun hc => ?_)
  · have hq := hq.1 hc
    refine W.widen (k := (cl + 0)) (n := 6 * (cl + 0)) (by omega) (by omega) ?_
    exact kb_L_follows_384 hl0 hI C0 hK hT hN σ47 v1 v2 v4 hq (cl + 0) (by omega) H locs hP hS ls (lv_sub hl [2, 3, 4, 5] rfl)
  · have hq := hq.2 hc
    refine lv_aload_n hx hb dL_follows_331 rfl (lv_at hl 2 rfl) ?_
    refine lv_iconst (v := 2) hx hb dL_follows_332 (by decide) ?_
    refine kj_Wl (As := [.ref (ka_a G (22, 0, 0)), .int (2 : Int32)]) (rest := []) C0 hK hT hN hP hS (fun _ h => h) hl (km0_L_about l hl0 hI hq) kd_L_about kq_478 ⟨rfl, rfl, Nat.le_of_ble_eq_true rfl, Nat.le_of_ble_eq_true rfl⟩ rfl (Nat.le_of_ble_eq_true rfl) dL_follows_333 ⟨by show _ ≤ 12; omega, by show _ ≤ 72; omega⟩ (fun r48 σ49 H locs hq hP hkp hS => ?_)
    refine lv_lload hx hb dL_follows_336 (lv_at hl 6 rfl) ?_
    refine lv_iload hx hb dL_follows_338 (lv_at hl 0 rfl) ?_
    refine lv_i2l hx hb dL_follows_340 rfl ?_
    refine lv_lsub hx hb dL_follows_341 ?_
    refine kr_cne (tgt := 384) C0 dL_follows_342 dL_follows_343 (by decide) (fun hc => ?_) (fun hc => ?_)
    · have hq := hq.2 hc
      refine W.widen (k := (cl + 0)) (n := 6 * (cl + 0)) (by omega) (by omega) ?_
      exact kb_L_follows_384 hl0 hI C0 hK hT hN σ49 v1 v2 v4 hq (cl + 0) (by omega) H locs hP hS ls (lv_sub hl [2, 3, 4, 5] rfl)
    · have hq := hq.1 hc
      refine lv_aload_n hx hb dL_follows_346 rfl (lv_at hl 2 rfl) ?_
      refine kj_Vi (k := (22, 0, 0)) (As := []) (rest := []) C0 hK hP hS (fun _ h => h) hl (km_X8_fillGaps l hI hq) kd_X8_fillGaps kq_978 (kv_s (by decide) (by decide)) rfl rfl rfl ⟨rfl, rfl, Nat.le_of_ble_eq_true rfl, Nat.le_of_ble_eq_true rfl⟩ rfl (Nat.le_of_ble_eq_true rfl) dL_follows_347 ⟨by show _ ≤ 12; omega, by show _ ≤ 72; omega⟩ (fun r50 σ51 H locs hq hP hkp hS => ?_)
      refine lv_if_ne (tgt := 384) hx hb dL_follows_350 (by decide) (fun hc => ?_) (fun hc => ?_)
      · have hq := hq.2 hc
        refine W.widen (k := (cl + 0)) (n := 6 * (cl + 0)) (by omega) (by omega) ?_
        exact kb_L_follows_384 hl0 hI C0 hK hT hN σ51 v1 v2 v4 hq (cl + 0) (by omega) H locs hP hS ls (lv_sub hl [2, 3, 4, 5] rfl)
      · have hq := hq.1 hc
        refine lv_aload_n hx hb dL_follows_353 rfl (lv_at hl 2 rfl) ?_
        refine kj_Wl (As := [.ref (ka_a G (22, 0, 0))]) (rest := []) C0 hK hT hN hP hS (fun _ h => h) hl (km_L_undo l hl0 hI hq) kd_L_undo kq_966 ⟨rfl, rfl, Nat.le_of_ble_eq_true rfl, Nat.le_of_ble_eq_true rfl⟩ rfl (Nat.le_of_ble_eq_true rfl) dL_follows_354 ⟨by show _ ≤ 12; omega, by show _ ≤ 72; omega⟩ (fun r52 σ53 H locs hq hP hkp hS => ?_)
        refine lv_lconst (v := 0) hx hb dL_follows_357 (by decide) ?_
        refine kr_clt (tgt := 384) C0 dL_follows_358 dL_follows_359 (by decide) (fun hc => ?_) (fun hc => ?_)
        · have hq := hq.1 hc
          refine W.widen (k := (cl + 1)) (n := 6 * (cl + 1)) (by omega) (by omega) ?_
          exact kb_L_follows_384 hl0 hI C0 hK hT hN σ53 v1 v2 v4 hq (cl + 1) (by omega) H locs hP hS ls (lv_sub hl [2, 3, 4, 5] rfl)
        · have hq := hq.2 hc
          refine lv_aload_n hx hb dL_follows_362 rfl (lv_at hl 2 rfl) ?_
          refine kj_Wl (As := [.ref (ka_a G (22, 0, 0))]) (rest := []) C0 hK hT hN hP hS (fun _ h => h) hl (km_L_undo l hl0 hI hq) kd_L_undo kq_966 ⟨rfl, rfl, Nat.le_of_ble_eq_true rfl, Nat.le_of_ble_eq_true rfl⟩ rfl (Nat.le_of_ble_eq_true rfl) dL_follows_363 ⟨by show _ ≤ 12; omega, by show _ ≤ 72; omega⟩ (fun r54 σ55 H locs hq hP hkp hS => ?_)
          refine lv_lconst (v := 0) hx hb dL_follows_366 (by decide) ?_
          refine kr_clt (tgt := 384) C0 dL_follows_367 dL_follows_368 (by decide) (fun hc => ?_) (fun hc => ?_)
          · have hq := hq.1 hc
            refine W.widen (k := (cl + 2)) (n := 6 * (cl + 2)) (by omega) (by omega) ?_
            exact kb_L_follows_384 hl0 hI C0 hK hT hN σ55 v1 v2 v4 hq (cl + 2) (by omega) H locs hP hS ls (lv_sub hl [2, 3, 4, 5] rfl)
          · have hq := hq.2 hc
            refine lv_aload_n hx hb dL_follows_371 rfl (lv_at hl 2 rfl) ?_
            refine kj_Sl (As := [.ref (ka_a G (22, 0, 0))]) (rest := []) C0 hK hT hN hP hS (fun _ h => h) hl (km_L_now l hl0 hI hq) kd_L_now kq_473 ⟨rfl, rfl, Nat.le_of_ble_eq_true rfl, Nat.le_of_ble_eq_true rfl⟩ rfl (Nat.le_of_ble_eq_true rfl) dL_follows_372 ⟨by show _ ≤ 12; omega, by show _ ≤ 72; omega⟩ (fun r56 σ57 H locs hq hP hkp hS => ?_)
            refine lv_lload_n hx hb dL_follows_375 rfl (lv_at hl 4 rfl) ?_
            refine kr_cne (tgt := 384) C0 dL_follows_376 dL_follows_377 (by decide) (fun hc => ?_) (fun hc => ?_)
            · have hq := hq.2 hc
              refine W.widen (k := (cl + 2)) (n := 6 * (cl + 2)) (by omega) (by omega) ?_
              exact kb_L_follows_384 hl0 hI C0 hK hT hN σ57 v1 v2 v4 hq (cl + 2) (by omega) H locs hP hS ls (lv_sub hl [2, 3, 4, 5] rfl)
            · have hq := hq.1 hc
              refine lv_iconst (v := 1) hx hb dL_follows_380 (by decide) ?_
              refine lv_goto (tgt := 385) hx hb dL_follows_381 (by decide) ?_
              refine W.widen (k := (cl + 2)) (n := 6 * (cl + 2)) (by omega) (by omega) ?_
              exact kb_L_follows_385 hl0 hI C0 hK hT hN σ57 v1 v2 v4 (1 : Int32) hq (cl + 2) (by omega) H locs hP hS ls (lv_sub hl [2, 3, 4, 5] rfl)
def kw_L_follows_313 (Q : Int32 → ka_S → Prop) (σ : ka_S) (v1 : Int32) (v2 : Int64) (v4 : Int32) (v13 : Int64) : Prop := kw_L_follows_318 Q σ v1 v2 v4 v13 (1 : Int32)
set_option maxHeartbeats 4000000 in
set_option maxRecDepth 100000 in
theorem kb_L_follows_313 {p : Program} {l : Launch} {e : Env} {s : State} {m : MethodId} {below : List Frame} {meth : Method} {c : Code} {G : ka_G} {args : Array Value} (hl0 : l.stackTraces = false) (hI : ka_I G) (C0 : ka_C p s m args meth c cL_follows 27 "GlossRowsLaw" (some .boolean)) (hK : ka_Kn G s) (hT : ka_T9 (ka_A G) s) (hN : kl_Nc s) {Q : Int32 → ka_S → Prop} : ∀ (σ : ka_S) (v1 : Int32) (v2 : Int64) (v4 : Int32) (v13 : Int64), kw_L_follows_313 Q σ v1 v2 v4 v13 → ∀ (cl : Nat), cl + 8 ≤ 12 → ∀ (H : Heap) (locs : List Loc), ka_P G σ H → va_S (ka_A G) s.heap H locs → ∀ ls : Array Slot, lv_has ls 27 [(0, .ref (ka_a G (22, 0, 0))), (1, .int v1), (2, .long v2), (4, .int v4), (13, .long v13)] → W p l e rm_L_follows s m args below meth c H locs cl (6 * cl) (MQ below (va_Qi Q (ka_B G) (ka_A G)) args s 12 72 (ka_A G)) (F0 m 313 ls []) := by
  obtain ⟨hx, hb, -, hml, hown, hts, -⟩ := id C0
  intro σ v1 v2 v4 v13 hq cl hcl H locs hP hS ls hl
  unfold kw_L_follows_313 at hq
  refine lv_iconst (v := 1) hx hb dL_follows_313 (by decide) ?_
  refine lv_goto (tgt := 318) hx hb dL_follows_314 (by decide) ?_
  refine W.widen (k := (cl + 0)) (n := 6 * (cl + 0)) (by omega) (by omega) ?_
  exact kb_L_follows_318 hl0 hI C0 hK hT hN σ v1 v2 v4 v13 (1 : Int32) hq (cl + 0) (by omega) H locs hP hS ls (lv_sub hl [0, 1, 2, 3, 4] rfl)
def kw_L_follows_317 (Q : Int32 → ka_S → Prop) (σ : ka_S) (v1 : Int32) (v2 : Int64) (v4 : Int32) (v13 : Int64) : Prop := kw_L_follows_318 Q σ v1 v2 v4 v13 (0 : Int32)
set_option maxHeartbeats 4000000 in
set_option maxRecDepth 100000 in
theorem kb_L_follows_317 {p : Program} {l : Launch} {e : Env} {s : State} {m : MethodId} {below : List Frame} {meth : Method} {c : Code} {G : ka_G} {args : Array Value} (hl0 : l.stackTraces = false) (hI : ka_I G) (C0 : ka_C p s m args meth c cL_follows 27 "GlossRowsLaw" (some .boolean)) (hK : ka_Kn G s) (hT : ka_T9 (ka_A G) s) (hN : kl_Nc s) {Q : Int32 → ka_S → Prop} : ∀ (σ : ka_S) (v1 : Int32) (v2 : Int64) (v4 : Int32) (v13 : Int64), kw_L_follows_317 Q σ v1 v2 v4 v13 → ∀ (cl : Nat), cl + 8 ≤ 12 → ∀ (H : Heap) (locs : List Loc), ka_P G σ H → va_S (ka_A G) s.heap H locs → ∀ ls : Array Slot, lv_has ls 27 [(0, .ref (ka_a G (22, 0, 0))), (1, .int v1), (2, .long v2), (4, .int v4), (13, .long v13)] → W p l e rm_L_follows s m args below meth c H locs cl (6 * cl) (MQ below (va_Qi Q (ka_B G) (ka_A G)) args s 12 72 (ka_A G)) (F0 m 317 ls []) := by
  obtain ⟨hx, hb, -, hml, hown, hts, -⟩ := id C0
  intro σ v1 v2 v4 v13 hq cl hcl H locs hP hS ls hl
  unfold kw_L_follows_317 at hq
  refine lv_iconst (v := 0) hx hb dL_follows_317 (by decide) ?_
  refine W.widen (k := (cl + 0)) (n := 6 * (cl + 0)) (by omega) (by omega) ?_
  exact kb_L_follows_318 hl0 hI C0 hK hT hN σ v1 v2 v4 v13 (0 : Int32) hq (cl + 0) (by omega) H locs hP hS ls (lv_sub hl [0, 1, 2, 3, 4] rfl)
def kw_L_follows_264 (Q : Int32 → ka_S → Prop) (σ : ka_S) (v1 : Int32) (v2 : Int64) (v4 : Int32) (v7 : Int32) : Prop := kw0_L_about σ (2 : Int32) (fun r38 σ39 =>
  (v7 = (0 : Int32) → kw_L_follows_317 Q σ39 v1 v2 v4 r38) ∧
  (¬ v7 = (0 : Int32) → kw0_L_gap σ39 r38.toInt32 (fun r40 σ41 =>
    (r40 = (-9 : Int64) → (r38 = (0 : Int64) → kw_L_follows_313 Q σ41 v1 v2 v4 r38) ∧
      (¬ r38 = (0 : Int64) → kw0_L_gap σ41 (r38.toInt32 - (1 : Int32)) (fun r42 σ43 =>
        (r42 = (-9 : Int64) → kw_L_follows_317 Q σ43 v1 v2 v4 r38) ∧
        (¬ r42 = (-9 : Int64) → kw_L_follows_313 Q σ43 v1 v2 v4 r38)))) ∧
    (¬ r40 = (-9 : Int64) → kw_L_follows_317 Q σ41 v1 v2 v4 r38))))
set_option maxHeartbeats 4000000 in
set_option maxRecDepth 100000 in
theorem kb_L_follows_264 {p : Program} {l : Launch} {e : Env} {s : State} {m : MethodId} {below : List Frame} {meth : Method} {c : Code} {G : ka_G} {args : Array Value} (hl0 : l.stackTraces = false) (hI : ka_I G) (C0 : ka_C p s m args meth c cL_follows 27 "GlossRowsLaw" (some .boolean)) (hK : ka_Kn G s) (hT : ka_T9 (ka_A G) s) (hN : kl_Nc s) {Q : Int32 → ka_S → Prop} : ∀ (σ : ka_S) (v1 : Int32) (v2 : Int64) (v4 : Int32) (v7 : Int32), kw_L_follows_264 Q σ v1 v2 v4 v7 → ∀ (cl : Nat), cl + 8 ≤ 12 → ∀ (H : Heap) (locs : List Loc), ka_P G σ H → va_S (ka_A G) s.heap H locs → ∀ ls : Array Slot, lv_has ls 27 [(0, .ref (ka_a G (22, 0, 0))), (1, .int v1), (2, .long v2), (4, .int v4), (7, .int v7)] → W p l e rm_L_follows s m args below meth c H locs cl (6 * cl) (MQ below (va_Qi Q (ka_B G) (ka_A G)) args s 12 72 (ka_A G)) (F0 m 264 ls []) := by
  obtain ⟨hx, hb, -, hml, hown, hts, -⟩ := id C0
  intro σ v1 v2 v4 v7 hq cl hcl H locs hP hS ls hl
  unfold kw_L_follows_264 at hq
  refine lv_aload_n hx hb dL_follows_264 rfl (lv_at hl 0 rfl) ?_
  refine lv_iconst (v := 2) hx hb dL_follows_265 (by decide) ?_
  refine kj_Wl (As := [.ref (ka_a G (22, 0, 0)), .int (2 : Int32)]) (rest := []) C0 hK hT hN hP hS (fun _ h => h) hl (km0_L_about l hl0 hI hq) kd_L_about kq_478 ⟨rfl, rfl, Nat.le_of_ble_eq_true rfl, Nat.le_of_ble_eq_true rfl⟩ rfl (Nat.le_of_ble_eq_true rfl) dL_follows_266 ⟨by show _ ≤ 12; omega, by show _ ≤ 72; omega⟩ (fun r38 σ39 H locs hq hP hkp hS => ?_)
  refine lv_lstore (lv' := [(13, .long r38), (0, .ref (ka_a G (22, 0, 0))), (1, .int v1), (2, .long v2), (4, .int v4), (7, .int v7)]) hx hb dL_follows_269 hl (by decide) rfl (fun ls hl => ?_)
  refine lv_iload hx hb dL_follows_271 (lv_at hl 5 rfl) ?_
  refine lv_if_eq (tgt := 317) hx hb dL_follows_273 (by decide) (fun hc => ?_) (fun hc => ?_)
  · have hq := hq.1 hc
    refine W.widen (k := (cl + 0)) (n := 6 * (cl + 0)) (by omega) (by omega) ?_
    exact kb_L_follows_317 hl0 hI C0 hK hT hN σ39 v1 v2 v4 r38 hq (cl + 0) (by omega) H locs hP hS ls (lv_sub hl [1, 2, 3, 4, 0] rfl)
  · have hq := hq.2 hc
    refine lv_aload_n hx hb dL_follows_276 rfl (lv_at hl 1 rfl) ?_
    refine lv_lload hx hb dL_follows_277 (lv_at hl 0 rfl) ?_
    refine lv_l2i hx hb dL_follows_279 rfl ?_
    refine kj_Wl (As := [.ref (ka_a G (22, 0, 0)), .int r38.toInt32]) (rest := []) C0 hK hT hN hP hS (fun _ h => h) hl (km0_L_gap l hl0 hI hq) kd_L_gap kq_636 ⟨rfl, rfl, Nat.le_of_ble_eq_true rfl, Nat.le_of_ble_eq_true rfl⟩ rfl (Nat.le_of_ble_eq_true rfl) dL_follows_280 ⟨by show _ ≤ 12; omega, by show _ ≤ 72; omega⟩ (fun r40 σ41 H locs hq hP hkp hS => ?_)
    refine lv_ldc2 hx hb hown (hts _ kq_957) dL_follows_283 ?_
    refine kr_cne (tgt := 317) C0 dL_follows_286 dL_follows_287 (by decide) (fun hc => ?_) (fun hc => ?_)
    · have hq := hq.2 hc
      refine W.widen (k := (cl + 0)) (n := 6 * (cl + 0)) (by omega) (by omega) ?_
      exact kb_L_follows_317 hl0 hI C0 hK hT hN σ41 v1 v2 v4 r38 hq (cl + 0) (by omega) H locs hP hS ls (lv_sub hl [1, 2, 3, 4, 0] rfl)
    · have hq := hq.1 hc
      refine lv_lload hx hb dL_follows_290 (lv_at hl 0 rfl) ?_
      refine lv_lconst (v := 0) hx hb dL_follows_292 (by decide) ?_
      refine kr_ceq (tgt := 313) C0 dL_follows_293 dL_follows_294 (by decide) (fun hc => ?_) (fun hc => ?_)
      · have hq := hq.1 hc
        refine W.widen (k := (cl + 0)) (n := 6 * (cl + 0)) (by omega) (by omega) ?_
        exact kb_L_follows_313 hl0 hI C0 hK hT hN σ41 v1 v2 v4 r38 hq (cl + 0) (by omega) H locs hP hS ls (lv_sub hl [1, 2, 3, 4, 0] rfl)
      · have hq := hq.2 hc
        refine lv_aload_n hx hb dL_follows_297 rfl (lv_at hl 1 rfl) ?_
        refine lv_lload hx hb dL_follows_298 (lv_at hl 0 rfl) ?_
        refine lv_l2i hx hb dL_follows_300 rfl ?_
        refine lv_iconst (v := 1) hx hb dL_follows_301 (by decide) ?_
        refine lv_isub hx hb dL_follows_302 ?_
        refine kj_Wl (As := [.ref (ka_a G (22, 0, 0)), .int (r38.toInt32 - (1 : Int32))]) (rest := []) C0 hK hT hN hP hS (fun _ h => h) hl (km0_L_gap l hl0 hI hq) kd_L_gap kq_636 ⟨rfl, rfl, Nat.le_of_ble_eq_true rfl, Nat.le_of_ble_eq_true rfl⟩ rfl (Nat.le_of_ble_eq_true rfl) dL_follows_303 ⟨by show _ ≤ 12; omega, by show _ ≤ 72; omega⟩ (fun r42 σ43 H locs hq hP hkp hS => ?_)
        refine lv_ldc2 hx hb hown (hts _ kq_957) dL_follows_306 ?_
        refine kr_ceq (tgt := 317) C0 dL_follows_309 dL_follows_310 (by decide) (fun hc => ?_) (fun hc => ?_)
        · have hq := hq.1 hc
          refine W.widen (k := (cl + 0)) (n := 6 * (cl + 0)) (by omega) (by omega) ?_
          exact kb_L_follows_317 hl0 hI C0 hK hT hN σ43 v1 v2 v4 r38 hq (cl + 0) (by omega) H locs hP hS ls (lv_sub hl [1, 2, 3, 4, 0] rfl)
        · have hq := hq.2 hc
          refine W.widen (k := (cl + 0)) (n := 6 * (cl + 0)) (by omega) (by omega) ?_
          exact kb_L_follows_313 hl0 hI C0 hK hT hN σ43 v1 v2 v4 r38 hq (cl + 0) (by omega) H locs hP hS ls (lv_sub hl [1, 2, 3, 4, 0] rfl)
def kw_L_follows_262 (Q : Int32 → ka_S → Prop) (σ : ka_S) (v1 : Int32) (v2 : Int64) (v4 : Int32) (t0 : Int32) : Prop := kw_L_follows_264 Q σ v1 v2 v4 t0
set_option maxHeartbeats 4000000 in
set_option maxRecDepth 100000 in
theorem kb_L_follows_262 {p : Program} {l : Launch} {e : Env} {s : State} {m : MethodId} {below : List Frame} {meth : Method} {c : Code} {G : ka_G} {args : Array Value} (hl0 : l.stackTraces = false) (hI : ka_I G) (C0 : ka_C p s m args meth c cL_follows 27 "GlossRowsLaw" (some .boolean)) (hK : ka_Kn G s) (hT : ka_T9 (ka_A G) s) (hN : kl_Nc s) {Q : Int32 → ka_S → Prop} : ∀ (σ : ka_S) (v1 : Int32) (v2 : Int64) (v4 : Int32) (t0 : Int32), kw_L_follows_262 Q σ v1 v2 v4 t0 → ∀ (cl : Nat), cl + 8 ≤ 12 → ∀ (H : Heap) (locs : List Loc), ka_P G σ H → va_S (ka_A G) s.heap H locs → ∀ ls : Array Slot, lv_has ls 27 [(0, .ref (ka_a G (22, 0, 0))), (1, .int v1), (2, .long v2), (4, .int v4)] → W p l e rm_L_follows s m args below meth c H locs cl (6 * cl) (MQ below (va_Qi Q (ka_B G) (ka_A G)) args s 12 72 (ka_A G)) (F0 m 262 ls [.int t0]) := by
  obtain ⟨hx, hb, -, hml, hown, hts, -⟩ := id C0
  intro σ v1 v2 v4 t0 hq cl hcl H locs hP hS ls hl
  unfold kw_L_follows_262 at hq
  refine lv_istore (lv' := [(7, .int t0), (0, .ref (ka_a G (22, 0, 0))), (1, .int v1), (2, .long v2), (4, .int v4)]) hx hb dL_follows_262 hl (by decide) rfl (fun ls hl => ?_)
  refine W.widen (k := (cl + 0)) (n := 6 * (cl + 0)) (by omega) (by omega) ?_
  exact kb_L_follows_264 hl0 hI C0 hK hT hN σ v1 v2 v4 t0 hq (cl + 0) (by omega) H locs hP hS ls (lv_sub hl [1, 2, 3, 4, 0] rfl)
def kw_L_follows_261 (Q : Int32 → ka_S → Prop) (σ : ka_S) (v1 : Int32) (v2 : Int64) (v4 : Int32) : Prop := kw_L_follows_262 Q σ v1 v2 v4 (0 : Int32)
set_option maxHeartbeats 4000000 in
set_option maxRecDepth 100000 in
theorem kb_L_follows_261 {p : Program} {l : Launch} {e : Env} {s : State} {m : MethodId} {below : List Frame} {meth : Method} {c : Code} {G : ka_G} {args : Array Value} (hl0 : l.stackTraces = false) (hI : ka_I G) (C0 : ka_C p s m args meth c cL_follows 27 "GlossRowsLaw" (some .boolean)) (hK : ka_Kn G s) (hT : ka_T9 (ka_A G) s) (hN : kl_Nc s) {Q : Int32 → ka_S → Prop} : ∀ (σ : ka_S) (v1 : Int32) (v2 : Int64) (v4 : Int32), kw_L_follows_261 Q σ v1 v2 v4 → ∀ (cl : Nat), cl + 8 ≤ 12 → ∀ (H : Heap) (locs : List Loc), ka_P G σ H → va_S (ka_A G) s.heap H locs → ∀ ls : Array Slot, lv_has ls 27 [(0, .ref (ka_a G (22, 0, 0))), (1, .int v1), (2, .long v2), (4, .int v4)] → W p l e rm_L_follows s m args below meth c H locs cl (6 * cl) (MQ below (va_Qi Q (ka_B G) (ka_A G)) args s 12 72 (ka_A G)) (F0 m 261 ls []) := by
  obtain ⟨hx, hb, -, hml, hown, hts, -⟩ := id C0
  intro σ v1 v2 v4 hq cl hcl H locs hP hS ls hl
  unfold kw_L_follows_261 at hq
  refine lv_iconst (v := 0) hx hb dL_follows_261 (by decide) ?_
  refine W.widen (k := (cl + 0)) (n := 6 * (cl + 0)) (by omega) (by omega) ?_
  exact kb_L_follows_262 hl0 hI C0 hK hT hN σ v1 v2 v4 (0 : Int32) hq (cl + 0) (by omega) H locs hP hS ls (lv_sub hl [0, 1, 2, 3] rfl)
def kw_L_follows_248 (Q : Int32 → ka_S → Prop) (σ : ka_S) (v1 : Int32) (v2 : Int64) (v4 : Int32) : Prop := kw_L_now σ (fun r44 σ45 =>
  (r44 = v2 → kw_L_follows_262 Q σ45 v1 v2 v4 (1 : Int32)) ∧
  (¬ r44 = v2 → kw_L_follows_261 Q σ45 v1 v2 v4))
set_option maxHeartbeats 4000000 in
set_option maxRecDepth 100000 in
theorem kb_L_follows_248 {p : Program} {l : Launch} {e : Env} {s : State} {m : MethodId} {below : List Frame} {meth : Method} {c : Code} {G : ka_G} {args : Array Value} (hl0 : l.stackTraces = false) (hI : ka_I G) (C0 : ka_C p s m args meth c cL_follows 27 "GlossRowsLaw" (some .boolean)) (hK : ka_Kn G s) (hT : ka_T9 (ka_A G) s) (hN : kl_Nc s) {Q : Int32 → ka_S → Prop} : ∀ (σ : ka_S) (v1 : Int32) (v2 : Int64) (v4 : Int32), kw_L_follows_248 Q σ v1 v2 v4 → ∀ (cl : Nat), cl + 8 ≤ 12 → ∀ (H : Heap) (locs : List Loc), ka_P G σ H → va_S (ka_A G) s.heap H locs → ∀ ls : Array Slot, lv_has ls 27 [(0, .ref (ka_a G (22, 0, 0))), (1, .int v1), (2, .long v2), (4, .int v4)] → W p l e rm_L_follows s m args below meth c H locs cl (6 * cl) (MQ below (va_Qi Q (ka_B G) (ka_A G)) args s 12 72 (ka_A G)) (F0 m 248 ls []) := by
  obtain ⟨hx, hb, -, hml, hown, hts, -⟩ := id C0
  intro σ v1 v2 v4 hq cl hcl H locs hP hS ls hl
  unfold kw_L_follows_248 at hq
  refine lv_aload_n hx hb dL_follows_248 rfl (lv_at hl 0 rfl) ?_
  refine kj_Sl (As := [.ref (ka_a G (22, 0, 0))]) (rest := []) C0 hK hT hN hP hS (fun _ h => h) hl (km_L_now l hl0 hI hq) kd_L_now kq_473 ⟨rfl, rfl, Nat.le_of_ble_eq_true rfl, Nat.le_of_ble_eq_true rfl⟩ rfl (Nat.le_of_ble_eq_true rfl) dL_follows_249 ⟨by show _ ≤ 12; omega, by show _ ≤ 72; omega⟩ (fun r44 σ45 H locs hq hP hkp hS => ?_)
  refine lv_lload_n hx hb dL_follows_252 rfl (lv_at hl 2 rfl) ?_
  refine kr_cne (tgt := 261) C0 dL_follows_253 dL_follows_254 (by decide) (fun hc => ?_) (fun hc => ?_)
  · have hq := hq.2 hc
    refine W.widen (k := (cl + 0)) (n := 6 * (cl + 0)) (by omega) (by omega) ?_
    exact kb_L_follows_261 hl0 hI C0 hK hT hN σ45 v1 v2 v4 hq (cl + 0) (by omega) H locs hP hS ls (lv_sub hl [0, 1, 2, 3] rfl)
  · have hq := hq.1 hc
    refine lv_iconst (v := 1) hx hb dL_follows_257 (by decide) ?_
    refine lv_goto (tgt := 262) hx hb dL_follows_258 (by decide) ?_
    refine W.widen (k := (cl + 0)) (n := 6 * (cl + 0)) (by omega) (by omega) ?_
    exact kb_L_follows_262 hl0 hI C0 hK hT hN σ45 v1 v2 v4 (1 : Int32) hq (cl + 0) (by omega) H locs hP hS ls (lv_sub hl [0, 1, 2, 3] rfl)
def kw_L_follows_133 (Q : Int32 → ka_S → Prop) (σ : ka_S) (v1 : Int32) (v2 : Int64) (v4 : Int32) (t0 : Int32) : Prop := ∀ x23 : Int32, x23 = (v1 - v1 / (40 : Int32) * (40 : Int32)) → 
  kw0_L_widthFor σ x23 (fun r24 σ25 =>
  (r24 = (-9 : Int64) → kw_L_follows_264 Q σ25 v1 v2 v4 t0) ∧
  (¬ r24 = (-9 : Int64) → (t0 = (0 : Int32) → kw_L_follows_264 Q σ25 v1 v2 v4 t0) ∧
    (¬ t0 = (0 : Int32) → kw0_L_set σ25 (9 : Int32) r24.toInt32 (fun r26 σ27 =>
      (r26 < (10 : Int64) → kw_L_follows_261 Q σ27 v1 v2 v4) ∧
      (¬ r26 < (10 : Int64) → kw0_L_about σ27 (5 : Int32) (fun r28 σ29 =>
        (x23.toInt64 < r28 → kw_L_follows_261 Q σ29 v1 v2 v4) ∧
        (¬ x23.toInt64 < r28 → kw_L_undo σ29 (fun r30 σ31 =>
          (r30 < (0 : Int64) → kw_L_follows_261 Q σ31 v1 v2 v4) ∧
          (¬ r30 < (0 : Int64) → (r24 = (10 : Int64) → kw_L_follows_248 Q σ31 v1 v2 v4) ∧
            (¬ r24 = (10 : Int64) → kw0_L_set σ31 (9 : Int32) (r24.toInt32 - (1 : Int32)) (fun r32 σ33 =>
              (r32 < (10 : Int64) → kw_L_follows_261 Q σ33 v1 v2 v4) ∧
              (¬ r32 < (10 : Int64) → kw0_L_about σ33 (5 : Int32) (fun r34 σ35 =>
                (r34 ≤ x23.toInt64 → kw_L_follows_261 Q σ35 v1 v2 v4) ∧
                (¬ r34 ≤ x23.toInt64 → kw_L_undo σ35 (fun r36 σ37 =>
                  (r36 < (0 : Int64) → kw_L_follows_261 Q σ37 v1 v2 v4) ∧
                  (¬ r36 < (0 : Int64) → kw_L_follows_248 Q σ37 v1 v2 v4))))))))))))))))
set_option maxHeartbeats 4000000 in
set_option maxRecDepth 100000 in
theorem kb_L_follows_133 {p : Program} {l : Launch} {e : Env} {s : State} {m : MethodId} {below : List Frame} {meth : Method} {c : Code} {G : ka_G} {args : Array Value} (hl0 : l.stackTraces = false) (hI : ka_I G) (C0 : ka_C p s m args meth c cL_follows 27 "GlossRowsLaw" (some .boolean)) (hK : ka_Kn G s) (hT : ka_T9 (ka_A G) s) (hN : kl_Nc s) {Q : Int32 → ka_S → Prop} : ∀ (σ : ka_S) (v1 : Int32) (v2 : Int64) (v4 : Int32) (t0 : Int32), kw_L_follows_133 Q σ v1 v2 v4 t0 → ∀ (cl : Nat), cl + 10 ≤ 12 → ∀ (H : Heap) (locs : List Loc), ka_P G σ H → va_S (ka_A G) s.heap H locs → ∀ ls : Array Slot, lv_has ls 27 [(0, .ref (ka_a G (22, 0, 0))), (1, .int v1), (2, .long v2), (4, .int v4)] → W p l e rm_L_follows s m args below meth c H locs cl (6 * cl) (MQ below (va_Qi Q (ka_B G) (ka_A G)) args s 12 72 (ka_A G)) (F0 m 133 ls [.int t0]) := by
  obtain ⟨hx, hb, -, hml, hown, hts, -⟩ := id C0
  intro σ v1 v2 v4 t0 hq cl hcl H locs hP hS ls hl
  unfold kw_L_follows_133 at hq
  refine lv_istore (lv' := [(7, .int t0), (0, .ref (ka_a G (22, 0, 0))), (1, .int v1), (2, .long v2), (4, .int v4)]) hx hb dL_follows_133 hl (by decide) rfl (fun ls hl => ?_)
  refine lv_iload_n hx hb dL_follows_135 rfl (lv_at hl 2 rfl) ?_
  refine lv_bipush (v := 40) hx hb dL_follows_136 (by decide) ?_
  refine lv_irem hx hb dL_follows_138 (by decide) ?_
  refine lv_topi (fun x23 ex23 => ?_)
  have hq := hq x23 ex23
  refine lv_istore (lv' := [(10, .int x23), (7, .int t0), (0, .ref (ka_a G (22, 0, 0))), (1, .int v1), (2, .long v2), (4, .int v4)]) hx hb dL_follows_139 hl (by decide) rfl (fun ls hl => ?_)
  refine lv_aload_n hx hb dL_follows_141 rfl (lv_at hl 2 rfl) ?_
  refine lv_iload hx hb dL_follows_142 (lv_at hl 0 rfl) ?_
  refine kj_Wl (As := [.ref (ka_a G (22, 0, 0)), .int x23]) (rest := []) C0 hK hT hN hP hS (fun _ h => h) hl (km0_L_widthFor l hl0 hI hq) kd_L_widthFor kq_659 ⟨rfl, rfl, Nat.le_of_ble_eq_true rfl, Nat.le_of_ble_eq_true rfl⟩ rfl (Nat.le_of_ble_eq_true rfl) dL_follows_144 ⟨by show _ ≤ 12; omega, by show _ ≤ 72; omega⟩ (fun r24 σ25 H locs hq hP hkp hS => ?_)
  refine lv_lstore (lv' := [(11, .long r24), (10, .int x23), (7, .int t0), (0, .ref (ka_a G (22, 0, 0))), (1, .int v1), (2, .long v2), (4, .int v4)]) hx hb dL_follows_147 hl (by decide) rfl (fun ls hl => ?_)
  refine lv_lload hx hb dL_follows_149 (lv_at hl 0 rfl) ?_
  refine lv_ldc2 hx hb hown (hts _ kq_957) dL_follows_151 ?_
  refine kr_ceq (tgt := 264) C0 dL_follows_154 dL_follows_155 (by decide) (fun hc => ?_) (fun hc => ?_)
  · have hq := hq.1 hc
    refine W.widen (k := (cl + 0)) (n := 6 * (cl + 0)) (by omega) (by omega) ?_
    exact kb_L_follows_264 hl0 hI C0 hK hT hN σ25 v1 v2 v4 t0 hq (cl + 0) (by omega) H locs hP hS ls (lv_sub hl [3, 4, 5, 6, 2] rfl)
  · have hq := hq.2 hc
    refine lv_iload hx hb dL_follows_158 (lv_at hl 2 rfl) ?_
    refine lv_if_eq (tgt := 264) hx hb dL_follows_160 (by decide) (fun hc => ?_) (fun hc => ?_)
    · have hq := hq.1 hc
      refine W.widen (k := (cl + 0)) (n := 6 * (cl + 0)) (by omega) (by omega) ?_
      exact kb_L_follows_264 hl0 hI C0 hK hT hN σ25 v1 v2 v4 t0 hq (cl + 0) (by omega) H locs hP hS ls (lv_sub hl [3, 4, 5, 6, 2] rfl)
    · have hq := hq.2 hc
      refine lv_aload_n hx hb dL_follows_163 rfl (lv_at hl 3 rfl) ?_
      refine lv_bipush (v := 9) hx hb dL_follows_164 (by decide) ?_
      refine lv_lload hx hb dL_follows_166 (lv_at hl 0 rfl) ?_
      refine lv_l2i hx hb dL_follows_168 rfl ?_
      refine kj_Wl (As := [.ref (ka_a G (22, 0, 0)), .int (9 : Int32), .int r24.toInt32]) (rest := []) C0 hK hT hN hP hS (fun _ h => h) hl (km0_L_set l hl0 hI hq) kd_L_set kq_923 ⟨rfl, rfl, Nat.le_of_ble_eq_true rfl, Nat.le_of_ble_eq_true rfl⟩ rfl (Nat.le_of_ble_eq_true rfl) dL_follows_169 ⟨by show _ ≤ 12; omega, by show _ ≤ 72; omega⟩ (fun r26 σ27 H locs hq hP hkp hS => ?_)
      refine lv_ldc2 hx hb hown (hts _ kq_965) dL_follows_172 ?_
      refine kr_clt (tgt := 261) C0 dL_follows_175 dL_follows_176 (by decide) (fun hc => ?_) (fun hc => ?_)
      · have hq := hq.1 hc
        refine W.widen (k := (cl + 0)) (n := 6 * (cl + 0)) (by omega) (by omega) ?_
        exact kb_L_follows_261 hl0 hI C0 hK hT hN σ27 v1 v2 v4 hq (cl + 0) (by omega) H locs hP hS ls (lv_sub hl [3, 4, 5, 6] rfl)
      · have hq := hq.2 hc
        refine lv_aload_n hx hb dL_follows_179 rfl (lv_at hl 3 rfl) ?_
        refine lv_iconst (v := 5) hx hb dL_follows_180 (by decide) ?_
        refine kj_Wl (As := [.ref (ka_a G (22, 0, 0)), .int (5 : Int32)]) (rest := []) C0 hK hT hN hP hS (fun _ h => h) hl (km0_L_about l hl0 hI hq) kd_L_about kq_478 ⟨rfl, rfl, Nat.le_of_ble_eq_true rfl, Nat.le_of_ble_eq_true rfl⟩ rfl (Nat.le_of_ble_eq_true rfl) dL_follows_181 ⟨by show _ ≤ 12; omega, by show _ ≤ 72; omega⟩ (fun r28 σ29 H locs hq hP hkp hS => ?_)
        refine lv_iload hx hb dL_follows_184 (lv_at hl 1 rfl) ?_
        refine lv_i2l hx hb dL_follows_186 rfl ?_
        refine kr_cgt (tgt := 261) C0 dL_follows_187 dL_follows_188 (by decide) (fun hc => ?_) (fun hc => ?_)
        · have hq := hq.1 hc
          refine W.widen (k := (cl + 0)) (n := 6 * (cl + 0)) (by omega) (by omega) ?_
          exact kb_L_follows_261 hl0 hI C0 hK hT hN σ29 v1 v2 v4 hq (cl + 0) (by omega) H locs hP hS ls (lv_sub hl [3, 4, 5, 6] rfl)
        · have hq := hq.2 hc
          refine lv_aload_n hx hb dL_follows_191 rfl (lv_at hl 3 rfl) ?_
          refine kj_Wl (As := [.ref (ka_a G (22, 0, 0))]) (rest := []) C0 hK hT hN hP hS (fun _ h => h) hl (km_L_undo l hl0 hI hq) kd_L_undo kq_966 ⟨rfl, rfl, Nat.le_of_ble_eq_true rfl, Nat.le_of_ble_eq_true rfl⟩ rfl (Nat.le_of_ble_eq_true rfl) dL_follows_192 ⟨by show _ ≤ 12; omega, by show _ ≤ 72; omega⟩ (fun r30 σ31 H locs hq hP hkp hS => ?_)
          refine lv_lconst (v := 0) hx hb dL_follows_195 (by decide) ?_
          refine kr_clt (tgt := 261) C0 dL_follows_196 dL_follows_197 (by decide) (fun hc => ?_) (fun hc => ?_)
          · have hq := hq.1 hc
            refine W.widen (k := (cl + 1)) (n := 6 * (cl + 1)) (by omega) (by omega) ?_
            exact kb_L_follows_261 hl0 hI C0 hK hT hN σ31 v1 v2 v4 hq (cl + 1) (by omega) H locs hP hS ls (lv_sub hl [3, 4, 5, 6] rfl)
          · have hq := hq.2 hc
            refine lv_lload hx hb dL_follows_200 (lv_at hl 0 rfl) ?_
            refine lv_ldc2 hx hb hown (hts _ kq_965) dL_follows_202 ?_
            refine kr_ceq (tgt := 248) C0 dL_follows_205 dL_follows_206 (by decide) (fun hc => ?_) (fun hc => ?_)
            · have hq := hq.1 hc
              refine W.widen (k := (cl + 1)) (n := 6 * (cl + 1)) (by omega) (by omega) ?_
              exact kb_L_follows_248 hl0 hI C0 hK hT hN σ31 v1 v2 v4 hq (cl + 1) (by omega) H locs hP hS ls (lv_sub hl [3, 4, 5, 6] rfl)
            · have hq := hq.2 hc
              refine lv_aload_n hx hb dL_follows_209 rfl (lv_at hl 3 rfl) ?_
              refine lv_bipush (v := 9) hx hb dL_follows_210 (by decide) ?_
              refine lv_lload hx hb dL_follows_212 (lv_at hl 0 rfl) ?_
              refine lv_l2i hx hb dL_follows_214 rfl ?_
              refine lv_iconst (v := 1) hx hb dL_follows_215 (by decide) ?_
              refine lv_isub hx hb dL_follows_216 ?_
              refine kj_Wl (As := [.ref (ka_a G (22, 0, 0)), .int (9 : Int32), .int (r24.toInt32 - (1 : Int32))]) (rest := []) C0 hK hT hN hP hS (fun _ h => h) hl (km0_L_set l hl0 hI hq) kd_L_set kq_923 ⟨rfl, rfl, Nat.le_of_ble_eq_true rfl, Nat.le_of_ble_eq_true rfl⟩ rfl (Nat.le_of_ble_eq_true rfl) dL_follows_217 ⟨by show _ ≤ 12; omega, by show _ ≤ 72; omega⟩ (fun r32 σ33 H locs hq hP hkp hS => ?_)
              refine lv_ldc2 hx hb hown (hts _ kq_965) dL_follows_220 ?_
              refine kr_clt (tgt := 261) C0 dL_follows_223 dL_follows_224 (by decide) (fun hc => ?_) (fun hc => ?_)
              · have hq := hq.1 hc
                refine W.widen (k := (cl + 1)) (n := 6 * (cl + 1)) (by omega) (by omega) ?_
                exact kb_L_follows_261 hl0 hI C0 hK hT hN σ33 v1 v2 v4 hq (cl + 1) (by omega) H locs hP hS ls (lv_sub hl [3, 4, 5, 6] rfl)
              · have hq := hq.2 hc
                refine lv_aload_n hx hb dL_follows_227 rfl (lv_at hl 3 rfl) ?_
                refine lv_iconst (v := 5) hx hb dL_follows_228 (by decide) ?_
                refine kj_Wl (As := [.ref (ka_a G (22, 0, 0)), .int (5 : Int32)]) (rest := []) C0 hK hT hN hP hS (fun _ h => h) hl (km0_L_about l hl0 hI hq) kd_L_about kq_478 ⟨rfl, rfl, Nat.le_of_ble_eq_true rfl, Nat.le_of_ble_eq_true rfl⟩ rfl (Nat.le_of_ble_eq_true rfl) dL_follows_229 ⟨by show _ ≤ 12; omega, by show _ ≤ 72; omega⟩ (fun r34 σ35 H locs hq hP hkp hS => ?_)
                refine lv_iload hx hb dL_follows_232 (lv_at hl 1 rfl) ?_
                refine lv_i2l hx hb dL_follows_234 rfl ?_
                refine kr_cle (tgt := 261) C0 dL_follows_235 dL_follows_236 (by decide) (fun hc => ?_) (fun hc => ?_)
                · have hq := hq.1 hc
                  refine W.widen (k := (cl + 1)) (n := 6 * (cl + 1)) (by omega) (by omega) ?_
                  exact kb_L_follows_261 hl0 hI C0 hK hT hN σ35 v1 v2 v4 hq (cl + 1) (by omega) H locs hP hS ls (lv_sub hl [3, 4, 5, 6] rfl)
                · have hq := hq.2 hc
                  refine lv_aload_n hx hb dL_follows_239 rfl (lv_at hl 3 rfl) ?_
                  refine kj_Wl (As := [.ref (ka_a G (22, 0, 0))]) (rest := []) C0 hK hT hN hP hS (fun _ h => h) hl (km_L_undo l hl0 hI hq) kd_L_undo kq_966 ⟨rfl, rfl, Nat.le_of_ble_eq_true rfl, Nat.le_of_ble_eq_true rfl⟩ rfl (Nat.le_of_ble_eq_true rfl) dL_follows_240 ⟨by show _ ≤ 12; omega, by show _ ≤ 72; omega⟩ (fun r36 σ37 H locs hq hP hkp hS => ?_)
                  refine lv_lconst (v := 0) hx hb dL_follows_243 (by decide) ?_
                  refine kr_clt (tgt := 261) C0 dL_follows_244 dL_follows_245 (by decide) (fun hc => ?_) (fun hc => ?_)
                  · have hq := hq.1 hc
                    refine W.widen (k := (cl + 2)) (n := 6 * (cl + 2)) (by omega) (by omega) ?_
                    exact kb_L_follows_261 hl0 hI C0 hK hT hN σ37 v1 v2 v4 hq (cl + 2) (by omega) H locs hP hS ls (lv_sub hl [3, 4, 5, 6] rfl)
                  · have hq := hq.2 hc
                    refine W.widen (k := (cl + 2)) (n := 6 * (cl + 2)) (by omega) (by omega) ?_
                    exact kb_L_follows_248 hl0 hI C0 hK hT hN σ37 v1 v2 v4 hq (cl + 2) (by omega) H locs hP hS ls (lv_sub hl [3, 4, 5, 6] rfl)
def kw_L_follows_132 (Q : Int32 → ka_S → Prop) (σ : ka_S) (v1 : Int32) (v2 : Int64) (v4 : Int32) : Prop := kw_L_follows_133 Q σ v1 v2 v4 (0 : Int32)
set_option maxHeartbeats 4000000 in
set_option maxRecDepth 100000 in
theorem kb_L_follows_132 {p : Program} {l : Launch} {e : Env} {s : State} {m : MethodId} {below : List Frame} {meth : Method} {c : Code} {G : ka_G} {args : Array Value} (hl0 : l.stackTraces = false) (hI : ka_I G) (C0 : ka_C p s m args meth c cL_follows 27 "GlossRowsLaw" (some .boolean)) (hK : ka_Kn G s) (hT : ka_T9 (ka_A G) s) (hN : kl_Nc s) {Q : Int32 → ka_S → Prop} : ∀ (σ : ka_S) (v1 : Int32) (v2 : Int64) (v4 : Int32), kw_L_follows_132 Q σ v1 v2 v4 → ∀ (cl : Nat), cl + 10 ≤ 12 → ∀ (H : Heap) (locs : List Loc), ka_P G σ H → va_S (ka_A G) s.heap H locs → ∀ ls : Array Slot, lv_has ls 27 [(0, .ref (ka_a G (22, 0, 0))), (1, .int v1), (2, .long v2), (4, .int v4)] → W p l e rm_L_follows s m args below meth c H locs cl (6 * cl) (MQ below (va_Qi Q (ka_B G) (ka_A G)) args s 12 72 (ka_A G)) (F0 m 132 ls []) := by
  obtain ⟨hx, hb, -, hml, hown, hts, -⟩ := id C0
  intro σ v1 v2 v4 hq cl hcl H locs hP hS ls hl
  unfold kw_L_follows_132 at hq
  refine lv_iconst (v := 0) hx hb dL_follows_132 (by decide) ?_
  refine W.widen (k := (cl + 0)) (n := 6 * (cl + 0)) (by omega) (by omega) ?_
  exact kb_L_follows_133 hl0 hI C0 hK hT hN σ v1 v2 v4 (0 : Int32) hq (cl + 0) (by omega) H locs hP hS ls (lv_sub hl [0, 1, 2, 3] rfl)
def kw_L_follows_45 (Q : Int32 → ka_S → Prop) (σ : ka_S) (v1 : Int32) (v2 : Int64) (v4 : Int32) (v5 : Int32) (v6 : Int32) (t0 : Int32) : Prop := kw0_L_rowsWith σ v5 v6 (fun r9 σ10 =>
  (t0 = (0 : Int32) → kw_L_follows_132 Q σ10 v1 v2 v4) ∧
  (¬ t0 = (0 : Int32) → kw0_L_set σ10 (9 : Int32) v5 (fun r11 σ12 =>
    (r11 < (10 : Int64) → kw_L_follows_132 Q σ12 v1 v2 v4) ∧
    (¬ r11 < (10 : Int64) → kw0_L_set σ12 (11 : Int32) v6 (fun r13 σ14 =>
      (r13 < (0 : Int64) → kw_L_follows_132 Q σ14 v1 v2 v4) ∧
      (¬ r13 < (0 : Int64) → kw0_L_about σ14 (5 : Int32) (fun r15 σ16 =>
        (r15 = r9 → kw_L_undo σ16 (fun r17 σ18 =>
          (r17 < (0 : Int64) → kw_L_follows_132 Q σ18 v1 v2 v4) ∧
          (¬ r17 < (0 : Int64) → kw_L_undo σ18 (fun r19 σ20 =>
            (r19 < (0 : Int64) → kw_L_follows_132 Q σ20 v1 v2 v4) ∧
            (¬ r19 < (0 : Int64) → kw_L_now σ20 (fun r21 σ22 =>
              (r21 = v2 → kw_L_follows_133 Q σ22 v1 v2 v4 (1 : Int32)) ∧
              (¬ r21 = v2 → kw_L_follows_132 Q σ22 v1 v2 v4))))))) ∧
        (¬ r15 = r9 → kw_L_follows_132 Q σ16 v1 v2 v4))))))))
set_option maxHeartbeats 4000000 in
set_option maxRecDepth 100000 in
theorem kb_L_follows_45 {p : Program} {l : Launch} {e : Env} {s : State} {m : MethodId} {below : List Frame} {meth : Method} {c : Code} {G : ka_G} {args : Array Value} (hl0 : l.stackTraces = false) (hI : ka_I G) (C0 : ka_C p s m args meth c cL_follows 27 "GlossRowsLaw" (some .boolean)) (hK : ka_Kn G s) (hT : ka_T9 (ka_A G) s) (hN : kl_Nc s) {Q : Int32 → ka_S → Prop} : ∀ (σ : ka_S) (v1 : Int32) (v2 : Int64) (v4 : Int32) (v5 : Int32) (v6 : Int32) (t0 : Int32), kw_L_follows_45 Q σ v1 v2 v4 v5 v6 t0 → ∀ (cl : Nat), cl + 12 ≤ 12 → ∀ (H : Heap) (locs : List Loc), ka_P G σ H → va_S (ka_A G) s.heap H locs → ∀ ls : Array Slot, lv_has ls 27 [(0, .ref (ka_a G (22, 0, 0))), (1, .int v1), (2, .long v2), (4, .int v4), (5, .int v5), (6, .int v6)] → W p l e rm_L_follows s m args below meth c H locs cl (6 * cl) (MQ below (va_Qi Q (ka_B G) (ka_A G)) args s 12 72 (ka_A G)) (F0 m 45 ls [.int t0]) := by
  obtain ⟨hx, hb, -, hml, hown, hts, -⟩ := id C0
  intro σ v1 v2 v4 v5 v6 t0 hq cl hcl H locs hP hS ls hl
  unfold kw_L_follows_45 at hq
  refine lv_istore (lv' := [(7, .int t0), (0, .ref (ka_a G (22, 0, 0))), (1, .int v1), (2, .long v2), (4, .int v4), (5, .int v5), (6, .int v6)]) hx hb dL_follows_45 hl (by decide) rfl (fun ls hl => ?_)
  refine lv_aload_n hx hb dL_follows_47 rfl (lv_at hl 1 rfl) ?_
  refine lv_iload hx hb dL_follows_48 (lv_at hl 5 rfl) ?_
  refine lv_iload hx hb dL_follows_50 (lv_at hl 6 rfl) ?_
  refine kj_Wl (As := [.ref (ka_a G (22, 0, 0)), .int v5, .int v6]) (rest := []) C0 hK hT hN hP hS (fun _ h => h) hl (km0_L_rowsWith l hl0 hI hq) kd_L_rowsWith kq_676 ⟨rfl, rfl, Nat.le_of_ble_eq_true rfl, Nat.le_of_ble_eq_true rfl⟩ rfl (Nat.le_of_ble_eq_true rfl) dL_follows_52 ⟨by show _ ≤ 12; omega, by show _ ≤ 72; omega⟩ (fun r9 σ10 H locs hq hP hkp hS => ?_)
  refine lv_lstore (lv' := [(8, .long r9), (7, .int t0), (0, .ref (ka_a G (22, 0, 0))), (1, .int v1), (2, .long v2), (4, .int v4), (5, .int v5), (6, .int v6)]) hx hb dL_follows_55 hl (by decide) rfl (fun ls hl => ?_)
  refine lv_iload hx hb dL_follows_57 (lv_at hl 1 rfl) ?_
  refine lv_if_eq (tgt := 132) hx hb dL_follows_59 (by decide) (fun hc => ?_) (fun hc => ?_)
  · have hq := hq.1 hc
    refine W.widen (k := (cl + 0)) (n := 6 * (cl + 0)) (by omega) (by omega) ?_
    exact kb_L_follows_132 hl0 hI C0 hK hT hN σ10 v1 v2 v4 hq (cl + 0) (by omega) H locs hP hS ls (lv_sub hl [2, 3, 4, 5] rfl)
  · have hq := hq.2 hc
    refine lv_aload_n hx hb dL_follows_62 rfl (lv_at hl 2 rfl) ?_
    refine lv_bipush (v := 9) hx hb dL_follows_63 (by decide) ?_
    refine lv_iload hx hb dL_follows_65 (lv_at hl 6 rfl) ?_
    refine kj_Wl (As := [.ref (ka_a G (22, 0, 0)), .int (9 : Int32), .int v5]) (rest := []) C0 hK hT hN hP hS (fun _ h => h) hl (km0_L_set l hl0 hI hq) kd_L_set kq_923 ⟨rfl, rfl, Nat.le_of_ble_eq_true rfl, Nat.le_of_ble_eq_true rfl⟩ rfl (Nat.le_of_ble_eq_true rfl) dL_follows_67 ⟨by show _ ≤ 12; omega, by show _ ≤ 72; omega⟩ (fun r11 σ12 H locs hq hP hkp hS => ?_)
    refine lv_ldc2 hx hb hown (hts _ kq_965) dL_follows_70 ?_
    refine kr_clt (tgt := 132) C0 dL_follows_73 dL_follows_74 (by decide) (fun hc => ?_) (fun hc => ?_)
    · have hq := hq.1 hc
      refine W.widen (k := (cl + 0)) (n := 6 * (cl + 0)) (by omega) (by omega) ?_
      exact kb_L_follows_132 hl0 hI C0 hK hT hN σ12 v1 v2 v4 hq (cl + 0) (by omega) H locs hP hS ls (lv_sub hl [2, 3, 4, 5] rfl)
    · have hq := hq.2 hc
      refine lv_aload_n hx hb dL_follows_77 rfl (lv_at hl 2 rfl) ?_
      refine lv_bipush (v := 11) hx hb dL_follows_78 (by decide) ?_
      refine lv_iload hx hb dL_follows_80 (lv_at hl 7 rfl) ?_
      refine kj_Wl (As := [.ref (ka_a G (22, 0, 0)), .int (11 : Int32), .int v6]) (rest := []) C0 hK hT hN hP hS (fun _ h => h) hl (km0_L_set l hl0 hI hq) kd_L_set kq_923 ⟨rfl, rfl, Nat.le_of_ble_eq_true rfl, Nat.le_of_ble_eq_true rfl⟩ rfl (Nat.le_of_ble_eq_true rfl) dL_follows_82 ⟨by show _ ≤ 12; omega, by show _ ≤ 72; omega⟩ (fun r13 σ14 H locs hq hP hkp hS => ?_)
      refine lv_lconst (v := 0) hx hb dL_follows_85 (by decide) ?_
      refine kr_clt (tgt := 132) C0 dL_follows_86 dL_follows_87 (by decide) (fun hc => ?_) (fun hc => ?_)
      · have hq := hq.1 hc
        refine W.widen (k := (cl + 0)) (n := 6 * (cl + 0)) (by omega) (by omega) ?_
        exact kb_L_follows_132 hl0 hI C0 hK hT hN σ14 v1 v2 v4 hq (cl + 0) (by omega) H locs hP hS ls (lv_sub hl [2, 3, 4, 5] rfl)
      · have hq := hq.2 hc
        refine lv_aload_n hx hb dL_follows_90 rfl (lv_at hl 2 rfl) ?_
        refine lv_iconst (v := 5) hx hb dL_follows_91 (by decide) ?_
        refine kj_Wl (As := [.ref (ka_a G (22, 0, 0)), .int (5 : Int32)]) (rest := []) C0 hK hT hN hP hS (fun _ h => h) hl (km0_L_about l hl0 hI hq) kd_L_about kq_478 ⟨rfl, rfl, Nat.le_of_ble_eq_true rfl, Nat.le_of_ble_eq_true rfl⟩ rfl (Nat.le_of_ble_eq_true rfl) dL_follows_92 ⟨by show _ ≤ 12; omega, by show _ ≤ 72; omega⟩ (fun r15 σ16 H locs hq hP hkp hS => ?_)
        refine lv_lload hx hb dL_follows_95 (lv_at hl 0 rfl) ?_
        refine kr_cne (tgt := 132) C0 dL_follows_97 dL_follows_98 (by decide) (fun hc => ?_) (fun hc => ?_)
        · have hq := hq.2 hc
          refine W.widen (k := (cl + 0)) (n := 6 * (cl + 0)) (by omega) (by omega) ?_
          exact kb_L_follows_132 hl0 hI C0 hK hT hN σ16 v1 v2 v4 hq (cl + 0) (by omega) H locs hP hS ls (lv_sub hl [2, 3, 4, 5] rfl)
        · have hq := hq.1 hc
          refine lv_aload_n hx hb dL_follows_101 rfl (lv_at hl 2 rfl) ?_
          refine kj_Wl (As := [.ref (ka_a G (22, 0, 0))]) (rest := []) C0 hK hT hN hP hS (fun _ h => h) hl (km_L_undo l hl0 hI hq) kd_L_undo kq_966 ⟨rfl, rfl, Nat.le_of_ble_eq_true rfl, Nat.le_of_ble_eq_true rfl⟩ rfl (Nat.le_of_ble_eq_true rfl) dL_follows_102 ⟨by show _ ≤ 12; omega, by show _ ≤ 72; omega⟩ (fun r17 σ18 H locs hq hP hkp hS => ?_)
          refine lv_lconst (v := 0) hx hb dL_follows_105 (by decide) ?_
          refine kr_clt (tgt := 132) C0 dL_follows_106 dL_follows_107 (by decide) (fun hc => ?_) (fun hc => ?_)
          · have hq := hq.1 hc
            refine W.widen (k := (cl + 1)) (n := 6 * (cl + 1)) (by omega) (by omega) ?_
            exact kb_L_follows_132 hl0 hI C0 hK hT hN σ18 v1 v2 v4 hq (cl + 1) (by omega) H locs hP hS ls (lv_sub hl [2, 3, 4, 5] rfl)
          · have hq := hq.2 hc
            refine lv_aload_n hx hb dL_follows_110 rfl (lv_at hl 2 rfl) ?_
            refine kj_Wl (As := [.ref (ka_a G (22, 0, 0))]) (rest := []) C0 hK hT hN hP hS (fun _ h => h) hl (km_L_undo l hl0 hI hq) kd_L_undo kq_966 ⟨rfl, rfl, Nat.le_of_ble_eq_true rfl, Nat.le_of_ble_eq_true rfl⟩ rfl (Nat.le_of_ble_eq_true rfl) dL_follows_111 ⟨by show _ ≤ 12; omega, by show _ ≤ 72; omega⟩ (fun r19 σ20 H locs hq hP hkp hS => ?_)
            refine lv_lconst (v := 0) hx hb dL_follows_114 (by decide) ?_
            refine kr_clt (tgt := 132) C0 dL_follows_115 dL_follows_116 (by decide) (fun hc => ?_) (fun hc => ?_)
            · have hq := hq.1 hc
              refine W.widen (k := (cl + 2)) (n := 6 * (cl + 2)) (by omega) (by omega) ?_
              exact kb_L_follows_132 hl0 hI C0 hK hT hN σ20 v1 v2 v4 hq (cl + 2) (by omega) H locs hP hS ls (lv_sub hl [2, 3, 4, 5] rfl)
            · have hq := hq.2 hc
              refine lv_aload_n hx hb dL_follows_119 rfl (lv_at hl 2 rfl) ?_
              refine kj_Sl (As := [.ref (ka_a G (22, 0, 0))]) (rest := []) C0 hK hT hN hP hS (fun _ h => h) hl (km_L_now l hl0 hI hq) kd_L_now kq_473 ⟨rfl, rfl, Nat.le_of_ble_eq_true rfl, Nat.le_of_ble_eq_true rfl⟩ rfl (Nat.le_of_ble_eq_true rfl) dL_follows_120 ⟨by show _ ≤ 12; omega, by show _ ≤ 72; omega⟩ (fun r21 σ22 H locs hq hP hkp hS => ?_)
              refine lv_lload_n hx hb dL_follows_123 rfl (lv_at hl 4 rfl) ?_
              refine kr_cne (tgt := 132) C0 dL_follows_124 dL_follows_125 (by decide) (fun hc => ?_) (fun hc => ?_)
              · have hq := hq.2 hc
                refine W.widen (k := (cl + 2)) (n := 6 * (cl + 2)) (by omega) (by omega) ?_
                exact kb_L_follows_132 hl0 hI C0 hK hT hN σ22 v1 v2 v4 hq (cl + 2) (by omega) H locs hP hS ls (lv_sub hl [2, 3, 4, 5] rfl)
              · have hq := hq.1 hc
                refine lv_iconst (v := 1) hx hb dL_follows_128 (by decide) ?_
                refine lv_goto (tgt := 133) hx hb dL_follows_129 (by decide) ?_
                refine W.widen (k := (cl + 2)) (n := 6 * (cl + 2)) (by omega) (by omega) ?_
                exact kb_L_follows_133 hl0 hI C0 hK hT hN σ22 v1 v2 v4 (1 : Int32) hq (cl + 2) (by omega) H locs hP hS ls (lv_sub hl [2, 3, 4, 5] rfl)
def kw_L_follows (σ : ka_S) (v1 : Int32) (Q : Int32 → ka_S → Prop) : Prop := kw_L_now σ (fun r1 σ2 =>
  kw_L_words σ2 (fun r3 σ4 =>
  ∀ x5 : Int32, x5 = ((10 : Int32) + (v1 - v1 / (51 : Int32) * (51 : Int32))) → 
  ∀ x6 : Int32, x6 = ((v1 / (51 : Int32)) - (v1 / (51 : Int32)) / (2 : Int32) * (2 : Int32)) → 
  kw0_L_save σ4 (1 : Int32) (fun r7 σ8 =>
  (r7 = r3.toInt64 → kw_L_follows_45 Q σ8 v1 r1 r3 x5 x6 (1 : Int32)) ∧
  (¬ r7 = r3.toInt64 → kw_L_follows_45 Q σ8 v1 r1 r3 x5 x6 (0 : Int32)))))
set_option maxHeartbeats 4000000 in
set_option maxRecDepth 100000 in
theorem km_L_follows (l : Launch) (hl0 : l.stackTraces = false) {G : ka_G} (hI : ka_I G) {σ : ka_S} {v1 : Int32} {Q : Int32 → ka_S → Prop} (hq : kw_L_follows σ v1 Q) : kd_i l yL_follows (kw_ yL_follows cL_follows 27 (some .boolean)) rm_L_follows 12 72 G [.ref (ka_a G (22, 0, 0)), .int v1] σ Q := by
  refine kj_of "GlossRowsLaw" rfl (by decide) (Nat.le_of_ble_eq_true rfl) ?_
  intro p e s m below meth c C0 hK hT hN H locs hP hS ls hl
  obtain ⟨hx, hb, -, hml, hown, hts, -⟩ := id C0
  have hl : lv_has ls 27 [(0, .ref (ka_a G (22, 0, 0))), (1, .int v1)] := hl
  unfold kw_L_follows at hq
  refine lv_aload_n hx hb dL_follows_0 rfl (lv_at hl 0 rfl) ?_
  refine kj_Sl (As := [.ref (ka_a G (22, 0, 0))]) (rest := []) C0 hK hT hN hP hS (fun _ h => h) hl (km_L_now l hl0 hI hq) kd_L_now kq_473 ⟨rfl, rfl, Nat.le_of_ble_eq_true rfl, Nat.le_of_ble_eq_true rfl⟩ rfl (Nat.le_of_ble_eq_true rfl) dL_follows_1 ⟨by show _ ≤ 12; omega, by show _ ≤ 72; omega⟩ (fun r1 σ2 H locs hq hP hkp hS => ?_)
  refine lv_lstore_n (lv' := [(2, .long r1), (0, .ref (ka_a G (22, 0, 0))), (1, .int v1)]) hx hb dL_follows_4 rfl hl (by decide) rfl (fun ls hl => ?_)
  refine lv_aload_n hx hb dL_follows_5 rfl (lv_at hl 1 rfl) ?_
  refine kj_Si (As := [.ref (ka_a G (22, 0, 0))]) (rest := []) C0 hK hT hN hP hS (fun _ h => h) hl (km_L_words l hl0 hI hq) kd_L_words kq_560 ⟨rfl, rfl, Nat.le_of_ble_eq_true rfl, Nat.le_of_ble_eq_true rfl⟩ rfl (Nat.le_of_ble_eq_true rfl) dL_follows_6 ⟨by show _ ≤ 12; omega, by show _ ≤ 72; omega⟩ (fun r3 σ4 H locs hq hP hkp hS => ?_)
  refine lv_istore (lv' := [(4, .int r3), (2, .long r1), (0, .ref (ka_a G (22, 0, 0))), (1, .int v1)]) hx hb dL_follows_9 hl (by decide) rfl (fun ls hl => ?_)
  refine lv_bipush (v := 10) hx hb dL_follows_11 (by decide) ?_
  refine lv_iload_n hx hb dL_follows_13 rfl (lv_at hl 3 rfl) ?_
  refine lv_bipush (v := 51) hx hb dL_follows_14 (by decide) ?_
  refine lv_irem hx hb dL_follows_16 (by decide) ?_
  refine lv_iadd hx hb dL_follows_17 ?_
  refine lv_topi (fun x5 ex5 => ?_)
  have hq := hq x5 ex5
  refine lv_istore (lv' := [(5, .int x5), (4, .int r3), (2, .long r1), (0, .ref (ka_a G (22, 0, 0))), (1, .int v1)]) hx hb dL_follows_18 hl (by decide) rfl (fun ls hl => ?_)
  refine lv_iload_n hx hb dL_follows_20 rfl (lv_at hl 4 rfl) ?_
  refine lv_bipush (v := 51) hx hb dL_follows_21 (by decide) ?_
  refine lv_idiv hx hb dL_follows_23 (by decide) ?_
  refine lv_iconst (v := 2) hx hb dL_follows_24 (by decide) ?_
  refine lv_irem hx hb dL_follows_25 (by decide) ?_
  refine lv_topi (fun x6 ex6 => ?_)
  have hq := hq x6 ex6
  refine lv_istore (lv' := [(6, .int x6), (5, .int x5), (4, .int r3), (2, .long r1), (0, .ref (ka_a G (22, 0, 0))), (1, .int v1)]) hx hb dL_follows_26 hl (by decide) rfl (fun ls hl => ?_)
  refine lv_aload_n hx hb dL_follows_28 rfl (lv_at hl 4 rfl) ?_
  refine lv_iconst (v := 1) hx hb dL_follows_29 (by decide) ?_
  refine kj_Wl (As := [.ref (ka_a G (22, 0, 0)), .int (1 : Int32)]) (rest := []) C0 hK hT hN hP hS (fun _ h => h) hl (km0_L_save l hl0 hI hq) kd_L_save kq_425 ⟨rfl, rfl, Nat.le_of_ble_eq_true rfl, Nat.le_of_ble_eq_true rfl⟩ rfl (Nat.le_of_ble_eq_true rfl) dL_follows_30 ⟨by show _ ≤ 12; omega, by show _ ≤ 72; omega⟩ (fun r7 σ8 H locs hq hP hkp hS => ?_)
  refine lv_iload hx hb dL_follows_33 (lv_at hl 2 rfl) ?_
  refine lv_i2l hx hb dL_follows_35 rfl ?_
  refine kr_cne (tgt := 44) C0 dL_follows_36 dL_follows_37 (by decide) (fun hc => ?_) (fun hc => ?_)
  · have hq := hq.2 hc
    refine lv_iconst (v := 0) hx hb dL_follows_44 (by decide) ?_
    refine W.widen (k := 0) (n := 6 * 0) (by omega) (by omega) ?_
    exact kb_L_follows_45 hl0 hI C0 hK hT hN σ8 v1 r1 r3 x5 x6 (0 : Int32) hq 0 (by omega) H locs hP hS ls (lv_sub hl [4, 5, 3, 2, 1, 0] rfl)
  · have hq := hq.1 hc
    refine lv_iconst (v := 1) hx hb dL_follows_40 (by decide) ?_
    refine lv_goto (tgt := 45) hx hb dL_follows_41 (by decide) ?_
    refine W.widen (k := 0) (n := 6 * 0) (by omega) (by omega) ?_
    exact kb_L_follows_45 hl0 hI C0 hK hT hN σ8 v1 r1 r3 x5 x6 (1 : Int32) hq 0 (by omega) H locs hP hS ls (lv_sub hl [4, 5, 3, 2, 1, 0] rfl)
