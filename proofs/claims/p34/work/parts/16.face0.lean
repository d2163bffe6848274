/-! GlossRows.append(I)I (throws nothing) -/
def rm0_X8_append : Room := { frames := 6, cells := 0, slots := 0, locals := 82 }
set_option maxHeartbeats 4000000 in
set_option maxRecDepth 100000 in
theorem km0_X8_append (l : Launch) (hl0 : l.stackTraces = false) {G : ka_G} (hI : ka_I G) {σ : ka_S} {v1 : Int32} {Q : Int32 → ka_S → Prop} (hq : kw_X8_append σ v1 Q (fun _ _ => False)) : kx_i l yX8_append (kw_ yX8_append cX8_append 2 (some .int)) rm0_X8_append 0 0 G [.ref (ka_a G (22, 0, 0)), .int v1] σ Q (fun _ _ => False) := by
  refine kx_of "GlossRows" rfl (by decide) (Nat.le_of_ble_eq_true rfl) ?_
  intro p e s m below meth c C0 hK hT hout H locs hP hS ls hl
  obtain ⟨hx, hb, -, hml, hown, hts, -⟩ := id C0
  have hl : lv_has ls 2 [(0, .ref (ka_a G (22, 0, 0))), (1, .int v1)] := hl
  unfold kw_X8_append at hq
  refine lv_iload_n hx hb dX8_append_0 rfl (lv_at hl 1 rfl) ?_
  refine lv_if_lt (tgt := 11) hx hb dX8_append_1 (by decide) (fun hc => ?_) (fun hc => ?_)
  · have hq := hq.1 hc
    exact False.elim hq
  · have hq := hq.2 hc
    refine lv_iload_n hx hb dX8_append_4 rfl (lv_at hl 1 rfl) ?_
    refine lv_sipush (v := 255) hx hb dX8_append_5 (by decide) ?_
    refine lv_icmp_le (tgt := 21) hx hb dX8_append_8 (by decide) (fun hc => ?_) (fun hc => ?_)
    · have hq := hq.1 hc
      refine lv_aload_n hx hb dX8_append_21 rfl (lv_at hl 0 rfl) ?_
      refine kg_X8_text C0 hK hP (kv_s (by decide) (by decide)) kq_231 dX8_append_22 ?_
      refine kg_X6_length C0 hK hP (kv_s (by decide) (by decide)) kq_36 dX8_append_25 ?_
      refine lv_bipush (v := 60) hx hb dX8_append_28 (by decide) ?_
      refine lv_icmp_lt (tgt := 43) hx hb dX8_append_30 (by decide) (fun hc => ?_) (fun hc => ?_)
      · have hq := hq.1 hc
        refine lv_aload_n hx hb dX8_append_43 rfl (lv_at hl 0 rfl) ?_
        refine kg_X8_text C0 hK hP (kv_s (by decide) (by decide)) kq_231 dX8_append_44 ?_
        refine lv_iload_n hx hb dX8_append_47 rfl (lv_at hl 1 rfl) ?_
        refine kr_Vv (k := (10, 0, 0)) (As := [.int v1]) (rest := []) C0 hK hP hS hl (km_X6_add l hI hq) kd_X6_add kq_849 (kv_s (by decide) (by decide)) rfl rfl rfl ⟨rfl, rfl, Nat.le_of_ble_eq_true rfl, Nat.le_of_ble_eq_true rfl⟩ rfl (Nat.le_of_ble_eq_true rfl) dX8_append_48 ⟨Nat.le_of_ble_eq_true rfl, Nat.le_of_ble_eq_true rfl⟩ (fun σ1 H locs hq hP hS => ?_)
        refine lv_aload_n hx hb dX8_append_51 rfl (lv_at hl 0 rfl) ?_
        refine kg_X8_text C0 hK hP (kv_s (by decide) (by decide)) kq_231 dX8_append_52 ?_
        refine kg_X6_length C0 hK hP (kv_s (by decide) (by decide)) kq_36 dX8_append_55 ?_
        exact W.widen (k := 0) (n := 0) (Nat.le_of_ble_eq_true rfl) (Nat.le_of_ble_eq_true rfl) (vx_ret (kr_iret C0 hK hP hS hq dX8_append_58))
      · have hq := hq.2 hc
        exact False.elim hq
    · have hq := hq.2 hc
      exact False.elim hq
/-! GlossRows.load()I (throws nothing) -/
def rm0_X8_load : Room := { frames := 6, cells := 0, slots := 0, locals := 124 }
set_option maxHeartbeats 4000000 in
set_option maxRecDepth 100000 in
theorem kb0_X8_load_54 {p : Program} {l : Launch} {e : Env} {s : State} {m : MethodId} {args : Array Value} {below : List Frame} {meth : Method} {c : Code} {G : ka_G} (hI : ka_I G) (C0 : ka_C p s m args meth c cX8_load 2 "GlossRows" (some .int)) (hK : ka_Kn G s) {Q : Int32 → ka_S → Prop} : ∀ (n : Nat) (σ : ka_S) (v1 : Int32), kw_X8_load_54 Q (fun _ _ => False) n σ v1 → ∀ (H : Heap) (locs : List Loc), ka_P G σ H → va_S (ka_A G) s.heap H locs → ∀ ls : Array Slot, lv_has ls 2 [(0, .ref (ka_a G (22, 0, 0))), (1, .int v1)] → W p l e rm0_X8_load s m args below meth c H locs 0 0 (vx_MQ below (va_Qi Q (ka_B G) (ka_A G)) (ka_XC G (fun _ _ => False)) args s 0 0 (ka_A G)) (F0 m 54 ls []) := by
  obtain ⟨hx, hb, -, hml, hown, hts, -⟩ := id C0
  intro n
  induction n with
  | zero =>
    intro σ v1 hq
    rw [kw_X8_load_54] at hq
    exact hq.elim
  | succ n ih =>
    intro σ v1 hq H locs hP hS ls hl
    rw [kw_X8_load_54] at hq
    refine lv_iload_n hx hb dX8_load_54 rfl (lv_at hl 1 rfl) ?_
    refine lv_iconst (v := 2) hx hb dX8_load_55 (by decide) ?_
    refine lv_icmp_ge (tgt := 72) hx hb dX8_load_56 (by decide) (fun hc => ?_) (fun hc => ?_)
    · have hq := hq.1 hc
      refine lv_aload_n hx hb dX8_load_72 rfl (lv_at hl 0 rfl) ?_
      refine kg_X8_page C0 hK hP (kv_s (by decide) (by decide)) kq_233 dX8_load_73 ?_
      refine kg_X4_count C0 hK hP (kv_p (by decide) (by decide)) kq_155 dX8_load_76 ?_
      exact W.widen (k := 0) (n := 0) (Nat.le_of_ble_eq_true rfl) (Nat.le_of_ble_eq_true rfl) (vx_ret (kr_iret C0 hK hP hS hq dX8_load_79))
    · have hq := hq.2 hc
      refine lv_aload_n hx hb dX8_load_59 rfl (lv_at hl 0 rfl) ?_
      refine kg_X8_saved C0 hK hP (kv_s (by decide) (by decide)) kq_238 dX8_load_60 ?_
      refine lv_iload_n hx hb dX8_load_63 rfl (lv_at hl 1 rfl) ?_
      refine lv_iconst (v := 0) hx hb dX8_load_64 (by decide) ?_
      obtain ⟨b7, hq⟩ := hq
      refine kr_zast C0 hK hI hP hS (kv_s (by decide) (by decide)) (fun _ => rfl) b7 rfl dX8_load_65 (fun H locs hP hS => ?_)
      obtain ⟨σ8, eσ8⟩ : ∃ z : ka_S, z = ka_wI σ (24, 0, 0) v1.toNatClampNeg (0 : Int32) := ⟨_, rfl⟩
      rw [← eσ8] at hP
      have hq := hq σ8 eσ8
      obtain ⟨x9, ex9⟩ : ∃ y : Int32, y = v1 + (1 : Int32) := ⟨_, rfl⟩
      have hq := hq x9 ex9
      refine lv_iinc (v := x9) (lv' := [(1, .int x9), (0, .ref (ka_a G (22, 0, 0)))]) hx hb dX8_load_66 hl (k := 1) rfl (by rw [ex9]; rfl) (by decide) rfl (fun ls hl => ?_)
      refine lv_goto (tgt := 54) hx hb dX8_load_69 (by decide) ?_
      exact ih σ8 x9 hq H locs hP hS ls (lv_sub hl [1, 0] rfl)
set_option maxHeartbeats 4000000 in
set_option maxRecDepth 100000 in
theorem km0_X8_load (l : Launch) (hl0 : l.stackTraces = false) {G : ka_G} (hI : ka_I G) {σ : ka_S} {Q : Int32 → ka_S → Prop} (hq : kw_X8_load σ Q (fun _ _ => False)) : kx_i l yX8_load (kw_ yX8_load cX8_load 2 (some .int)) rm0_X8_load 0 0 G [.ref (ka_a G (22, 0, 0))] σ Q (fun _ _ => False) := by
  refine kx_of "GlossRows" rfl (by decide) (Nat.le_of_ble_eq_true rfl) ?_
  intro p e s m below meth c C0 hK hT hout H locs hP hS ls hl
  obtain ⟨hx, hb, -, hml, hown, hts, -⟩ := id C0
  have hl : lv_has ls 2 [(0, .ref (ka_a G (22, 0, 0)))] := hl
  unfold kw_X8_load at hq
  refine lv_aload_n hx hb dX8_load_0 rfl (lv_at hl 0 rfl) ?_
  refine kg_X8_reader C0 hK hP (kv_s (by decide) (by decide)) kq_232 dX8_load_1 ?_
  refine lv_aload_n hx hb dX8_load_4 rfl (lv_at hl 0 rfl) ?_
  refine kg_X8_text C0 hK hP (kv_s (by decide) (by decide)) kq_231 dX8_load_5 ?_
  refine kr_Vi (k := (18, 0, 0)) (As := [.ref (ka_a G (10, 0, 0))]) (rest := []) C0 hK hP hS hl (km_X5_read l hI hq) kd_X5_read kq_270 (kv_s (by decide) (by decide)) rfl rfl rfl ⟨rfl, rfl, Nat.le_of_ble_eq_true rfl, Nat.le_of_ble_eq_true rfl⟩ rfl (Nat.le_of_ble_eq_true rfl) dX8_load_8 ⟨Nat.le_of_ble_eq_true rfl, Nat.le_of_ble_eq_true rfl⟩ (fun r2 σ1 H locs hq hP hS => ?_)
  refine lv_bipush (v := -9) hx hb dX8_load_11 (by decide) ?_
  refine lv_icmp_eq (tgt := 26) hx hb dX8_load_13 (by decide) (fun hc => ?_) (fun hc => ?_)
  · have hq := hq.1 hc
    refine lv_aload_n hx hb dX8_load_26 rfl (lv_at hl 0 rfl) ?_
    refine kg_X8_page C0 hK hP (kv_s (by decide) (by decide)) kq_233 dX8_load_27 ?_
    refine kr_Vv (k := (0, 0, 0)) (As := []) (rest := []) C0 hK hP hS hl (km_X4_reset l hI (by decide) hq) kd_X4_reset kq_411 (kv_p (by decide) (by decide)) rfl rfl rfl ⟨rfl, rfl, Nat.le_of_ble_eq_true rfl, Nat.le_of_ble_eq_true rfl⟩ rfl (Nat.le_of_ble_eq_true rfl) dX8_load_30 ⟨Nat.le_of_ble_eq_true rfl, Nat.le_of_ble_eq_true rfl⟩ (fun σ3 H locs hq hP hS => ?_)
    refine lv_aload_n hx hb dX8_load_33 rfl (lv_at hl 0 rfl) ?_
    refine kg_X8_page C0 hK hP (kv_s (by decide) (by decide)) kq_233 dX8_load_34 ?_
    refine lv_aload_n hx hb dX8_load_37 rfl (lv_at hl 0 rfl) ?_
    refine kg_X8_reader C0 hK hP (kv_s (by decide) (by decide)) kq_232 dX8_load_38 ?_
    refine lv_iconst (v := 0) hx hb dX8_load_41 (by decide) ?_
    refine kr_Vv (k := (0, 0, 0)) (As := [.ref (ka_a G (18, 0, 0)), .int (0 : Int32)]) (rest := []) C0 hK hP hS hl (km_X4_addWords l hI (by decide) hq) kd_X4_addWords kq_412 (kv_p (by decide) (by decide)) rfl rfl rfl ⟨rfl, rfl, Nat.le_of_ble_eq_true rfl, Nat.le_of_ble_eq_true rfl⟩ rfl (Nat.le_of_ble_eq_true rfl) dX8_load_42 ⟨Nat.le_of_ble_eq_true rfl, Nat.le_of_ble_eq_true rfl⟩ (fun σ4 H locs hq hP hS => ?_)
    refine lv_aload_n hx hb dX8_load_45 rfl (lv_at hl 0 rfl) ?_
    refine kg_X8_history C0 hK hP (kv_s (by decide) (by decide)) kq_236 dX8_load_46 ?_
    refine kr_Vv (k := (20, 0, 0)) (As := []) (rest := []) C0 hK hP hS hl (km_X0_clear l hI hq) kd_X0_clear kq_420 (kv_s (by decide) (by decide)) rfl rfl rfl ⟨rfl, rfl, Nat.le_of_ble_eq_true rfl, Nat.le_of_ble_eq_true rfl⟩ rfl (Nat.le_of_ble_eq_true rfl) dX8_load_49 ⟨Nat.le_of_ble_eq_true rfl, Nat.le_of_ble_eq_true rfl⟩ (fun σ5 H locs hq hP hS => ?_)
    refine lv_iconst (v := 0) hx hb dX8_load_52 (by decide) ?_
    refine lv_istore_n (lv' := [(1, .int (0 : Int32)), (0, .ref (ka_a G (22, 0, 0)))]) hx hb dX8_load_53 rfl hl (by decide) rfl (fun ls hl => ?_)
    obtain ⟨n6, hq⟩ := hq
    refine W.widen (k := 0) (n := 0) (Nat.le_of_ble_eq_true rfl) (Nat.le_of_ble_eq_true rfl) ?_
    exact kb0_X8_load_54 hI C0 hK n6 σ5 (0 : Int32) hq H locs hP hS ls (lv_sub hl [1, 0] rfl)
  · have hq := hq.2 hc
    exact False.elim hq
/-! GlossRows.about(I)I (throws nothing) -/
def rm0_X8_about : Room := { frames := 6, cells := 0, slots := 0, locals := 136 }
set_option maxHeartbeats 4000000 in
set_option maxRecDepth 100000 in
theorem km0_X8_about (l : Launch) (hl0 : l.stackTraces = false) {G : ka_G} (hI : ka_I G) {σ : ka_S} {v1 : Int32} {Q : Int32 → ka_S → Prop} (hq : kw_X8_about σ v1 Q (fun _ _ => False)) : kx_i l yX8_about (kw_ yX8_about cX8_about 2 (some .int)) rm0_X8_about 0 0 G [.ref (ka_a G (22, 0, 0)), .int v1] σ Q (fun _ _ => False) := by
  refine kx_of "GlossRows" rfl (by decide) (Nat.le_of_ble_eq_true rfl) ?_
  intro p e s m below meth c C0 hK hT hout H locs hP hS ls hl
  obtain ⟨hx, hb, -, hml, hown, hts, -⟩ := id C0
  have hl : lv_has ls 2 [(0, .ref (ka_a G (22, 0, 0))), (1, .int v1)] := hl
  unfold kw_X8_about at hq
  refine lv_iload_n hx hb dX8_about_0 rfl (lv_at hl 1 rfl) ?_
  by_cases hsw0 : v1 = (0 : Int32)
  · have hq := hq.1 hsw0
    refine lv_tableIn (off := 63) (tgt := 64) hx hb dX8_about_1 (by rw [hsw0]; decide) (by rw [hsw0]; decide) (by rw [hsw0]; decide) (by decide) ?_
    refine lv_aload_n hx hb dX8_about_64 rfl (lv_at hl 0 rfl) ?_
    refine kg_X8_page C0 hK hP (kv_s (by decide) (by decide)) kq_233 dX8_about_65 ?_
    refine kg_X4_count C0 hK hP (kv_p (by decide) (by decide)) kq_155 dX8_about_68 ?_
    exact W.widen (k := 0) (n := 0) (Nat.le_of_ble_eq_true rfl) (Nat.le_of_ble_eq_true rfl) (vx_ret (kr_iret C0 hK hP hS hq dX8_about_71))
  · have hq := hq.2 hsw0
    by_cases hsw1 : v1 = (1 : Int32)
    · have hq := hq.1 hsw1
      refine lv_tableIn (off := 71) (tgt := 72) hx hb dX8_about_1 (by rw [hsw1]; decide) (by rw [hsw1]; decide) (by rw [hsw1]; decide) (by decide) ?_
      refine lv_aload_n hx hb dX8_about_72 rfl (lv_at hl 0 rfl) ?_
      refine kg_X8_page C0 hK hP (kv_s (by decide) (by decide)) kq_233 dX8_about_73 ?_
      refine kr_Vi (k := (0, 0, 0)) (As := []) (rest := []) C0 hK hP hS hl (km_X4_countParts l hI (by decide) hq) kd_X4_countParts kq_486 (kv_p (by decide) (by decide)) rfl rfl rfl ⟨rfl, rfl, Nat.le_of_ble_eq_true rfl, Nat.le_of_ble_eq_true rfl⟩ rfl (Nat.le_of_ble_eq_true rfl) dX8_about_76 ⟨Nat.le_of_ble_eq_true rfl, Nat.le_of_ble_eq_true rfl⟩ (fun r2 σ1 H locs hq hP hS => ?_)
      exact W.widen (k := 0) (n := 0) (Nat.le_of_ble_eq_true rfl) (Nat.le_of_ble_eq_true rfl) (vx_ret (kr_iret C0 hK hP hS hq dX8_about_79))
    · have hq := hq.2 hsw1
      by_cases hsw2 : v1 = (2 : Int32)
      · have hq := hq.1 hsw2
        refine lv_tableIn (off := 79) (tgt := 80) hx hb dX8_about_1 (by rw [hsw2]; decide) (by rw [hsw2]; decide) (by rw [hsw2]; decide) (by decide) ?_
        refine lv_aload_n hx hb dX8_about_80 rfl (lv_at hl 0 rfl) ?_
        refine kg_X8_page C0 hK hP (kv_s (by decide) (by decide)) kq_233 dX8_about_81 ?_
        refine kr_Vi (k := (0, 0, 0)) (As := []) (rest := []) C0 hK hP hS hl (km_X4_countGaps l hI (by decide) hq) kd_X4_countGaps kq_490 (kv_p (by decide) (by decide)) rfl rfl rfl ⟨rfl, rfl, Nat.le_of_ble_eq_true rfl, Nat.le_of_ble_eq_true rfl⟩ rfl (Nat.le_of_ble_eq_true rfl) dX8_about_84 ⟨Nat.le_of_ble_eq_true rfl, Nat.le_of_ble_eq_true rfl⟩ (fun r4 σ3 H locs hq hP hS => ?_)
        exact W.widen (k := 0) (n := 0) (Nat.le_of_ble_eq_true rfl) (Nat.le_of_ble_eq_true rfl) (vx_ret (kr_iret C0 hK hP hS hq dX8_about_87))
      · have hq := hq.2 hsw2
        by_cases hsw3 : v1 = (3 : Int32)
        · have hq := hq.1 hsw3
          refine lv_tableIn (off := 87) (tgt := 88) hx hb dX8_about_1 (by rw [hsw3]; decide) (by rw [hsw3]; decide) (by rw [hsw3]; decide) (by decide) ?_
          refine lv_aload_n hx hb dX8_about_88 rfl (lv_at hl 0 rfl) ?_
          refine kg_X8_page C0 hK hP (kv_s (by decide) (by decide)) kq_233 dX8_about_89 ?_
          refine kr_Vi (k := (0, 0, 0)) (As := []) (rest := []) C0 hK hP hS hl (km_X4_countSentences l hI (by decide) hq) kd_X4_countSentences kq_498 (kv_p (by decide) (by decide)) rfl rfl rfl ⟨rfl, rfl, Nat.le_of_ble_eq_true rfl, Nat.le_of_ble_eq_true rfl⟩ rfl (Nat.le_of_ble_eq_true rfl) dX8_about_92 ⟨Nat.le_of_ble_eq_true rfl, Nat.le_of_ble_eq_true rfl⟩ (fun r6 σ5 H locs hq hP hS => ?_)
          exact W.widen (k := 0) (n := 0) (Nat.le_of_ble_eq_true rfl) (Nat.le_of_ble_eq_true rfl) (vx_ret (kr_iret C0 hK hP hS hq dX8_about_95))
        · have hq := hq.2 hsw3
          by_cases hsw4 : v1 = (4 : Int32)
          · have hq := hq.1 hsw4
            refine lv_tableIn (off := 95) (tgt := 96) hx hb dX8_about_1 (by rw [hsw4]; decide) (by rw [hsw4]; decide) (by rw [hsw4]; decide) (by decide) ?_
            refine lv_aload_n hx hb dX8_about_96 rfl (lv_at hl 0 rfl) ?_
            refine lv_aload_n hx hb dX8_about_97 rfl (lv_at hl 0 rfl) ?_
            refine kg_X8_page C0 hK hP (kv_s (by decide) (by decide)) kq_233 dX8_about_98 ?_
            refine kr_Vr (k := (22, 0, 0)) (As := [.ref (ka_a G (0, 0, 0))]) (rest := []) C0 hK hP hS hl (km_X8_arranged l hI (by decide) hq) kd_X8_arranged kq_502 (kv_s (by decide) (by decide)) rfl rfl rfl ⟨rfl, rfl, Nat.le_of_ble_eq_true rfl, Nat.le_of_ble_eq_true rfl⟩ rfl (Nat.le_of_ble_eq_true rfl) dX8_about_101 ⟨Nat.le_of_ble_eq_true rfl, Nat.le_of_ble_eq_true rfl⟩ (fun σ7 H locs hq hP hS => ?_)
            refine kg_X1_lineCount C0 hK hP (kv_s (by decide) (by decide)) kq_191 dX8_about_104 ?_
            exact W.widen (k := 0) (n := 0) (Nat.le_of_ble_eq_true rfl) (Nat.le_of_ble_eq_true rfl) (vx_ret (kr_iret C0 hK hP hS hq dX8_about_107))
          · have hq := hq.2 hsw4
            by_cases hsw5 : v1 = (5 : Int32)
            · have hq := hq.1 hsw5
              refine lv_tableIn (off := 107) (tgt := 108) hx hb dX8_about_1 (by rw [hsw5]; decide) (by rw [hsw5]; decide) (by rw [hsw5]; decide) (by decide) ?_
              refine lv_aload_n hx hb dX8_about_108 rfl (lv_at hl 0 rfl) ?_
              refine lv_aload_n hx hb dX8_about_109 rfl (lv_at hl 0 rfl) ?_
              refine kg_X8_page C0 hK hP (kv_s (by decide) (by decide)) kq_233 dX8_about_110 ?_
              refine kr_Vr (k := (22, 0, 0)) (As := [.ref (ka_a G (0, 0, 0))]) (rest := []) C0 hK hP hS hl (km_X8_arranged l hI (by decide) hq) kd_X8_arranged kq_502 (kv_s (by decide) (by decide)) rfl rfl rfl ⟨rfl, rfl, Nat.le_of_ble_eq_true rfl, Nat.le_of_ble_eq_true rfl⟩ rfl (Nat.le_of_ble_eq_true rfl) dX8_about_113 ⟨Nat.le_of_ble_eq_true rfl, Nat.le_of_ble_eq_true rfl⟩ (fun σ8 H locs hq hP hS => ?_)
              refine kg_X1_rowCount C0 hK hP (kv_s (by decide) (by decide)) kq_193 dX8_about_116 ?_
              exact W.widen (k := 0) (n := 0) (Nat.le_of_ble_eq_true rfl) (Nat.le_of_ble_eq_true rfl) (vx_ret (kr_iret C0 hK hP hS hq dX8_about_119))
            · have hq := hq.2 hsw5
              by_cases hsw6 : v1 = (6 : Int32)
              · have hq := hq.1 hsw6
                refine lv_tableIn (off := 119) (tgt := 120) hx hb dX8_about_1 (by rw [hsw6]; decide) (by rw [hsw6]; decide) (by rw [hsw6]; decide) (by decide) ?_
                refine lv_aload_n hx hb dX8_about_120 rfl (lv_at hl 0 rfl) ?_
                refine lv_aload_n hx hb dX8_about_121 rfl (lv_at hl 0 rfl) ?_
                refine kg_X8_page C0 hK hP (kv_s (by decide) (by decide)) kq_233 dX8_about_122 ?_
                refine kr_Vr (k := (22, 0, 0)) (As := [.ref (ka_a G (0, 0, 0))]) (rest := []) C0 hK hP hS hl (km_X8_arranged l hI (by decide) hq) kd_X8_arranged kq_502 (kv_s (by decide) (by decide)) rfl rfl rfl ⟨rfl, rfl, Nat.le_of_ble_eq_true rfl, Nat.le_of_ble_eq_true rfl⟩ rfl (Nat.le_of_ble_eq_true rfl) dX8_about_125 ⟨Nat.le_of_ble_eq_true rfl, Nat.le_of_ble_eq_true rfl⟩ (fun σ9 H locs hq hP hS => ?_)
                refine lv_aload_n hx hb dX8_about_128 rfl (lv_at hl 0 rfl) ?_
                refine kg_X8_page C0 hK hP (kv_s (by decide) (by decide)) kq_233 dX8_about_129 ?_
                refine lv_aload_n hx hb dX8_about_132 rfl (lv_at hl 0 rfl) ?_
                refine kg_X8_page C0 hK hP (kv_s (by decide) (by decide)) kq_233 dX8_about_133 ?_
                refine kg_X4_width C0 hK hP (kv_p (by decide) (by decide)) kq_157 dX8_about_136 ?_
                refine kr_Vi (k := (12, 0, 0)) (As := [.ref (ka_a G (0, 0, 0)), .int (σ9.1 (0, 0, 0) 3)]) (rest := []) C0 hK hP hS hl (km_X1_countWider l hI (by decide) hq) kd_X1_countWider kq_530 (kv_s (by decide) (by decide)) rfl rfl rfl ⟨rfl, rfl, Nat.le_of_ble_eq_true rfl, Nat.le_of_ble_eq_true rfl⟩ rfl (Nat.le_of_ble_eq_true rfl) dX8_about_139 ⟨Nat.le_of_ble_eq_true rfl, Nat.le_of_ble_eq_true rfl⟩ (fun r11 σ10 H locs hq hP hS => ?_)
                exact W.widen (k := 0) (n := 0) (Nat.le_of_ble_eq_true rfl) (Nat.le_of_ble_eq_true rfl) (vx_ret (kr_iret C0 hK hP hS hq dX8_about_142))
              · have hq := hq.2 hsw6
                by_cases hsw7 : v1 = (7 : Int32)
                · have hq := hq.1 hsw7
                  refine lv_tableIn (off := 142) (tgt := 143) hx hb dX8_about_1 (by rw [hsw7]; decide) (by rw [hsw7]; decide) (by rw [hsw7]; decide) (by decide) ?_
                  refine lv_aload_n hx hb dX8_about_143 rfl (lv_at hl 0 rfl) ?_
                  refine kg_X8_page C0 hK hP (kv_s (by decide) (by decide)) kq_233 dX8_about_144 ?_
                  refine kg_X4_lexicon C0 hK hP (kv_p (by decide) (by decide)) kq_152 dX8_about_147 ?_
                  refine kg_X3_size C0 hK hP (kv_p (by decide) (by decide)) kq_135 dX8_about_150 ?_
                  exact W.widen (k := 0) (n := 0) (Nat.le_of_ble_eq_true rfl) (Nat.le_of_ble_eq_true rfl) (vx_ret (kr_iret C0 hK hP hS hq dX8_about_153))
                · have hq := hq.2 hsw7
                  by_cases hsw8 : v1 = (8 : Int32)
                  · have hq := hq.1 hsw8
                    refine lv_tableIn (off := 153) (tgt := 154) hx hb dX8_about_1 (by rw [hsw8]; decide) (by rw [hsw8]; decide) (by rw [hsw8]; decide) (by decide) ?_
                    refine lv_aload_n hx hb dX8_about_154 rfl (lv_at hl 0 rfl) ?_
                    refine kg_X8_page C0 hK hP (kv_s (by decide) (by decide)) kq_233 dX8_about_155 ?_
                    refine kr_Vi (k := (0, 0, 0)) (As := []) (rest := []) C0 hK hP hS hl (km_X4_countDiffering l hI (by decide) hq) kd_X4_countDiffering kq_534 (kv_p (by decide) (by decide)) rfl rfl rfl ⟨rfl, rfl, Nat.le_of_ble_eq_true rfl, Nat.le_of_ble_eq_true rfl⟩ rfl (Nat.le_of_ble_eq_true rfl) dX8_about_158 ⟨Nat.le_of_ble_eq_true rfl, Nat.le_of_ble_eq_true rfl⟩ (fun r13 σ12 H locs hq hP hS => ?_)
                    exact W.widen (k := 0) (n := 0) (Nat.le_of_ble_eq_true rfl) (Nat.le_of_ble_eq_true rfl) (vx_ret (kr_iret C0 hK hP hS hq dX8_about_161))
                  · have hq := hq.2 hsw8
                    by_cases hsw9 : v1 = (9 : Int32)
                    · have hq := hq.1 hsw9
                      refine lv_tableIn (off := 161) (tgt := 162) hx hb dX8_about_1 (by rw [hsw9]; decide) (by rw [hsw9]; decide) (by rw [hsw9]; decide) (by decide) ?_
                      refine lv_aload_n hx hb dX8_about_162 rfl (lv_at hl 0 rfl) ?_
                      refine kg_X8_page C0 hK hP (kv_s (by decide) (by decide)) kq_233 dX8_about_163 ?_
                      refine kg_X4_width C0 hK hP (kv_p (by decide) (by decide)) kq_157 dX8_about_166 ?_
                      exact W.widen (k := 0) (n := 0) (Nat.le_of_ble_eq_true rfl) (Nat.le_of_ble_eq_true rfl) (vx_ret (kr_iret C0 hK hP hS hq dX8_about_169))
                    · have hq := hq.2 hsw9
                      by_cases hsw10 : v1 = (10 : Int32)
                      · have hq := hq.1 hsw10
                        refine lv_tableIn (off := 169) (tgt := 170) hx hb dX8_about_1 (by rw [hsw10]; decide) (by rw [hsw10]; decide) (by rw [hsw10]; decide) (by decide) ?_
                        refine lv_aload_n hx hb dX8_about_170 rfl (lv_at hl 0 rfl) ?_
                        refine kg_X8_page C0 hK hP (kv_s (by decide) (by decide)) kq_233 dX8_about_171 ?_
                        refine kg_X4_space C0 hK hP (kv_p (by decide) (by decide)) kq_161 dX8_about_174 ?_
                        exact W.widen (k := 0) (n := 0) (Nat.le_of_ble_eq_true rfl) (Nat.le_of_ble_eq_true rfl) (vx_ret (kr_iret C0 hK hP hS hq dX8_about_177))
                      · have hq := hq.2 hsw10
                        by_cases hsw11 : v1 = (11 : Int32)
                        · have hq := hq.1 hsw11
                          refine lv_tableIn (off := 177) (tgt := 178) hx hb dX8_about_1 (by rw [hsw11]; decide) (by rw [hsw11]; decide) (by rw [hsw11]; decide) (by decide) ?_
                          refine lv_aload_n hx hb dX8_about_178 rfl (lv_at hl 0 rfl) ?_
                          refine kg_X8_page C0 hK hP (kv_s (by decide) (by decide)) kq_233 dX8_about_179 ?_
                          refine kg_X4_way C0 hK hP (kv_p (by decide) (by decide)) kq_163 dX8_about_182 ?_
                          exact W.widen (k := 0) (n := 0) (Nat.le_of_ble_eq_true rfl) (Nat.le_of_ble_eq_true rfl) (vx_ret (kr_iret C0 hK hP hS hq dX8_about_185))
                        · have hq := hq.2 hsw11
                          refine lv_tableOut (tgt := 186) hx hb dX8_about_1 (kt_0_11 (x := v1) hsw0 hsw1 hsw2 hsw3 hsw4 hsw5 hsw6 hsw7 hsw8 hsw9 hsw10 hsw11) (by decide) ?_
                          exact False.elim hq
/-! GlossRows.requireWord(I)V (throws nothing) -/
def rm0_X8_requireWord : Room := { frames := 6, cells := 0, slots := 0, locals := 82 }
set_option maxHeartbeats 4000000 in
set_option maxRecDepth 100000 in
theorem km0_X8_requireWord (l : Launch) (hl0 : l.stackTraces = false) {G : ka_G} (hI : ka_I G) {σ : ka_S} {v1 : Int32} {Q : ka_S → Prop} (hq : kw_X8_requireWord σ v1 Q (fun _ _ => False)) : kx_v l yX8_requireWord (kw_ yX8_requireWord cX8_requireWord 2 none) rm0_X8_requireWord 0 0 G [.ref (ka_a G (22, 0, 0)), .int v1] σ Q (fun _ _ => False) := by
  refine kx_of "GlossRows" rfl (by decide) (Nat.le_of_ble_eq_true rfl) ?_
  intro p e s m below meth c C0 hK hT hout H locs hP hS ls hl
  obtain ⟨hx, hb, -, hml, hown, hts, -⟩ := id C0
  have hl : lv_has ls 2 [(0, .ref (ka_a G (22, 0, 0))), (1, .int v1)] := hl
  unfold kw_X8_requireWord at hq
  refine lv_aload_n hx hb dX8_requireWord_0 rfl (lv_at hl 0 rfl) ?_
  refine kg_X8_page C0 hK hP (kv_s (by decide) (by decide)) kq_233 dX8_requireWord_1 ?_
  refine lv_iload_n hx hb dX8_requireWord_4 rfl (lv_at hl 1 rfl) ?_
  refine kr_Vi (k := (0, 0, 0)) (As := [.int v1]) (rest := []) C0 hK hP hS hl (km_X4_hasWord l hI (by decide) hq) kd_X4_hasWord kq_574 (kv_p (by decide) (by decide)) rfl rfl rfl ⟨rfl, rfl, Nat.le_of_ble_eq_true rfl, Nat.le_of_ble_eq_true rfl⟩ rfl (Nat.le_of_ble_eq_true rfl) dX8_requireWord_5 ⟨Nat.le_of_ble_eq_true rfl, Nat.le_of_ble_eq_true rfl⟩ (fun r2 σ1 H locs hq hP hS => ?_)
  refine lv_if_ne (tgt := 22) hx hb dX8_requireWord_8 (by decide) (fun hc => ?_) (fun hc => ?_)
  · have hq := hq.2 hc
    exact W.widen (k := 0) (n := 0) (Nat.le_of_ble_eq_true rfl) (Nat.le_of_ble_eq_true rfl) (vx_ret (kr_vret C0 hK hP hS hq dX8_requireWord_22))
  · have hq := hq.1 hc
    exact False.elim hq
/-! GlossRows.word(II)I (throws nothing) -/
def rm0_X8_word : Room := { frames := 7, cells := 0, slots := 0, locals := 136 }
set_option maxHeartbeats 4000000 in
set_option maxRecDepth 100000 in
theorem km0_X8_word (l : Launch) (hl0 : l.stackTraces = false) {G : ka_G} (hI : ka_I G) {σ : ka_S} {v1 : Int32} {v2 : Int32} {Q : Int32 → ka_S → Prop} (hq : kw_X8_word σ v1 v2 Q (fun _ _ => False)) : kx_i l yX8_word (kw_ yX8_word cX8_word 3 (some .int)) rm0_X8_word 0 0 G [.ref (ka_a G (22, 0, 0)), .int v1, .int v2] σ Q (fun _ _ => False) := by
  refine kx_of "GlossRows" rfl (by decide) (Nat.le_of_ble_eq_true rfl) ?_
  intro p e s m below meth c C0 hK hT hout H locs hP hS ls hl
  obtain ⟨hx, hb, -, hml, hown, hts, -⟩ := id C0
  have hl : lv_has ls 3 [(0, .ref (ka_a G (22, 0, 0))), (1, .int v1), (2, .int v2)] := hl
  unfold kw_X8_word at hq
  refine lv_aload_n hx hb dX8_word_0 rfl (lv_at hl 0 rfl) ?_
  refine lv_iload_n hx hb dX8_word_1 rfl (lv_at hl 1 rfl) ?_
  refine kx_Vv (k := (22, 0, 0)) (As := [.int v1]) (rest := []) C0 hK hT hout hP hS hl (km0_X8_requireWord l hl0 hI hq) kd_X8_requireWord kq_570 (kv_s (by decide) (by decide)) rfl rfl rfl ⟨rfl, rfl, Nat.le_of_ble_eq_true rfl, Nat.le_of_ble_eq_true rfl⟩ rfl (Nat.le_of_ble_eq_true rfl) dX8_word_2 ⟨Nat.le_of_ble_eq_true rfl, Nat.le_of_ble_eq_true rfl⟩ ⟨Nat.le_of_ble_eq_true rfl, Nat.le_of_ble_eq_true rfl⟩ (fun σ1 H locs hq hP hS => ?_)
  refine lv_iload_n hx hb dX8_word_5 rfl (lv_at hl 2 rfl) ?_
  by_cases hsw0 : v2 = (0 : Int32)
  · have hq := hq.1 hsw0
    refine lv_tableIn (off := 46) (tgt := 52) hx hb dX8_word_6 (by rw [hsw0]; decide) (by rw [hsw0]; decide) (by rw [hsw0]; decide) (by decide) ?_
    refine lv_aload_n hx hb dX8_word_52 rfl (lv_at hl 0 rfl) ?_
    refine kg_X8_page C0 hK hP (kv_s (by decide) (by decide)) kq_233 dX8_word_53 ?_
    refine kg_X4_words C0 hK hP (kv_p (by decide) (by decide)) kq_150 dX8_word_56 ?_
    refine lv_iload_n hx hb dX8_word_59 rfl (lv_at hl 1 rfl) ?_
    obtain ⟨b2, hq⟩ := hq
    refine kr_aald (t := 3) C0 hK hP (kv_p (by decide) (by decide)) rfl rfl b2 rfl dX8_word_60 ?_
    refine kg_X7_size C0 hK hP (kv_w (by decide) (by decide) (k_19 (by decide)) (vp_lt b2)) kq_72 dX8_word_61 ?_
    exact W.widen (k := 0) (n := 0) (Nat.le_of_ble_eq_true rfl) (Nat.le_of_ble_eq_true rfl) (vx_ret (kr_iret C0 hK hP hS hq dX8_word_64))
  · have hq := hq.2 hsw0
    by_cases hsw1 : v2 = (1 : Int32)
    · have hq := hq.1 hsw1
      refine lv_tableIn (off := 59) (tgt := 65) hx hb dX8_word_6 (by rw [hsw1]; decide) (by rw [hsw1]; decide) (by rw [hsw1]; decide) (by decide) ?_
      refine lv_aload_n hx hb dX8_word_65 rfl (lv_at hl 0 rfl) ?_
      refine kg_X8_page C0 hK hP (kv_s (by decide) (by decide)) kq_233 dX8_word_66 ?_
      refine kg_X4_words C0 hK hP (kv_p (by decide) (by decide)) kq_150 dX8_word_69 ?_
      refine lv_iload_n hx hb dX8_word_72 rfl (lv_at hl 1 rfl) ?_
      obtain ⟨b3, hq⟩ := hq
      refine kr_aald (t := 3) C0 hK hP (kv_p (by decide) (by decide)) rfl rfl b3 rfl dX8_word_73 ?_
      refine lv_aload_n hx hb dX8_word_74 rfl (lv_at hl 0 rfl) ?_
      refine kg_X8_page C0 hK hP (kv_s (by decide) (by decide)) kq_233 dX8_word_75 ?_
      refine kg_X4_way C0 hK hP (kv_p (by decide) (by decide)) kq_163 dX8_word_78 ?_
      refine kr_Vi (k := (5, 0, v1.toNatClampNeg)) (As := [.int (σ1.1 (0, 0, 0) 5)]) (rest := []) C0 hK hP hS hl (km_X7_width l hI (k_19 (by decide)) (vp_lt b3) hq) kd_X7_width kq_579 (kv_w (by decide) (by decide) (k_19 (by decide)) (vp_lt b3)) rfl rfl rfl ⟨rfl, rfl, Nat.le_of_ble_eq_true rfl, Nat.le_of_ble_eq_true rfl⟩ rfl (Nat.le_of_ble_eq_true rfl) dX8_word_81 ⟨Nat.le_of_ble_eq_true rfl, Nat.le_of_ble_eq_true rfl⟩ (fun r5 σ4 H locs hq hP hS => ?_)
      exact W.widen (k := 0) (n := 0) (Nat.le_of_ble_eq_true rfl) (Nat.le_of_ble_eq_true rfl) (vx_ret (kr_iret C0 hK hP hS hq dX8_word_84))
    · have hq := hq.2 hsw1
      by_cases hsw2 : v2 = (2 : Int32)
      · have hq := hq.1 hsw2
        refine lv_tableIn (off := 79) (tgt := 85) hx hb dX8_word_6 (by rw [hsw2]; decide) (by rw [hsw2]; decide) (by rw [hsw2]; decide) (by decide) ?_
        refine lv_aload_n hx hb dX8_word_85 rfl (lv_at hl 0 rfl) ?_
        refine lv_aload_n hx hb dX8_word_86 rfl (lv_at hl 0 rfl) ?_
        refine kg_X8_page C0 hK hP (kv_s (by decide) (by decide)) kq_233 dX8_word_87 ?_
        refine kr_Vr (k := (22, 0, 0)) (As := [.ref (ka_a G (0, 0, 0))]) (rest := []) C0 hK hP hS hl (km_X8_arranged l hI (by decide) hq) kd_X8_arranged kq_502 (kv_s (by decide) (by decide)) rfl rfl rfl ⟨rfl, rfl, Nat.le_of_ble_eq_true rfl, Nat.le_of_ble_eq_true rfl⟩ rfl (Nat.le_of_ble_eq_true rfl) dX8_word_90 ⟨Nat.le_of_ble_eq_true rfl, Nat.le_of_ble_eq_true rfl⟩ (fun σ6 H locs hq hP hS => ?_)
        refine kg_X1_lines C0 hK hP (kv_s (by decide) (by decide)) kq_185 dX8_word_93 ?_
        refine lv_iload_n hx hb dX8_word_96 rfl (lv_at hl 1 rfl) ?_
        obtain ⟨b7, hq⟩ := hq
        refine kr_iald C0 hK hP (kv_s (by decide) (by decide)) rfl b7 dX8_word_97 ?_
        exact W.widen (k := 0) (n := 0) (Nat.le_of_ble_eq_true rfl) (Nat.le_of_ble_eq_true rfl) (vx_ret (kr_iret C0 hK hP hS hq dX8_word_98))
      · have hq := hq.2 hsw2
        by_cases hsw3 : v2 = (3 : Int32)
        · have hq := hq.1 hsw3
          refine lv_tableIn (off := 93) (tgt := 99) hx hb dX8_word_6 (by rw [hsw3]; decide) (by rw [hsw3]; decide) (by rw [hsw3]; decide) (by decide) ?_
          refine lv_aload_n hx hb dX8_word_99 rfl (lv_at hl 0 rfl) ?_
          refine lv_aload_n hx hb dX8_word_100 rfl (lv_at hl 0 rfl) ?_
          refine kg_X8_page C0 hK hP (kv_s (by decide) (by decide)) kq_233 dX8_word_101 ?_
          refine kr_Vr (k := (22, 0, 0)) (As := [.ref (ka_a G (0, 0, 0))]) (rest := []) C0 hK hP hS hl (km_X8_arranged l hI (by decide) hq) kd_X8_arranged kq_502 (kv_s (by decide) (by decide)) rfl rfl rfl ⟨rfl, rfl, Nat.le_of_ble_eq_true rfl, Nat.le_of_ble_eq_true rfl⟩ rfl (Nat.le_of_ble_eq_true rfl) dX8_word_104 ⟨Nat.le_of_ble_eq_true rfl, Nat.le_of_ble_eq_true rfl⟩ (fun σ8 H locs hq hP hS => ?_)
          refine kg_X1_columns C0 hK hP (kv_s (by decide) (by decide)) kq_187 dX8_word_107 ?_
          refine lv_iload_n hx hb dX8_word_110 rfl (lv_at hl 1 rfl) ?_
          obtain ⟨b9, hq⟩ := hq
          refine kr_iald C0 hK hP (kv_s (by decide) (by decide)) rfl b9 dX8_word_111 ?_
          exact W.widen (k := 0) (n := 0) (Nat.le_of_ble_eq_true rfl) (Nat.le_of_ble_eq_true rfl) (vx_ret (kr_iret C0 hK hP hS hq dX8_word_112))
        · have hq := hq.2 hsw3
          by_cases hsw4 : v2 = (4 : Int32)
          · have hq := hq.1 hsw4
            refine lv_tableIn (off := 107) (tgt := 113) hx hb dX8_word_6 (by rw [hsw4]; decide) (by rw [hsw4]; decide) (by rw [hsw4]; decide) (by decide) ?_
            refine lv_aload_n hx hb dX8_word_113 rfl (lv_at hl 0 rfl) ?_
            refine lv_aload_n hx hb dX8_word_114 rfl (lv_at hl 0 rfl) ?_
            refine kg_X8_page C0 hK hP (kv_s (by decide) (by decide)) kq_233 dX8_word_115 ?_
            refine kr_Vr (k := (22, 0, 0)) (As := [.ref (ka_a G (0, 0, 0))]) (rest := []) C0 hK hP hS hl (km_X8_arranged l hI (by decide) hq) kd_X8_arranged kq_502 (kv_s (by decide) (by decide)) rfl rfl rfl ⟨rfl, rfl, Nat.le_of_ble_eq_true rfl, Nat.le_of_ble_eq_true rfl⟩ rfl (Nat.le_of_ble_eq_true rfl) dX8_word_118 ⟨Nat.le_of_ble_eq_true rfl, Nat.le_of_ble_eq_true rfl⟩ (fun σ10 H locs hq hP hS => ?_)
            refine kg_X1_sentences C0 hK hP (kv_s (by decide) (by decide)) kq_189 dX8_word_121 ?_
            refine lv_iload_n hx hb dX8_word_124 rfl (lv_at hl 1 rfl) ?_
            obtain ⟨b11, hq⟩ := hq
            refine kr_iald C0 hK hP (kv_s (by decide) (by decide)) rfl b11 dX8_word_125 ?_
            exact W.widen (k := 0) (n := 0) (Nat.le_of_ble_eq_true rfl) (Nat.le_of_ble_eq_true rfl) (vx_ret (kr_iret C0 hK hP hS hq dX8_word_126))
          · have hq := hq.2 hsw4
            by_cases hsw5 : v2 = (5 : Int32)
            · have hq := hq.1 hsw5
              refine lv_tableIn (off := 121) (tgt := 127) hx hb dX8_word_6 (by rw [hsw5]; decide) (by rw [hsw5]; decide) (by rw [hsw5]; decide) (by decide) ?_
              refine lv_aload_n hx hb dX8_word_127 rfl (lv_at hl 0 rfl) ?_
              refine kg_X8_page C0 hK hP (kv_s (by decide) (by decide)) kq_233 dX8_word_128 ?_
              refine kg_X4_words C0 hK hP (kv_p (by decide) (by decide)) kq_150 dX8_word_131 ?_
              refine lv_iload_n hx hb dX8_word_134 rfl (lv_at hl 1 rfl) ?_
              obtain ⟨b12, hq⟩ := hq
              refine kr_aald (t := 3) C0 hK hP (kv_p (by decide) (by decide)) rfl rfl b12 rfl dX8_word_135 ?_
              refine kg_X7_ended C0 hK hP (kv_w (by decide) (by decide) (k_19 (by decide)) (vp_lt b12)) kq_78 dX8_word_136 ?_
              refine lv_if_eq (tgt := 146) hx hb dX8_word_139 (by decide) (fun hc => ?_) (fun hc => ?_)
              · have hq := hq.1 hc
                refine lv_iconst (v := 0) hx hb dX8_word_146 (by decide) ?_
                exact W.widen (k := 0) (n := 0) (Nat.le_of_ble_eq_true rfl) (Nat.le_of_ble_eq_true rfl) (vx_ret (kr_iret C0 hK hP hS hq dX8_word_147))
              · have hq := hq.2 hc
                refine lv_iconst (v := 1) hx hb dX8_word_142 (by decide) ?_
                refine lv_goto (tgt := 147) hx hb dX8_word_143 (by decide) ?_
                exact W.widen (k := 0) (n := 0) (Nat.le_of_ble_eq_true rfl) (Nat.le_of_ble_eq_true rfl) (vx_ret (kr_iret C0 hK hP hS hq dX8_word_147))
            · have hq := hq.2 hsw5
              by_cases hsw6 : v2 = (6 : Int32)
              · have hq := hq.1 hsw6
                refine lv_tableIn (off := 142) (tgt := 148) hx hb dX8_word_6 (by rw [hsw6]; decide) (by rw [hsw6]; decide) (by rw [hsw6]; decide) (by decide) ?_
                refine lv_aload_n hx hb dX8_word_148 rfl (lv_at hl 0 rfl) ?_
                refine kg_X8_page C0 hK hP (kv_s (by decide) (by decide)) kq_233 dX8_word_149 ?_
                refine kg_X4_words C0 hK hP (kv_p (by decide) (by decide)) kq_150 dX8_word_152 ?_
                refine lv_iload_n hx hb dX8_word_155 rfl (lv_at hl 1 rfl) ?_
                obtain ⟨b13, hq⟩ := hq
                refine kr_aald (t := 3) C0 hK hP (kv_p (by decide) (by decide)) rfl rfl b13 rfl dX8_word_156 ?_
                refine kr_Vi (k := (5, 0, v1.toNatClampNeg)) (As := []) (rest := []) C0 hK hP hS hl (km_X7_countGaps l hI (k_19 (by decide)) (vp_lt b13) hq) kd_X7_countGaps kq_580 (kv_w (by decide) (by decide) (k_19 (by decide)) (vp_lt b13)) rfl rfl rfl ⟨rfl, rfl, Nat.le_of_ble_eq_true rfl, Nat.le_of_ble_eq_true rfl⟩ rfl (Nat.le_of_ble_eq_true rfl) dX8_word_157 ⟨Nat.le_of_ble_eq_true rfl, Nat.le_of_ble_eq_true rfl⟩ (fun r15 σ14 H locs hq hP hS => ?_)
                exact W.widen (k := 0) (n := 0) (Nat.le_of_ble_eq_true rfl) (Nat.le_of_ble_eq_true rfl) (vx_ret (kr_iret C0 hK hP hS hq dX8_word_160))
              · have hq := hq.2 hsw6
                by_cases hsw7 : v2 = (7 : Int32)
                · have hq := hq.1 hsw7
                  refine lv_tableIn (off := 155) (tgt := 161) hx hb dX8_word_6 (by rw [hsw7]; decide) (by rw [hsw7]; decide) (by rw [hsw7]; decide) (by decide) ?_
                  refine lv_aload_n hx hb dX8_word_161 rfl (lv_at hl 0 rfl) ?_
                  refine kg_X8_page C0 hK hP (kv_s (by decide) (by decide)) kq_233 dX8_word_162 ?_
                  refine kg_X4_words C0 hK hP (kv_p (by decide) (by decide)) kq_150 dX8_word_165 ?_
                  refine lv_iload_n hx hb dX8_word_168 rfl (lv_at hl 1 rfl) ?_
                  obtain ⟨b16, hq⟩ := hq
                  refine kr_aald (t := 3) C0 hK hP (kv_p (by decide) (by decide)) rfl rfl b16 rfl dX8_word_169 ?_
                  refine kg_X7_freeLength C0 hK hP (kv_w (by decide) (by decide) (k_19 (by decide)) (vp_lt b16)) kq_75 dX8_word_170 ?_
                  exact W.widen (k := 0) (n := 0) (Nat.le_of_ble_eq_true rfl) (Nat.le_of_ble_eq_true rfl) (vx_ret (kr_iret C0 hK hP hS hq dX8_word_173))
                · have hq := hq.2 hsw7
                  refine lv_tableOut (tgt := 174) hx hb dX8_word_6 (kt_0_7 (x := v2) hsw0 hsw1 hsw2 hsw3 hsw4 hsw5 hsw6 hsw7) (by decide) ?_
                  exact False.elim hq
/-! GlossRows.requirePart(II)V (throws nothing) -/
def rm0_X8_requirePart : Room := { frames := 6, cells := 0, slots := 0, locals := 82 }
set_option maxHeartbeats 4000000 in
set_option maxRecDepth 100000 in
theorem km0_X8_requirePart (l : Launch) (hl0 : l.stackTraces = false) {G : ka_G} (hI : ka_I G) {σ : ka_S} {v1 : Int32} {v2 : Int32} {Q : ka_S → Prop} (hq : kw_X8_requirePart σ v1 v2 Q (fun _ _ => False)) : kx_v l yX8_requirePart (kw_ yX8_requirePart cX8_requirePart 3 none) rm0_X8_requirePart 0 0 G [.ref (ka_a G (22, 0, 0)), .int v1, .int v2] σ Q (fun _ _ => False) := by
  refine kx_of "GlossRows" rfl (by decide) (Nat.le_of_ble_eq_true rfl) ?_
  intro p e s m below meth c C0 hK hT hout H locs hP hS ls hl
  obtain ⟨hx, hb, -, hml, hown, hts, -⟩ := id C0
  have hl : lv_has ls 3 [(0, .ref (ka_a G (22, 0, 0))), (1, .int v1), (2, .int v2)] := hl
  unfold kw_X8_requirePart at hq
  refine lv_aload_n hx hb dX8_requirePart_0 rfl (lv_at hl 0 rfl) ?_
  refine kg_X8_page C0 hK hP (kv_s (by decide) (by decide)) kq_233 dX8_requirePart_1 ?_
  refine lv_iload_n hx hb dX8_requirePart_4 rfl (lv_at hl 1 rfl) ?_
  refine lv_iload_n hx hb dX8_requirePart_5 rfl (lv_at hl 2 rfl) ?_
  refine kr_Vi (k := (0, 0, 0)) (As := [.int v1, .int v2]) (rest := []) C0 hK hP hS hl (km_X4_hasPart l hI (by decide) hq) kd_X4_hasPart kq_593 (kv_p (by decide) (by decide)) rfl rfl rfl ⟨rfl, rfl, Nat.le_of_ble_eq_true rfl, Nat.le_of_ble_eq_true rfl⟩ rfl (Nat.le_of_ble_eq_true rfl) dX8_requirePart_6 ⟨Nat.le_of_ble_eq_true rfl, Nat.le_of_ble_eq_true rfl⟩ (fun r2 σ1 H locs hq hP hS => ?_)
  refine lv_if_ne (tgt := 23) hx hb dX8_requirePart_9 (by decide) (fun hc => ?_) (fun hc => ?_)
  · have hq := hq.2 hc
    exact W.widen (k := 0) (n := 0) (Nat.le_of_ble_eq_true rfl) (Nat.le_of_ble_eq_true rfl) (vx_ret (kr_vret C0 hK hP hS hq dX8_requirePart_23))
  · have hq := hq.1 hc
    exact False.elim hq
/-! GlossRows.part(III)I (throws nothing) -/
def rm0_X8_part : Room := { frames := 7, cells := 0, slots := 0, locals := 104 }
set_option maxHeartbeats 4000000 in
set_option maxRecDepth 100000 in
theorem km0_X8_part (l : Launch) (hl0 : l.stackTraces = false) {G : ka_G} (hI : ka_I G) {σ : ka_S} {v1 : Int32} {v2 : Int32} {v3 : Int32} {Q : Int32 → ka_S → Prop} (hq : kw_X8_part σ v1 v2 v3 Q (fun _ _ => False)) : kx_i l yX8_part (kw_ yX8_part cX8_part 4 (some .int)) rm0_X8_part 0 0 G [.ref (ka_a G (22, 0, 0)), .int v1, .int v2, .int v3] σ Q (fun _ _ => False) := by
  refine kx_of "GlossRows" rfl (by decide) (Nat.le_of_ble_eq_true rfl) ?_
  intro p e s m below meth c C0 hK hT hout H locs hP hS ls hl
  obtain ⟨hx, hb, -, hml, hown, hts, -⟩ := id C0
  have hl : lv_has ls 4 [(0, .ref (ka_a G (22, 0, 0))), (1, .int v1), (2, .int v2), (3, .int v3)] := hl
  unfold kw_X8_part at hq
  refine lv_aload_n hx hb dX8_part_0 rfl (lv_at hl 0 rfl) ?_
  refine lv_iload_n hx hb dX8_part_1 rfl (lv_at hl 1 rfl) ?_
  refine lv_iload_n hx hb dX8_part_2 rfl (lv_at hl 2 rfl) ?_
  refine kx_Vv (k := (22, 0, 0)) (As := [.int v1, .int v2]) (rest := []) C0 hK hT hout hP hS hl (km0_X8_requirePart l hl0 hI hq) kd_X8_requirePart kq_589 (kv_s (by decide) (by decide)) rfl rfl rfl ⟨rfl, rfl, Nat.le_of_ble_eq_true rfl, Nat.le_of_ble_eq_true rfl⟩ rfl (Nat.le_of_ble_eq_true rfl) dX8_part_3 ⟨Nat.le_of_ble_eq_true rfl, Nat.le_of_ble_eq_true rfl⟩ ⟨Nat.le_of_ble_eq_true rfl, Nat.le_of_ble_eq_true rfl⟩ (fun σ1 H locs hq hP hS => ?_)
  refine lv_iload_n hx hb dX8_part_6 rfl (lv_at hl 3 rfl) ?_
  by_cases hsw0 : v3 = (0 : Int32)
  · have hq := hq.1 hsw0
    refine lv_tableIn (off := 29) (tgt := 36) hx hb dX8_part_7 (by rw [hsw0]; decide) (by rw [hsw0]; decide) (by rw [hsw0]; decide) (by decide) ?_
    refine lv_aload_n hx hb dX8_part_36 rfl (lv_at hl 0 rfl) ?_
    refine kg_X8_page C0 hK hP (kv_s (by decide) (by decide)) kq_233 dX8_part_37 ?_
    refine kg_X4_words C0 hK hP (kv_p (by decide) (by decide)) kq_150 dX8_part_40 ?_
    refine lv_iload_n hx hb dX8_part_43 rfl (lv_at hl 1 rfl) ?_
    obtain ⟨b2, hq⟩ := hq
    refine kr_aald (t := 3) C0 hK hP (kv_p (by decide) (by decide)) rfl rfl b2 rfl dX8_part_44 ?_
    refine kg_X7_parts C0 hK hP (kv_w (by decide) (by decide) (k_19 (by decide)) (vp_lt b2)) kq_58 dX8_part_45 ?_
    refine lv_iload_n hx hb dX8_part_48 rfl (lv_at hl 2 rfl) ?_
    obtain ⟨b3, hq⟩ := hq
    refine kr_lald C0 hK hP (kv_w (by decide) (by decide) (k_19 (by decide)) (vp_lt b2)) rfl b3 dX8_part_49 ?_
    refine kr_Si (As := [.long (σ1.2 (6, 0, v1.toNatClampNeg) v2.toNatClampNeg)]) (rest := []) C0 hK hP hS hl (km_X2_length l hI hq) kd_X2_length kq_616 ⟨rfl, rfl, Nat.le_of_ble_eq_true rfl, Nat.le_of_ble_eq_true rfl⟩ rfl (Nat.le_of_ble_eq_true rfl) dX8_part_50 ⟨Nat.le_of_ble_eq_true rfl, Nat.le_of_ble_eq_true rfl⟩ (fun r5 σ4 H locs hq hP hS => ?_)
    exact W.widen (k := 0) (n := 0) (Nat.le_of_ble_eq_true rfl) (Nat.le_of_ble_eq_true rfl) (vx_ret (kr_iret C0 hK hP hS hq dX8_part_53))
  · have hq := hq.2 hsw0
    by_cases hsw1 : v3 = (1 : Int32)
    · have hq := hq.1 hsw1
      refine lv_tableIn (off := 47) (tgt := 54) hx hb dX8_part_7 (by rw [hsw1]; decide) (by rw [hsw1]; decide) (by rw [hsw1]; decide) (by decide) ?_
      refine lv_aload_n hx hb dX8_part_54 rfl (lv_at hl 0 rfl) ?_
      refine kg_X8_page C0 hK hP (kv_s (by decide) (by decide)) kq_233 dX8_part_55 ?_
      refine kg_X4_words C0 hK hP (kv_p (by decide) (by decide)) kq_150 dX8_part_58 ?_
      refine lv_iload_n hx hb dX8_part_61 rfl (lv_at hl 1 rfl) ?_
      obtain ⟨b6, hq⟩ := hq
      refine kr_aald (t := 3) C0 hK hP (kv_p (by decide) (by decide)) rfl rfl b6 rfl dX8_part_62 ?_
      refine kg_X7_glosses C0 hK hP (kv_w (by decide) (by decide) (k_19 (by decide)) (vp_lt b6)) kq_62 dX8_part_63 ?_
      refine lv_iload_n hx hb dX8_part_66 rfl (lv_at hl 2 rfl) ?_
      obtain ⟨b7, hq⟩ := hq
      refine kr_lald C0 hK hP (kv_w (by decide) (by decide) (k_19 (by decide)) (vp_lt b6)) rfl b7 dX8_part_67 ?_
      refine kr_Si (As := [.long (σ1.2 (7, 0, v1.toNatClampNeg) v2.toNatClampNeg)]) (rest := []) C0 hK hP hS hl (km_X2_length l hI hq) kd_X2_length kq_616 ⟨rfl, rfl, Nat.le_of_ble_eq_true rfl, Nat.le_of_ble_eq_true rfl⟩ rfl (Nat.le_of_ble_eq_true rfl) dX8_part_68 ⟨Nat.le_of_ble_eq_true rfl, Nat.le_of_ble_eq_true rfl⟩ (fun r9 σ8 H locs hq hP hS => ?_)
      exact W.widen (k := 0) (n := 0) (Nat.le_of_ble_eq_true rfl) (Nat.le_of_ble_eq_true rfl) (vx_ret (kr_iret C0 hK hP hS hq dX8_part_71))
    · have hq := hq.2 hsw1
      by_cases hsw2 : v3 = (2 : Int32)
      · have hq := hq.1 hsw2
        refine lv_tableIn (off := 65) (tgt := 72) hx hb dX8_part_7 (by rw [hsw2]; decide) (by rw [hsw2]; decide) (by rw [hsw2]; decide) (by decide) ?_
        refine lv_aload_n hx hb dX8_part_72 rfl (lv_at hl 0 rfl) ?_
        refine kg_X8_page C0 hK hP (kv_s (by decide) (by decide)) kq_233 dX8_part_73 ?_
        refine kg_X4_words C0 hK hP (kv_p (by decide) (by decide)) kq_150 dX8_part_76 ?_
        refine lv_iload_n hx hb dX8_part_79 rfl (lv_at hl 1 rfl) ?_
        obtain ⟨b10, hq⟩ := hq
        refine kr_aald (t := 3) C0 hK hP (kv_p (by decide) (by decide)) rfl rfl b10 rfl dX8_part_80 ?_
        refine kg_X7_marks C0 hK hP (kv_w (by decide) (by decide) (k_19 (by decide)) (vp_lt b10)) kq_67 dX8_part_81 ?_
        refine lv_iload_n hx hb dX8_part_84 rfl (lv_at hl 2 rfl) ?_
        obtain ⟨b11, hq⟩ := hq
        refine kr_iald C0 hK hP (kv_w (by decide) (by decide) (k_19 (by decide)) (vp_lt b10)) rfl b11 dX8_part_85 ?_
        exact W.widen (k := 0) (n := 0) (Nat.le_of_ble_eq_true rfl) (Nat.le_of_ble_eq_true rfl) (vx_ret (kr_iret C0 hK hP hS hq dX8_part_86))
      · have hq := hq.2 hsw2
        by_cases hsw3 : v3 = (3 : Int32)
        · have hq := hq.1 hsw3
          refine lv_tableIn (off := 80) (tgt := 87) hx hb dX8_part_7 (by rw [hsw3]; decide) (by rw [hsw3]; decide) (by rw [hsw3]; decide) (by decide) ?_
          refine lv_aload_n hx hb dX8_part_87 rfl (lv_at hl 0 rfl) ?_
          refine kg_X8_page C0 hK hP (kv_s (by decide) (by decide)) kq_233 dX8_part_88 ?_
          refine kg_X4_lexicon C0 hK hP (kv_p (by decide) (by decide)) kq_152 dX8_part_91 ?_
          refine lv_aload_n hx hb dX8_part_94 rfl (lv_at hl 0 rfl) ?_
          refine kg_X8_page C0 hK hP (kv_s (by decide) (by decide)) kq_233 dX8_part_95 ?_
          refine kg_X4_words C0 hK hP (kv_p (by decide) (by decide)) kq_150 dX8_part_98 ?_
          refine lv_iload_n hx hb dX8_part_101 rfl (lv_at hl 1 rfl) ?_
          obtain ⟨b12, hq⟩ := hq
          refine kr_aald (t := 3) C0 hK hP (kv_p (by decide) (by decide)) rfl rfl b12 rfl dX8_part_102 ?_
          refine kg_X7_parts C0 hK hP (kv_w (by decide) (by decide) (k_19 (by decide)) (vp_lt b12)) kq_58 dX8_part_103 ?_
          refine lv_iload_n hx hb dX8_part_106 rfl (lv_at hl 2 rfl) ?_
          obtain ⟨b13, hq⟩ := hq
          refine kr_lald C0 hK hP (kv_w (by decide) (by decide) (k_19 (by decide)) (vp_lt b12)) rfl b13 dX8_part_107 ?_
          refine kr_Vi (k := (2, 0, 0)) (As := [.long (σ1.2 (6, 0, v1.toNatClampNeg) v2.toNatClampNeg)]) (rest := []) C0 hK hP hS hl (km_X3_find l hI (by decide) hq) kd_X3_find kq_617 (kv_p (by decide) (by decide)) rfl rfl rfl ⟨rfl, rfl, Nat.le_of_ble_eq_true rfl, Nat.le_of_ble_eq_true rfl⟩ rfl (Nat.le_of_ble_eq_true rfl) dX8_part_108 ⟨Nat.le_of_ble_eq_true rfl, Nat.le_of_ble_eq_true rfl⟩ (fun r15 σ14 H locs hq hP hS => ?_)
          exact W.widen (k := 0) (n := 0) (Nat.le_of_ble_eq_true rfl) (Nat.le_of_ble_eq_true rfl) (vx_ret (kr_iret C0 hK hP hS hq dX8_part_111))
        · have hq := hq.2 hsw3
          refine lv_tableOut (tgt := 112) hx hb dX8_part_7 (kt_0_3 (x := v3) hsw0 hsw1 hsw2 hsw3) (by decide) ?_
          exact False.elim hq
/-! GlossRows.requireNotNegative(I)V (throws nothing) -/
def rm0_X8_requireNotNegative : Room := { frames := 6, cells := 0, slots := 0, locals := 82 }
set_option maxHeartbeats 4000000 in
set_option maxRecDepth 100000 in
theorem km0_X8_requireNotNegative (l : Launch) (hl0 : l.stackTraces = false) {G : ka_G} (hI : ka_I G) {σ : ka_S} {v1 : Int32} {Q : ka_S → Prop} (hq : kw_X8_requireNotNegative σ v1 Q (fun _ _ => False)) : kx_v l yX8_requireNotNegative (kw_ yX8_requireNotNegative cX8_requireNotNegative 2 none) rm0_X8_requireNotNegative 0 0 G [.ref (ka_a G (22, 0, 0)), .int v1] σ Q (fun _ _ => False) := by
  refine kx_of "GlossRows" rfl (by decide) (Nat.le_of_ble_eq_true rfl) ?_
  intro p e s m below meth c C0 hK hT hout H locs hP hS ls hl
  obtain ⟨hx, hb, -, hml, hown, hts, -⟩ := id C0
  have hl : lv_has ls 2 [(0, .ref (ka_a G (22, 0, 0))), (1, .int v1)] := hl
  unfold kw_X8_requireNotNegative at hq
  refine lv_iload_n hx hb dX8_requireNotNegative_0 rfl (lv_at hl 1 rfl) ?_
  refine lv_if_ge (tgt := 15) hx hb dX8_requireNotNegative_1 (by decide) (fun hc => ?_) (fun hc => ?_)
  · have hq := hq.1 hc
    exact W.widen (k := 0) (n := 0) (Nat.le_of_ble_eq_true rfl) (Nat.le_of_ble_eq_true rfl) (vx_ret (kr_vret C0 hK hP hS hq dX8_requireNotNegative_15))
  · have hq := hq.2 hc
    exact False.elim hq
/-! GlossRows.letter(IIZI)I (throws nothing) -/
def rm0_X8_letter : Room := { frames := 7, cells := 0, slots := 0, locals := 104 }
set_option maxHeartbeats 4000000 in
set_option maxRecDepth 100000 in
theorem kb0_X8_letter_47 {p : Program} {l : Launch} {e : Env} {s : State} {m : MethodId} {args : Array Value} {below : List Frame} {meth : Method} {c : Code} {G : ka_G} (hI : ka_I G) (C0 : ka_C p s m args meth c cX8_letter 5 "GlossRows" (some .int)) (hK : ka_Kn G s) {Q : Int32 → ka_S → Prop} : ∀ (σ : ka_S) (v4 : Int32) (t0 : Int64), kw_X8_letter_47 Q (fun _ _ => False) σ v4 t0 → ∀ (H : Heap) (locs : List Loc), ka_P G σ H → va_S (ka_A G) s.heap H locs → ∀ ls : Array Slot, lv_has ls 5 [(4, .int v4)] → W p l e rm0_X8_letter s m args below meth c H locs 0 0 (vx_MQ below (va_Qi Q (ka_B G) (ka_A G)) (ka_XC G (fun _ _ => False)) args s 0 0 (ka_A G)) (F0 m 47 ls [.long t0]) := by
  obtain ⟨hx, hb, -, hml, hown, hts, -⟩ := id C0
  intro σ v4 t0 hq H locs hP hS ls hl
  unfold kw_X8_letter_47 at hq
  refine lv_iload hx hb dX8_letter_47 (lv_at hl 0 rfl) ?_
  refine kr_Si (As := [.long t0, .int v4]) (rest := []) C0 hK hP hS hl (km_X2_code l hI hq) kd_X2_code kq_604 ⟨rfl, rfl, Nat.le_of_ble_eq_true rfl, Nat.le_of_ble_eq_true rfl⟩ rfl (Nat.le_of_ble_eq_true rfl) dX8_letter_49 ⟨Nat.le_of_ble_eq_true rfl, Nat.le_of_ble_eq_true rfl⟩ (fun r8 σ7 H locs hq hP hS => ?_)
  exact W.widen (k := 0) (n := 0) (Nat.le_of_ble_eq_true rfl) (Nat.le_of_ble_eq_true rfl) (vx_ret (kr_iret C0 hK hP hS hq dX8_letter_52))
set_option maxHeartbeats 4000000 in
set_option maxRecDepth 100000 in
theorem km0_X8_letter (l : Launch) (hl0 : l.stackTraces = false) {G : ka_G} (hI : ka_I G) {σ : ka_S} {v1 : Int32} {v2 : Int32} {v3 : Int32} {v4 : Int32} {Q : Int32 → ka_S → Prop} (hq : kw_X8_letter σ v1 v2 v3 v4 Q (fun _ _ => False)) : kx_i l yX8_letter (kw_ yX8_letter cX8_letter 5 (some .int)) rm0_X8_letter 0 0 G [.ref (ka_a G (22, 0, 0)), .int v1, .int v2, .int v3, .int v4] σ Q (fun _ _ => False) := by
  refine kx_of "GlossRows" rfl (by decide) (Nat.le_of_ble_eq_true rfl) ?_
  intro p e s m below meth c C0 hK hT hout H locs hP hS ls hl
  obtain ⟨hx, hb, -, hml, hown, hts, -⟩ := id C0
  have hl : lv_has ls 5 [(0, .ref (ka_a G (22, 0, 0))), (1, .int v1), (2, .int v2), (3, .int v3), (4, .int v4)] := hl
  unfold kw_X8_letter at hq
  refine lv_aload_n hx hb dX8_letter_0 rfl (lv_at hl 0 rfl) ?_
  refine lv_iload_n hx hb dX8_letter_1 rfl (lv_at hl 1 rfl) ?_
  refine lv_iload_n hx hb dX8_letter_2 rfl (lv_at hl 2 rfl) ?_
  refine kx_Vv (k := (22, 0, 0)) (As := [.int v1, .int v2]) (rest := []) C0 hK hT hout hP hS hl (km0_X8_requirePart l hl0 hI hq) kd_X8_requirePart kq_589 (kv_s (by decide) (by decide)) rfl rfl rfl ⟨rfl, rfl, Nat.le_of_ble_eq_true rfl, Nat.le_of_ble_eq_true rfl⟩ rfl (Nat.le_of_ble_eq_true rfl) dX8_letter_3 ⟨Nat.le_of_ble_eq_true rfl, Nat.le_of_ble_eq_true rfl⟩ ⟨Nat.le_of_ble_eq_true rfl, Nat.le_of_ble_eq_true rfl⟩ (fun σ1 H locs hq hP hS => ?_)
  refine lv_aload_n hx hb dX8_letter_6 rfl (lv_at hl 0 rfl) ?_
  refine lv_iload hx hb dX8_letter_7 (lv_at hl 4 rfl) ?_
  refine kx_Vv (k := (22, 0, 0)) (As := [.int v4]) (rest := []) C0 hK hT hout hP hS hl (km0_X8_requireNotNegative l hl0 hI hq) kd_X8_requireNotNegative kq_599 (kv_s (by decide) (by decide)) rfl rfl rfl ⟨rfl, rfl, Nat.le_of_ble_eq_true rfl, Nat.le_of_ble_eq_true rfl⟩ rfl (Nat.le_of_ble_eq_true rfl) dX8_letter_9 ⟨Nat.le_of_ble_eq_true rfl, Nat.le_of_ble_eq_true rfl⟩ ⟨Nat.le_of_ble_eq_true rfl, Nat.le_of_ble_eq_true rfl⟩ (fun σ2 H locs hq hP hS => ?_)
  refine lv_iload_n hx hb dX8_letter_12 rfl (lv_at hl 3 rfl) ?_
  refine lv_if_eq (tgt := 33) hx hb dX8_letter_13 (by decide) (fun hc => ?_) (fun hc => ?_)
  · have hq := hq.1 hc
    refine lv_aload_n hx hb dX8_letter_33 rfl (lv_at hl 0 rfl) ?_
    refine kg_X8_page C0 hK hP (kv_s (by decide) (by decide)) kq_233 dX8_letter_34 ?_
    refine kg_X4_words C0 hK hP (kv_p (by decide) (by decide)) kq_150 dX8_letter_37 ?_
    refine lv_iload_n hx hb dX8_letter_40 rfl (lv_at hl 1 rfl) ?_
    obtain ⟨b3, hq⟩ := hq
    refine kr_aald (t := 3) C0 hK hP (kv_p (by decide) (by decide)) rfl rfl b3 rfl dX8_letter_41 ?_
    refine kg_X7_parts C0 hK hP (kv_w (by decide) (by decide) (k_19 (by decide)) (vp_lt b3)) kq_58 dX8_letter_42 ?_
    refine lv_iload_n hx hb dX8_letter_45 rfl (lv_at hl 2 rfl) ?_
    obtain ⟨b4, hq⟩ := hq
    refine kr_lald C0 hK hP (kv_w (by decide) (by decide) (k_19 (by decide)) (vp_lt b3)) rfl b4 dX8_letter_46 ?_
    refine W.widen (k := 0) (n := 0) (Nat.le_of_ble_eq_true rfl) (Nat.le_of_ble_eq_true rfl) ?_
    exact kb0_X8_letter_47 hI C0 hK σ2 v4 (σ2.2 (6, 0, v1.toNatClampNeg) v2.toNatClampNeg) hq H locs hP hS ls (lv_sub hl [4] rfl)
  · have hq := hq.2 hc
    refine lv_aload_n hx hb dX8_letter_16 rfl (lv_at hl 0 rfl) ?_
    refine kg_X8_page C0 hK hP (kv_s (by decide) (by decide)) kq_233 dX8_letter_17 ?_
    refine kg_X4_words C0 hK hP (kv_p (by decide) (by decide)) kq_150 dX8_letter_20 ?_
    refine lv_iload_n hx hb dX8_letter_23 rfl (lv_at hl 1 rfl) ?_
    obtain ⟨b5, hq⟩ := hq
    refine kr_aald (t := 3) C0 hK hP (kv_p (by decide) (by decide)) rfl rfl b5 rfl dX8_letter_24 ?_
    refine kg_X7_glosses C0 hK hP (kv_w (by decide) (by decide) (k_19 (by decide)) (vp_lt b5)) kq_62 dX8_letter_25 ?_
    refine lv_iload_n hx hb dX8_letter_28 rfl (lv_at hl 2 rfl) ?_
    obtain ⟨b6, hq⟩ := hq
    refine kr_lald C0 hK hP (kv_w (by decide) (by decide) (k_19 (by decide)) (vp_lt b5)) rfl b6 dX8_letter_29 ?_
    refine lv_goto (tgt := 47) hx hb dX8_letter_30 (by decide) ?_
    refine W.widen (k := 0) (n := 0) (Nat.le_of_ble_eq_true rfl) (Nat.le_of_ble_eq_true rfl) ?_
    exact kb0_X8_letter_47 hI C0 hK σ2 v4 (σ2.2 (7, 0, v1.toNatClampNeg) v2.toNatClampNeg) hq H locs hP hS ls (lv_sub hl [4] rfl)
/-! GlossRows.requireEntry(I)V (throws nothing) -/
def rm0_X8_requireEntry : Room := { frames := 6, cells := 0, slots := 0, locals := 82 }
set_option maxHeartbeats 4000000 in
set_option maxRecDepth 100000 in
theorem km0_X8_requireEntry (l : Launch) (hl0 : l.stackTraces = false) {G : ka_G} (hI : ka_I G) {σ : ka_S} {v1 : Int32} {Q : ka_S → Prop} (hq : kw_X8_requireEntry σ v1 Q (fun _ _ => False)) : kx_v l yX8_requireEntry (kw_ yX8_requireEntry cX8_requireEntry 2 none) rm0_X8_requireEntry 0 0 G [.ref (ka_a G (22, 0, 0)), .int v1] σ Q (fun _ _ => False) := by
  refine kx_of "GlossRows" rfl (by decide) (Nat.le_of_ble_eq_true rfl) ?_
  intro p e s m below meth c C0 hK hT hout H locs hP hS ls hl
  obtain ⟨hx, hb, -, hml, hown, hts, -⟩ := id C0
  have hl : lv_has ls 2 [(0, .ref (ka_a G (22, 0, 0))), (1, .int v1)] := hl
  unfold kw_X8_requireEntry at hq
  refine lv_iload_n hx hb dX8_requireEntry_0 rfl (lv_at hl 1 rfl) ?_
  refine lv_if_lt (tgt := 18) hx hb dX8_requireEntry_1 (by decide) (fun hc => ?_) (fun hc => ?_)
  · have hq := hq.1 hc
    exact False.elim hq
  · have hq := hq.2 hc
    refine lv_iload_n hx hb dX8_requireEntry_4 rfl (lv_at hl 1 rfl) ?_
    refine lv_aload_n hx hb dX8_requireEntry_5 rfl (lv_at hl 0 rfl) ?_
    refine kg_X8_page C0 hK hP (kv_s (by decide) (by decide)) kq_233 dX8_requireEntry_6 ?_
    refine kg_X4_lexicon C0 hK hP (kv_p (by decide) (by decide)) kq_152 dX8_requireEntry_9 ?_
    refine kg_X3_size C0 hK hP (kv_p (by decide) (by decide)) kq_135 dX8_requireEntry_12 ?_
    refine lv_icmp_lt (tgt := 29) hx hb dX8_requireEntry_15 (by decide) (fun hc => ?_) (fun hc => ?_)
    · have hq := hq.1 hc
      exact W.widen (k := 0) (n := 0) (Nat.le_of_ble_eq_true rfl) (Nat.le_of_ble_eq_true rfl) (vx_ret (kr_vret C0 hK hP hS hq dX8_requireEntry_29))
    · have hq := hq.2 hc
      exact False.elim hq
/-! GlossRows.entry(IZI)I (throws nothing) -/
def rm0_X8_entry : Room := { frames := 7, cells := 0, slots := 0, locals := 103 }
set_option maxHeartbeats 4000000 in
set_option maxRecDepth 100000 in
theorem kb0_X8_entry_41 {p : Program} {l : Launch} {e : Env} {s : State} {m : MethodId} {args : Array Value} {below : List Frame} {meth : Method} {c : Code} {G : ka_G} (hI : ka_I G) (C0 : ka_C p s m args meth c cX8_entry 4 "GlossRows" (some .int)) (hK : ka_Kn G s) {Q : Int32 → ka_S → Prop} : ∀ (σ : ka_S) (v3 : Int32) (t0 : Int64), kw_X8_entry_41 Q (fun _ _ => False) σ v3 t0 → ∀ (H : Heap) (locs : List Loc), ka_P G σ H → va_S (ka_A G) s.heap H locs → ∀ ls : Array Slot, lv_has ls 4 [(3, .int v3)] → W p l e rm0_X8_entry s m args below meth c H locs 0 0 (vx_MQ below (va_Qi Q (ka_B G) (ka_A G)) (ka_XC G (fun _ _ => False)) args s 0 0 (ka_A G)) (F0 m 41 ls [.long t0]) := by
  obtain ⟨hx, hb, -, hml, hown, hts, -⟩ := id C0
  intro σ v3 t0 hq H locs hP hS ls hl
  unfold kw_X8_entry_41 at hq
  refine lv_iload_n hx hb dX8_entry_41 rfl (lv_at hl 0 rfl) ?_
  refine kr_Si (As := [.long t0, .int v3]) (rest := []) C0 hK hP hS hl (km_X2_code l hI hq) kd_X2_code kq_604 ⟨rfl, rfl, Nat.le_of_ble_eq_true rfl, Nat.le_of_ble_eq_true rfl⟩ rfl (Nat.le_of_ble_eq_true rfl) dX8_entry_42 ⟨Nat.le_of_ble_eq_true rfl, Nat.le_of_ble_eq_true rfl⟩ (fun r6 σ5 H locs hq hP hS => ?_)
  exact W.widen (k := 0) (n := 0) (Nat.le_of_ble_eq_true rfl) (Nat.le_of_ble_eq_true rfl) (vx_ret (kr_iret C0 hK hP hS hq dX8_entry_45))
set_option maxHeartbeats 4000000 in
set_option maxRecDepth 100000 in
theorem km0_X8_entry (l : Launch) (hl0 : l.stackTraces = false) {G : ka_G} (hI : ka_I G) {σ : ka_S} {v1 : Int32} {v2 : Int32} {v3 : Int32} {Q : Int32 → ka_S → Prop} (hq : kw_X8_entry σ v1 v2 v3 Q (fun _ _ => False)) : kx_i l yX8_entry (kw_ yX8_entry cX8_entry 4 (some .int)) rm0_X8_entry 0 0 G [.ref (ka_a G (22, 0, 0)), .int v1, .int v2, .int v3] σ Q (fun _ _ => False) := by
  refine kx_of "GlossRows" rfl (by decide) (Nat.le_of_ble_eq_true rfl) ?_
  intro p e s m below meth c C0 hK hT hout H locs hP hS ls hl
  obtain ⟨hx, hb, -, hml, hown, hts, -⟩ := id C0
  have hl : lv_has ls 4 [(0, .ref (ka_a G (22, 0, 0))), (1, .int v1), (2, .int v2), (3, .int v3)] := hl
  unfold kw_X8_entry at hq
  refine lv_aload_n hx hb dX8_entry_0 rfl (lv_at hl 0 rfl) ?_
  refine lv_iload_n hx hb dX8_entry_1 rfl (lv_at hl 1 rfl) ?_
  refine kx_Vv (k := (22, 0, 0)) (As := [.int v1]) (rest := []) C0 hK hT hout hP hS hl (km0_X8_requireEntry l hl0 hI hq) kd_X8_requireEntry kq_627 (kv_s (by decide) (by decide)) rfl rfl rfl ⟨rfl, rfl, Nat.le_of_ble_eq_true rfl, Nat.le_of_ble_eq_true rfl⟩ rfl (Nat.le_of_ble_eq_true rfl) dX8_entry_2 ⟨Nat.le_of_ble_eq_true rfl, Nat.le_of_ble_eq_true rfl⟩ ⟨Nat.le_of_ble_eq_true rfl, Nat.le_of_ble_eq_true rfl⟩ (fun σ1 H locs hq hP hS => ?_)
  refine lv_aload_n hx hb dX8_entry_5 rfl (lv_at hl 0 rfl) ?_
  refine lv_iload_n hx hb dX8_entry_6 rfl (lv_at hl 3 rfl) ?_
  refine kx_Vv (k := (22, 0, 0)) (As := [.int v3]) (rest := []) C0 hK hT hout hP hS hl (km0_X8_requireNotNegative l hl0 hI hq) kd_X8_requireNotNegative kq_599 (kv_s (by decide) (by decide)) rfl rfl rfl ⟨rfl, rfl, Nat.le_of_ble_eq_true rfl, Nat.le_of_ble_eq_true rfl⟩ rfl (Nat.le_of_ble_eq_true rfl) dX8_entry_7 ⟨Nat.le_of_ble_eq_true rfl, Nat.le_of_ble_eq_true rfl⟩ ⟨Nat.le_of_ble_eq_true rfl, Nat.le_of_ble_eq_true rfl⟩ (fun σ2 H locs hq hP hS => ?_)
  refine lv_iload_n hx hb dX8_entry_10 rfl (lv_at hl 2 rfl) ?_
  refine lv_if_eq (tgt := 29) hx hb dX8_entry_11 (by decide) (fun hc => ?_) (fun hc => ?_)
  · have hq := hq.1 hc
    refine lv_aload_n hx hb dX8_entry_29 rfl (lv_at hl 0 rfl) ?_
    refine kg_X8_page C0 hK hP (kv_s (by decide) (by decide)) kq_233 dX8_entry_30 ?_
    refine kg_X4_lexicon C0 hK hP (kv_p (by decide) (by decide)) kq_152 dX8_entry_33 ?_
    refine kg_X3_parts C0 hK hP (kv_p (by decide) (by decide)) kq_129 dX8_entry_36 ?_
    refine lv_iload_n hx hb dX8_entry_39 rfl (lv_at hl 1 rfl) ?_
    obtain ⟨b3, hq⟩ := hq
    refine kr_lald C0 hK hP (kv_p (by decide) (by decide)) rfl b3 dX8_entry_40 ?_
    refine W.widen (k := 0) (n := 0) (Nat.le_of_ble_eq_true rfl) (Nat.le_of_ble_eq_true rfl) ?_
    exact kb0_X8_entry_41 hI C0 hK σ2 v3 (σ2.2 (3, 0, 0) v1.toNatClampNeg) hq H locs hP hS ls (lv_sub hl [3] rfl)
  · have hq := hq.2 hc
    refine lv_aload_n hx hb dX8_entry_14 rfl (lv_at hl 0 rfl) ?_
    refine kg_X8_page C0 hK hP (kv_s (by decide) (by decide)) kq_233 dX8_entry_15 ?_
    refine kg_X4_lexicon C0 hK hP (kv_p (by decide) (by decide)) kq_152 dX8_entry_18 ?_
    refine kg_X3_glosses C0 hK hP (kv_p (by decide) (by decide)) kq_131 dX8_entry_21 ?_
    refine lv_iload_n hx hb dX8_entry_24 rfl (lv_at hl 1 rfl) ?_
    obtain ⟨b4, hq⟩ := hq
    refine kr_lald C0 hK hP (kv_p (by decide) (by decide)) rfl b4 dX8_entry_25 ?_
    refine lv_goto (tgt := 41) hx hb dX8_entry_26 (by decide) ?_
    refine W.widen (k := 0) (n := 0) (Nat.le_of_ble_eq_true rfl) (Nat.le_of_ble_eq_true rfl) ?_
    exact kb0_X8_entry_41 hI C0 hK σ2 v3 (σ2.2 (4, 0, 0) v1.toNatClampNeg) hq H locs hP hS ls (lv_sub hl [3] rfl)
/-! GlossRows.requireRow(I)V (throws nothing) -/
def rm0_X8_requireRow : Room := { frames := 6, cells := 0, slots := 0, locals := 136 }
set_option maxHeartbeats 4000000 in
set_option maxRecDepth 100000 in
theorem km0_X8_requireRow (l : Launch) (hl0 : l.stackTraces = false) {G : ka_G} (hI : ka_I G) {σ : ka_S} {v1 : Int32} {Q : ka_S → Prop} (hq : kw_X8_requireRow σ v1 Q (fun _ _ => False)) : kx_v l yX8_requireRow (kw_ yX8_requireRow cX8_requireRow 2 none) rm0_X8_requireRow 0 0 G [.ref (ka_a G (22, 0, 0)), .int v1] σ Q (fun _ _ => False) := by
  refine kx_of "GlossRows" rfl (by decide) (Nat.le_of_ble_eq_true rfl) ?_
  intro p e s m below meth c C0 hK hT hout H locs hP hS ls hl
  obtain ⟨hx, hb, -, hml, hown, hts, -⟩ := id C0
  have hl : lv_has ls 2 [(0, .ref (ka_a G (22, 0, 0))), (1, .int v1)] := hl
  unfold kw_X8_requireRow at hq
  refine lv_iload_n hx hb dX8_requireRow_0 rfl (lv_at hl 1 rfl) ?_
  refine lv_if_lt (tgt := 19) hx hb dX8_requireRow_1 (by decide) (fun hc => ?_) (fun hc => ?_)
  · have hq := hq.1 hc
    exact False.elim hq
  · have hq := hq.2 hc
    refine lv_iload_n hx hb dX8_requireRow_4 rfl (lv_at hl 1 rfl) ?_
    refine lv_aload_n hx hb dX8_requireRow_5 rfl (lv_at hl 0 rfl) ?_
    refine lv_aload_n hx hb dX8_requireRow_6 rfl (lv_at hl 0 rfl) ?_
    refine kg_X8_page C0 hK hP (kv_s (by decide) (by decide)) kq_233 dX8_requireRow_7 ?_
    refine kr_Vr (k := (22, 0, 0)) (As := [.ref (ka_a G (0, 0, 0))]) (rest := [.int v1]) C0 hK hP hS hl (km_X8_arranged l hI (by decide) hq) kd_X8_arranged kq_502 (kv_s (by decide) (by decide)) rfl rfl rfl ⟨rfl, rfl, Nat.le_of_ble_eq_true rfl, Nat.le_of_ble_eq_true rfl⟩ rfl (Nat.le_of_ble_eq_true rfl) dX8_requireRow_10 ⟨Nat.le_of_ble_eq_true rfl, Nat.le_of_ble_eq_true rfl⟩ (fun σ1 H locs hq hP hS => ?_)
    refine kg_X1_rowCount C0 hK hP (kv_s (by decide) (by decide)) kq_193 dX8_requireRow_13 ?_
    refine lv_icmp_lt (tgt := 30) hx hb dX8_requireRow_16 (by decide) (fun hc => ?_) (fun hc => ?_)
    · have hq := hq.1 hc
      exact W.widen (k := 0) (n := 0) (Nat.le_of_ble_eq_true rfl) (Nat.le_of_ble_eq_true rfl) (vx_ret (kr_vret C0 hK hP hS hq dX8_requireRow_30))
    · have hq := hq.2 hc
      exact False.elim hq
/-! GlossRows.row(II)I (throws nothing) -/
def rm0_X8_row : Room := { frames := 7, cells := 0, slots := 0, locals := 157 }
set_option maxHeartbeats 4000000 in
set_option maxRecDepth 100000 in
theorem km0_X8_row (l : Launch) (hl0 : l.stackTraces = false) {G : ka_G} (hI : ka_I G) {σ : ka_S} {v1 : Int32} {v2 : Int32} {Q : Int32 → ka_S → Prop} (hq : kw_X8_row σ v1 v2 Q (fun _ _ => False)) : kx_i l yX8_row (kw_ yX8_row cX8_row 3 (some .int)) rm0_X8_row 0 0 G [.ref (ka_a G (22, 0, 0)), .int v1, .int v2] σ Q (fun _ _ => False) := by
  refine kx_of "GlossRows" rfl (by decide) (Nat.le_of_ble_eq_true rfl) ?_
  intro p e s m below meth c C0 hK hT hout H locs hP hS ls hl
  obtain ⟨hx, hb, -, hml, hown, hts, -⟩ := id C0
  have hl : lv_has ls 3 [(0, .ref (ka_a G (22, 0, 0))), (1, .int v1), (2, .int v2)] := hl
  unfold kw_X8_row at hq
  refine lv_aload_n hx hb dX8_row_0 rfl (lv_at hl 0 rfl) ?_
  refine lv_iload_n hx hb dX8_row_1 rfl (lv_at hl 1 rfl) ?_
  refine kx_Vv (k := (22, 0, 0)) (As := [.int v1]) (rest := []) C0 hK hT hout hP hS hl (km0_X8_requireRow l hl0 hI hq) kd_X8_requireRow kq_694 (kv_s (by decide) (by decide)) rfl rfl rfl ⟨rfl, rfl, Nat.le_of_ble_eq_true rfl, Nat.le_of_ble_eq_true rfl⟩ rfl (Nat.le_of_ble_eq_true rfl) dX8_row_2 ⟨Nat.le_of_ble_eq_true rfl, Nat.le_of_ble_eq_true rfl⟩ ⟨Nat.le_of_ble_eq_true rfl, Nat.le_of_ble_eq_true rfl⟩ (fun σ1 H locs hq hP hS => ?_)
  refine lv_iload_n hx hb dX8_row_5 rfl (lv_at hl 2 rfl) ?_
  by_cases hsw0 : v2 = (0 : Int32)
  · have hq := hq.1 hsw0
    refine lv_tableIn (off := 26) (tgt := 32) hx hb dX8_row_6 (by rw [hsw0]; decide) (by rw [hsw0]; decide) (by rw [hsw0]; decide) (by decide) ?_
    refine lv_aload_n hx hb dX8_row_32 rfl (lv_at hl 0 rfl) ?_
    refine kg_X8_layout C0 hK hP (kv_s (by decide) (by decide)) kq_235 dX8_row_33 ?_
    refine lv_aload_n hx hb dX8_row_36 rfl (lv_at hl 0 rfl) ?_
    refine kg_X8_page C0 hK hP (kv_s (by decide) (by decide)) kq_233 dX8_row_37 ?_
    refine lv_iload_n hx hb dX8_row_40 rfl (lv_at hl 1 rfl) ?_
    refine kr_Vi (k := (12, 0, 0)) (As := [.ref (ka_a G (0, 0, 0)), .int v1]) (rest := []) C0 hK hP hS hl (km_X1_kindOfRow l hI (by decide) hq) kd_X1_kindOfRow kq_699 (kv_s (by decide) (by decide)) rfl rfl rfl ⟨rfl, rfl, Nat.le_of_ble_eq_true rfl, Nat.le_of_ble_eq_true rfl⟩ rfl (Nat.le_of_ble_eq_true rfl) dX8_row_41 ⟨Nat.le_of_ble_eq_true rfl, Nat.le_of_ble_eq_true rfl⟩ (fun r3 σ2 H locs hq hP hS => ?_)
    exact W.widen (k := 0) (n := 0) (Nat.le_of_ble_eq_true rfl) (Nat.le_of_ble_eq_true rfl) (vx_ret (kr_iret C0 hK hP hS hq dX8_row_44))
  · have hq := hq.2 hsw0
    by_cases hsw1 : v2 = (1 : Int32)
    · have hq := hq.1 hsw1
      refine lv_tableIn (off := 39) (tgt := 45) hx hb dX8_row_6 (by rw [hsw1]; decide) (by rw [hsw1]; decide) (by rw [hsw1]; decide) (by decide) ?_
      refine lv_aload_n hx hb dX8_row_45 rfl (lv_at hl 0 rfl) ?_
      refine kg_X8_layout C0 hK hP (kv_s (by decide) (by decide)) kq_235 dX8_row_46 ?_
      refine lv_aload_n hx hb dX8_row_49 rfl (lv_at hl 0 rfl) ?_
      refine kg_X8_page C0 hK hP (kv_s (by decide) (by decide)) kq_233 dX8_row_50 ?_
      refine lv_iload_n hx hb dX8_row_53 rfl (lv_at hl 1 rfl) ?_
      refine kr_Vi (k := (12, 0, 0)) (As := [.ref (ka_a G (0, 0, 0)), .int v1]) (rest := []) C0 hK hP hS hl (km_X1_lengthOfRow l hI (by decide) hq) kd_X1_lengthOfRow kq_710 (kv_s (by decide) (by decide)) rfl rfl rfl ⟨rfl, rfl, Nat.le_of_ble_eq_true rfl, Nat.le_of_ble_eq_true rfl⟩ rfl (Nat.le_of_ble_eq_true rfl) dX8_row_54 ⟨Nat.le_of_ble_eq_true rfl, Nat.le_of_ble_eq_true rfl⟩ (fun r5 σ4 H locs hq hP hS => ?_)
      exact W.widen (k := 0) (n := 0) (Nat.le_of_ble_eq_true rfl) (Nat.le_of_ble_eq_true rfl) (vx_ret (kr_iret C0 hK hP hS hq dX8_row_57))
    · have hq := hq.2 hsw1
      by_cases hsw2 : v2 = (2 : Int32)
      · have hq := hq.1 hsw2
        refine lv_tableIn (off := 52) (tgt := 58) hx hb dX8_row_6 (by rw [hsw2]; decide) (by rw [hsw2]; decide) (by rw [hsw2]; decide) (by decide) ?_
        refine lv_aload_n hx hb dX8_row_58 rfl (lv_at hl 0 rfl) ?_
        refine kg_X8_layout C0 hK hP (kv_s (by decide) (by decide)) kq_235 dX8_row_59 ?_
        refine lv_aload_n hx hb dX8_row_62 rfl (lv_at hl 0 rfl) ?_
        refine kg_X8_page C0 hK hP (kv_s (by decide) (by decide)) kq_233 dX8_row_63 ?_
        refine lv_iload_n hx hb dX8_row_66 rfl (lv_at hl 1 rfl) ?_
        refine kr_Vi (k := (12, 0, 0)) (As := [.ref (ka_a G (0, 0, 0)), .int v1]) (rest := []) C0 hK hP hS hl (km_X1_sentenceOfRow l hI (by decide) hq) kd_X1_sentenceOfRow kq_719 (kv_s (by decide) (by decide)) rfl rfl rfl ⟨rfl, rfl, Nat.le_of_ble_eq_true rfl, Nat.le_of_ble_eq_true rfl⟩ rfl (Nat.le_of_ble_eq_true rfl) dX8_row_67 ⟨Nat.le_of_ble_eq_true rfl, Nat.le_of_ble_eq_true rfl⟩ (fun r7 σ6 H locs hq hP hS => ?_)
        exact W.widen (k := 0) (n := 0) (Nat.le_of_ble_eq_true rfl) (Nat.le_of_ble_eq_true rfl) (vx_ret (kr_iret C0 hK hP hS hq dX8_row_70))
      · have hq := hq.2 hsw2
        refine lv_tableOut (tgt := 71) hx hb dX8_row_6 (kt_0_2 (x := v2) hsw0 hsw1 hsw2) (by decide) ?_
        exact False.elim hq
/-! GlossRows.at(II)I (throws nothing) -/
def rm0_X8_at : Room := { frames := 7, cells := 0, slots := 0, locals := 157 }
set_option maxHeartbeats 4000000 in
set_option maxRecDepth 100000 in
theorem km0_X8_at (l : Launch) (hl0 : l.stackTraces = false) {G : ka_G} (hI : ka_I G) {σ : ka_S} {v1 : Int32} {v2 : Int32} {Q : Int32 → ka_S → Prop} (hq : kw_X8_at σ v1 v2 Q (fun _ _ => False)) : kx_i l yX8_at (kw_ yX8_at cX8_at 3 (some .int)) rm0_X8_at 0 0 G [.ref (ka_a G (22, 0, 0)), .int v1, .int v2] σ Q (fun _ _ => False) := by
  refine kx_of "GlossRows" rfl (by decide) (Nat.le_of_ble_eq_true rfl) ?_
  intro p e s m below meth c C0 hK hT hout H locs hP hS ls hl
  obtain ⟨hx, hb, -, hml, hown, hts, -⟩ := id C0
  have hl : lv_has ls 3 [(0, .ref (ka_a G (22, 0, 0))), (1, .int v1), (2, .int v2)] := hl
  unfold kw_X8_at at hq
  refine lv_aload_n hx hb dX8_at_0 rfl (lv_at hl 0 rfl) ?_
  refine lv_iload_n hx hb dX8_at_1 rfl (lv_at hl 1 rfl) ?_
  refine kx_Vv (k := (22, 0, 0)) (As := [.int v1]) (rest := []) C0 hK hT hout hP hS hl (km0_X8_requireRow l hl0 hI hq) kd_X8_requireRow kq_694 (kv_s (by decide) (by decide)) rfl rfl rfl ⟨rfl, rfl, Nat.le_of_ble_eq_true rfl, Nat.le_of_ble_eq_true rfl⟩ rfl (Nat.le_of_ble_eq_true rfl) dX8_at_2 ⟨Nat.le_of_ble_eq_true rfl, Nat.le_of_ble_eq_true rfl⟩ ⟨Nat.le_of_ble_eq_true rfl, Nat.le_of_ble_eq_true rfl⟩ (fun σ1 H locs hq hP hS => ?_)
  refine lv_aload_n hx hb dX8_at_5 rfl (lv_at hl 0 rfl) ?_
  refine lv_iload_n hx hb dX8_at_6 rfl (lv_at hl 2 rfl) ?_
  refine kx_Vv (k := (22, 0, 0)) (As := [.int v2]) (rest := []) C0 hK hT hout hP hS hl (km0_X8_requireNotNegative l hl0 hI hq) kd_X8_requireNotNegative kq_599 (kv_s (by decide) (by decide)) rfl rfl rfl ⟨rfl, rfl, Nat.le_of_ble_eq_true rfl, Nat.le_of_ble_eq_true rfl⟩ rfl (Nat.le_of_ble_eq_true rfl) dX8_at_7 ⟨Nat.le_of_ble_eq_true rfl, Nat.le_of_ble_eq_true rfl⟩ ⟨Nat.le_of_ble_eq_true rfl, Nat.le_of_ble_eq_true rfl⟩ (fun σ2 H locs hq hP hS => ?_)
  refine lv_aload_n hx hb dX8_at_10 rfl (lv_at hl 0 rfl) ?_
  refine kg_X8_layout C0 hK hP (kv_s (by decide) (by decide)) kq_235 dX8_at_11 ?_
  refine lv_aload_n hx hb dX8_at_14 rfl (lv_at hl 0 rfl) ?_
  refine kg_X8_page C0 hK hP (kv_s (by decide) (by decide)) kq_233 dX8_at_15 ?_
  refine lv_iload_n hx hb dX8_at_18 rfl (lv_at hl 1 rfl) ?_
  refine lv_iload_n hx hb dX8_at_19 rfl (lv_at hl 2 rfl) ?_
  refine kr_Vi (k := (12, 0, 0)) (As := [.ref (ka_a G (0, 0, 0)), .int v1, .int v2]) (rest := []) C0 hK hP hS hl (km_X1_codeInRow l hI (by decide) hq) kd_X1_codeInRow kq_731 (kv_s (by decide) (by decide)) rfl rfl rfl ⟨rfl, rfl, Nat.le_of_ble_eq_true rfl, Nat.le_of_ble_eq_true rfl⟩ rfl (Nat.le_of_ble_eq_true rfl) dX8_at_20 ⟨Nat.le_of_ble_eq_true rfl, Nat.le_of_ble_eq_true rfl⟩ (fun r4 σ3 H locs hq hP hS => ?_)
  exact W.widen (k := 0) (n := 0) (Nat.le_of_ble_eq_true rfl) (Nat.le_of_ble_eq_true rfl) (vx_ret (kr_iret C0 hK hP hS hq dX8_at_23))
/-! GlossRows.insert(I)I (throws nothing) -/
def rm0_X8_insert : Room := { frames := 6, cells := 0, slots := 0, locals := 124 }
set_option maxHeartbeats 4000000 in
set_option maxRecDepth 100000 in
theorem km0_X8_insert (l : Launch) (hl0 : l.stackTraces = false) {G : ka_G} (hI : ka_I G) {σ : ka_S} {v1 : Int32} {Q : Int32 → ka_S → Prop} (hq : kw_X8_insert σ v1 Q (fun _ _ => False)) : kx_i l yX8_insert (kw_ yX8_insert cX8_insert 2 (some .int)) rm0_X8_insert 0 0 G [.ref (ka_a G (22, 0, 0)), .int v1] σ Q (fun _ _ => False) := by
  refine kx_of "GlossRows" rfl (by decide) (Nat.le_of_ble_eq_true rfl) ?_
  intro p e s m below meth c C0 hK hT hout H locs hP hS ls hl
  obtain ⟨hx, hb, -, hml, hown, hts, -⟩ := id C0
  have hl : lv_has ls 2 [(0, .ref (ka_a G (22, 0, 0))), (1, .int v1)] := hl
  unfold kw_X8_insert at hq
  refine lv_iload_n hx hb dX8_insert_0 rfl (lv_at hl 1 rfl) ?_
  refine lv_if_lt (tgt := 15) hx hb dX8_insert_1 (by decide) (fun hc => ?_) (fun hc => ?_)
  · have hq := hq.1 hc
    exact False.elim hq
  · have hq := hq.2 hc
    refine lv_iload_n hx hb dX8_insert_4 rfl (lv_at hl 1 rfl) ?_
    refine lv_aload_n hx hb dX8_insert_5 rfl (lv_at hl 0 rfl) ?_
    refine kg_X8_page C0 hK hP (kv_s (by decide) (by decide)) kq_233 dX8_insert_6 ?_
    refine kg_X4_count C0 hK hP (kv_p (by decide) (by decide)) kq_155 dX8_insert_9 ?_
    refine lv_icmp_le (tgt := 25) hx hb dX8_insert_12 (by decide) (fun hc => ?_) (fun hc => ?_)
    · have hq := hq.1 hc
      refine lv_aload_n hx hb dX8_insert_25 rfl (lv_at hl 0 rfl) ?_
      refine kg_X8_reader C0 hK hP (kv_s (by decide) (by decide)) kq_232 dX8_insert_26 ?_
      refine lv_aload_n hx hb dX8_insert_29 rfl (lv_at hl 0 rfl) ?_
      refine kg_X8_text C0 hK hP (kv_s (by decide) (by decide)) kq_231 dX8_insert_30 ?_
      refine kr_Vi (k := (18, 0, 0)) (As := [.ref (ka_a G (10, 0, 0))]) (rest := []) C0 hK hP hS hl (km_X5_read l hI hq) kd_X5_read kq_270 (kv_s (by decide) (by decide)) rfl rfl rfl ⟨rfl, rfl, Nat.le_of_ble_eq_true rfl, Nat.le_of_ble_eq_true rfl⟩ rfl (Nat.le_of_ble_eq_true rfl) dX8_insert_33 ⟨Nat.le_of_ble_eq_true rfl, Nat.le_of_ble_eq_true rfl⟩ (fun r2 σ1 H locs hq hP hS => ?_)
      refine lv_bipush (v := -9) hx hb dX8_insert_36 (by decide) ?_
      refine lv_icmp_eq (tgt := 51) hx hb dX8_insert_38 (by decide) (fun hc => ?_) (fun hc => ?_)
      · have hq := hq.1 hc
        refine lv_aload_n hx hb dX8_insert_51 rfl (lv_at hl 0 rfl) ?_
        refine kg_X8_page C0 hK hP (kv_s (by decide) (by decide)) kq_233 dX8_insert_52 ?_
        refine kg_X4_count C0 hK hP (kv_p (by decide) (by decide)) kq_155 dX8_insert_55 ?_
        refine lv_aload_n hx hb dX8_insert_58 rfl (lv_at hl 0 rfl) ?_
        refine kg_X8_reader C0 hK hP (kv_s (by decide) (by decide)) kq_232 dX8_insert_59 ?_
        refine kg_X5_count C0 hK hP (kv_s (by decide) (by decide)) kq_100 dX8_insert_62 ?_
        refine lv_iadd hx hb dX8_insert_65 ?_
        refine lv_bipush (v := 12) hx hb dX8_insert_66 (by decide) ?_
        refine lv_icmp_le (tgt := 81) hx hb dX8_insert_68 (by decide) (fun hc => ?_) (fun hc => ?_)
        · have hq := hq.1 hc
          refine lv_aload_n hx hb dX8_insert_81 rfl (lv_at hl 0 rfl) ?_
          refine kg_X8_history C0 hK hP (kv_s (by decide) (by decide)) kq_236 dX8_insert_82 ?_
          refine lv_aload_n hx hb dX8_insert_85 rfl (lv_at hl 0 rfl) ?_
          refine kg_X8_page C0 hK hP (kv_s (by decide) (by decide)) kq_233 dX8_insert_86 ?_
          refine kr_Vv (k := (20, 0, 0)) (As := [.ref (ka_a G (0, 0, 0))]) (rest := []) C0 hK hP hS hl (km_X0_remember l hI (by decide) hq) kd_X0_remember kq_862 (kv_s (by decide) (by decide)) rfl rfl rfl ⟨rfl, rfl, Nat.le_of_ble_eq_true rfl, Nat.le_of_ble_eq_true rfl⟩ rfl (Nat.le_of_ble_eq_true rfl) dX8_insert_89 ⟨Nat.le_of_ble_eq_true rfl, Nat.le_of_ble_eq_true rfl⟩ (fun σ3 H locs hq hP hS => ?_)
          refine lv_aload_n hx hb dX8_insert_92 rfl (lv_at hl 0 rfl) ?_
          refine kg_X8_page C0 hK hP (kv_s (by decide) (by decide)) kq_233 dX8_insert_93 ?_
          refine lv_aload_n hx hb dX8_insert_96 rfl (lv_at hl 0 rfl) ?_
          refine kg_X8_reader C0 hK hP (kv_s (by decide) (by decide)) kq_232 dX8_insert_97 ?_
          refine lv_iload_n hx hb dX8_insert_100 rfl (lv_at hl 1 rfl) ?_
          refine kr_Vv (k := (0, 0, 0)) (As := [.ref (ka_a G (18, 0, 0)), .int v1]) (rest := []) C0 hK hP hS hl (km_X4_addWords l hI (by decide) hq) kd_X4_addWords kq_412 (kv_p (by decide) (by decide)) rfl rfl rfl ⟨rfl, rfl, Nat.le_of_ble_eq_true rfl, Nat.le_of_ble_eq_true rfl⟩ rfl (Nat.le_of_ble_eq_true rfl) dX8_insert_101 ⟨Nat.le_of_ble_eq_true rfl, Nat.le_of_ble_eq_true rfl⟩ (fun σ4 H locs hq hP hS => ?_)
          refine lv_aload_n hx hb dX8_insert_104 rfl (lv_at hl 0 rfl) ?_
          refine kg_X8_page C0 hK hP (kv_s (by decide) (by decide)) kq_233 dX8_insert_105 ?_
          refine kg_X4_count C0 hK hP (kv_p (by decide) (by decide)) kq_155 dX8_insert_108 ?_
          exact W.widen (k := 0) (n := 0) (Nat.le_of_ble_eq_true rfl) (Nat.le_of_ble_eq_true rfl) (vx_ret (kr_iret C0 hK hP hS hq dX8_insert_111))
        · have hq := hq.2 hc
          exact False.elim hq
      · have hq := hq.2 hc
        exact False.elim hq
    · have hq := hq.2 hc
      exact False.elim hq
/-! GlossRows.remove(I)I (throws nothing) -/
def rm0_X8_remove : Room := { frames := 7, cells := 0, slots := 0, locals := 103 }
set_option maxHeartbeats 4000000 in
set_option maxRecDepth 100000 in
theorem km0_X8_remove (l : Launch) (hl0 : l.stackTraces = false) {G : ka_G} (hI : ka_I G) {σ : ka_S} {v1 : Int32} {Q : Int32 → ka_S → Prop} (hq : kw_X8_remove σ v1 Q (fun _ _ => False)) : kx_i l yX8_remove (kw_ yX8_remove cX8_remove 2 (some .int)) rm0_X8_remove 0 0 G [.ref (ka_a G (22, 0, 0)), .int v1] σ Q (fun _ _ => False) := by
  refine kx_of "GlossRows" rfl (by decide) (Nat.le_of_ble_eq_true rfl) ?_
  intro p e s m below meth c C0 hK hT hout H locs hP hS ls hl
  obtain ⟨hx, hb, -, hml, hown, hts, -⟩ := id C0
  have hl : lv_has ls 2 [(0, .ref (ka_a G (22, 0, 0))), (1, .int v1)] := hl
  unfold kw_X8_remove at hq
  refine lv_aload_n hx hb dX8_remove_0 rfl (lv_at hl 0 rfl) ?_
  refine lv_iload_n hx hb dX8_remove_1 rfl (lv_at hl 1 rfl) ?_
  refine kx_Vv (k := (22, 0, 0)) (As := [.int v1]) (rest := []) C0 hK hT hout hP hS hl (km0_X8_requireWord l hl0 hI hq) kd_X8_requireWord kq_570 (kv_s (by decide) (by decide)) rfl rfl rfl ⟨rfl, rfl, Nat.le_of_ble_eq_true rfl, Nat.le_of_ble_eq_true rfl⟩ rfl (Nat.le_of_ble_eq_true rfl) dX8_remove_2 ⟨Nat.le_of_ble_eq_true rfl, Nat.le_of_ble_eq_true rfl⟩ ⟨Nat.le_of_ble_eq_true rfl, Nat.le_of_ble_eq_true rfl⟩ (fun σ1 H locs hq hP hS => ?_)
  refine lv_aload_n hx hb dX8_remove_5 rfl (lv_at hl 0 rfl) ?_
  refine kg_X8_history C0 hK hP (kv_s (by decide) (by decide)) kq_236 dX8_remove_6 ?_
  refine lv_aload_n hx hb dX8_remove_9 rfl (lv_at hl 0 rfl) ?_
  refine kg_X8_page C0 hK hP (kv_s (by decide) (by decide)) kq_233 dX8_remove_10 ?_
  refine kr_Vv (k := (20, 0, 0)) (As := [.ref (ka_a G (0, 0, 0))]) (rest := []) C0 hK hP hS hl (km_X0_remember l hI (by decide) hq) kd_X0_remember kq_862 (kv_s (by decide) (by decide)) rfl rfl rfl ⟨rfl, rfl, Nat.le_of_ble_eq_true rfl, Nat.le_of_ble_eq_true rfl⟩ rfl (Nat.le_of_ble_eq_true rfl) dX8_remove_13 ⟨Nat.le_of_ble_eq_true rfl, Nat.le_of_ble_eq_true rfl⟩ (fun σ2 H locs hq hP hS => ?_)
  refine lv_aload_n hx hb dX8_remove_16 rfl (lv_at hl 0 rfl) ?_
  refine kg_X8_page C0 hK hP (kv_s (by decide) (by decide)) kq_233 dX8_remove_17 ?_
  refine lv_iload_n hx hb dX8_remove_20 rfl (lv_at hl 1 rfl) ?_
  refine kr_Vv (k := (0, 0, 0)) (As := [.int v1]) (rest := []) C0 hK hP hS hl (km_X4_dropWord l hI (by decide) hq) kd_X4_dropWord kq_806 (kv_p (by decide) (by decide)) rfl rfl rfl ⟨rfl, rfl, Nat.le_of_ble_eq_true rfl, Nat.le_of_ble_eq_true rfl⟩ rfl (Nat.le_of_ble_eq_true rfl) dX8_remove_21 ⟨Nat.le_of_ble_eq_true rfl, Nat.le_of_ble_eq_true rfl⟩ (fun σ3 H locs hq hP hS => ?_)
  refine lv_aload_n hx hb dX8_remove_24 rfl (lv_at hl 0 rfl) ?_
  refine kg_X8_page C0 hK hP (kv_s (by decide) (by decide)) kq_233 dX8_remove_25 ?_
  refine kg_X4_count C0 hK hP (kv_p (by decide) (by decide)) kq_155 dX8_remove_28 ?_
  exact W.widen (k := 0) (n := 0) (Nat.le_of_ble_eq_true rfl) (Nat.le_of_ble_eq_true rfl) (vx_ret (kr_iret C0 hK hP hS hq dX8_remove_31))
/-! GlossRows.end(I)I (throws nothing) -/
def rm0_X8_end : Room := { frames := 7, cells := 0, slots := 0, locals := 103 }
set_option maxHeartbeats 4000000 in
set_option maxRecDepth 100000 in
theorem km0_X8_end (l : Launch) (hl0 : l.stackTraces = false) {G : ka_G} (hI : ka_I G) {σ : ka_S} {v1 : Int32} {Q : Int32 → ka_S → Prop} (hq : kw_X8_end σ v1 Q (fun _ _ => False)) : kx_i l yX8_end (kw_ yX8_end cX8_end 2 (some .int)) rm0_X8_end 0 0 G [.ref (ka_a G (22, 0, 0)), .int v1] σ Q (fun _ _ => False) := by
  refine kx_of "GlossRows" rfl (by decide) (Nat.le_of_ble_eq_true rfl) ?_
  intro p e s m below meth c C0 hK hT hout H locs hP hS ls hl
  obtain ⟨hx, hb, -, hml, hown, hts, -⟩ := id C0
  have hl : lv_has ls 2 [(0, .ref (ka_a G (22, 0, 0))), (1, .int v1)] := hl
  unfold kw_X8_end at hq
  refine lv_aload_n hx hb dX8_end_0 rfl (lv_at hl 0 rfl) ?_
  refine lv_iload_n hx hb dX8_end_1 rfl (lv_at hl 1 rfl) ?_
  refine kx_Vv (k := (22, 0, 0)) (As := [.int v1]) (rest := []) C0 hK hT hout hP hS hl (km0_X8_requireWord l hl0 hI hq) kd_X8_requireWord kq_570 (kv_s (by decide) (by decide)) rfl rfl rfl ⟨rfl, rfl, Nat.le_of_ble_eq_true rfl, Nat.le_of_ble_eq_true rfl⟩ rfl (Nat.le_of_ble_eq_true rfl) dX8_end_2 ⟨Nat.le_of_ble_eq_true rfl, Nat.le_of_ble_eq_true rfl⟩ ⟨Nat.le_of_ble_eq_true rfl, Nat.le_of_ble_eq_true rfl⟩ (fun σ1 H locs hq hP hS => ?_)
  refine lv_aload_n hx hb dX8_end_5 rfl (lv_at hl 0 rfl) ?_
  refine kg_X8_history C0 hK hP (kv_s (by decide) (by decide)) kq_236 dX8_end_6 ?_
  refine lv_aload_n hx hb dX8_end_9 rfl (lv_at hl 0 rfl) ?_
  refine kg_X8_page C0 hK hP (kv_s (by decide) (by decide)) kq_233 dX8_end_10 ?_
  refine kr_Vv (k := (20, 0, 0)) (As := [.ref (ka_a G (0, 0, 0))]) (rest := []) C0 hK hP hS hl (km_X0_remember l hI (by decide) hq) kd_X0_remember kq_862 (kv_s (by decide) (by decide)) rfl rfl rfl ⟨rfl, rfl, Nat.le_of_ble_eq_true rfl, Nat.le_of_ble_eq_true rfl⟩ rfl (Nat.le_of_ble_eq_true rfl) dX8_end_13 ⟨Nat.le_of_ble_eq_true rfl, Nat.le_of_ble_eq_true rfl⟩ (fun σ2 H locs hq hP hS => ?_)
  refine lv_aload_n hx hb dX8_end_16 rfl (lv_at hl 0 rfl) ?_
  refine kg_X8_page C0 hK hP (kv_s (by decide) (by decide)) kq_233 dX8_end_17 ?_
  refine kg_X4_words C0 hK hP (kv_p (by decide) (by decide)) kq_150 dX8_end_20 ?_
  refine lv_iload_n hx hb dX8_end_23 rfl (lv_at hl 1 rfl) ?_
  obtain ⟨b3, hq⟩ := hq
  refine kr_aald (t := 3) C0 hK hP (kv_p (by decide) (by decide)) rfl rfl b3 rfl dX8_end_24 ?_
  refine lv_iconst (v := 1) hx hb dX8_end_25 (by decide) ?_
  refine kp_X7_ended C0 hK hI hP hS (kv_w (by decide) (by decide) (k_19 (by decide)) (vp_lt b3)) (by decide) kq_78 dX8_end_26 (fun H locs hP hS => ?_)
  obtain ⟨σ4, eσ4⟩ : ∃ z : ka_S, z = ka_wI σ2 (5, 0, v1.toNatClampNeg) 6 (1 : Int32) := ⟨_, rfl⟩
  rw [← eσ4] at hP
  have hq := hq σ4 eσ4
  refine lv_aload_n hx hb dX8_end_29 rfl (lv_at hl 0 rfl) ?_
  refine kg_X8_page C0 hK hP (kv_s (by decide) (by decide)) kq_233 dX8_end_30 ?_
  refine kr_Vi (k := (0, 0, 0)) (As := []) (rest := []) C0 hK hP hS hl (km_X4_countSentences l hI (by decide) hq) kd_X4_countSentences kq_498 (kv_p (by decide) (by decide)) rfl rfl rfl ⟨rfl, rfl, Nat.le_of_ble_eq_true rfl, Nat.le_of_ble_eq_true rfl⟩ rfl (Nat.le_of_ble_eq_true rfl) dX8_end_33 ⟨Nat.le_of_ble_eq_true rfl, Nat.le_of_ble_eq_true rfl⟩ (fun r6 σ5 H locs hq hP hS => ?_)
  exact W.widen (k := 0) (n := 0) (Nat.le_of_ble_eq_true rfl) (Nat.le_of_ble_eq_true rfl) (vx_ret (kr_iret C0 hK hP hS hq dX8_end_36))
/-! GlossRows.join(I)I (throws nothing) -/
def rm0_X8_join : Room := { frames := 7, cells := 0, slots := 0, locals := 103 }
set_option maxHeartbeats 4000000 in
set_option maxRecDepth 100000 in
theorem km0_X8_join (l : Launch) (hl0 : l.stackTraces = false) {G : ka_G} (hI : ka_I G) {σ : ka_S} {v1 : Int32} {Q : Int32 → ka_S → Prop} (hq : kw_X8_join σ v1 Q (fun _ _ => False)) : kx_i l yX8_join (kw_ yX8_join cX8_join 2 (some .int)) rm0_X8_join 0 0 G [.ref (ka_a G (22, 0, 0)), .int v1] σ Q (fun _ _ => False) := by
  refine kx_of "GlossRows" rfl (by decide) (Nat.le_of_ble_eq_true rfl) ?_
  intro p e s m below meth c C0 hK hT hout H locs hP hS ls hl
  obtain ⟨hx, hb, -, hml, hown, hts, -⟩ := id C0
  have hl : lv_has ls 2 [(0, .ref (ka_a G (22, 0, 0))), (1, .int v1)] := hl
  unfold kw_X8_join at hq
  refine lv_aload_n hx hb dX8_join_0 rfl (lv_at hl 0 rfl) ?_
  refine lv_iload_n hx hb dX8_join_1 rfl (lv_at hl 1 rfl) ?_
  refine kx_Vv (k := (22, 0, 0)) (As := [.int v1]) (rest := []) C0 hK hT hout hP hS hl (km0_X8_requireWord l hl0 hI hq) kd_X8_requireWord kq_570 (kv_s (by decide) (by decide)) rfl rfl rfl ⟨rfl, rfl, Nat.le_of_ble_eq_true rfl, Nat.le_of_ble_eq_true rfl⟩ rfl (Nat.le_of_ble_eq_true rfl) dX8_join_2 ⟨Nat.le_of_ble_eq_true rfl, Nat.le_of_ble_eq_true rfl⟩ ⟨Nat.le_of_ble_eq_true rfl, Nat.le_of_ble_eq_true rfl⟩ (fun σ1 H locs hq hP hS => ?_)
  refine lv_aload_n hx hb dX8_join_5 rfl (lv_at hl 0 rfl) ?_
  refine kg_X8_history C0 hK hP (kv_s (by decide) (by decide)) kq_236 dX8_join_6 ?_
  refine lv_aload_n hx hb dX8_join_9 rfl (lv_at hl 0 rfl) ?_
  refine kg_X8_page C0 hK hP (kv_s (by decide) (by decide)) kq_233 dX8_join_10 ?_
  refine kr_Vv (k := (20, 0, 0)) (As := [.ref (ka_a G (0, 0, 0))]) (rest := []) C0 hK hP hS hl (km_X0_remember l hI (by decide) hq) kd_X0_remember kq_862 (kv_s (by decide) (by decide)) rfl rfl rfl ⟨rfl, rfl, Nat.le_of_ble_eq_true rfl, Nat.le_of_ble_eq_true rfl⟩ rfl (Nat.le_of_ble_eq_true rfl) dX8_join_13 ⟨Nat.le_of_ble_eq_true rfl, Nat.le_of_ble_eq_true rfl⟩ (fun σ2 H locs hq hP hS => ?_)
  refine lv_aload_n hx hb dX8_join_16 rfl (lv_at hl 0 rfl) ?_
  refine kg_X8_page C0 hK hP (kv_s (by decide) (by decide)) kq_233 dX8_join_17 ?_
  refine kg_X4_words C0 hK hP (kv_p (by decide) (by decide)) kq_150 dX8_join_20 ?_
  refine lv_iload_n hx hb dX8_join_23 rfl (lv_at hl 1 rfl) ?_
  obtain ⟨b3, hq⟩ := hq
  refine kr_aald (t := 3) C0 hK hP (kv_p (by decide) (by decide)) rfl rfl b3 rfl dX8_join_24 ?_
  refine kr_Vv (k := (5, 0, v1.toNatClampNeg)) (As := []) (rest := []) C0 hK hP hS hl (km_X7_dropEnd l hI (k_19 (by decide)) (vp_lt b3) hq) kd_X7_dropEnd kq_802 (kv_w (by decide) (by decide) (k_19 (by decide)) (vp_lt b3)) rfl rfl rfl ⟨rfl, rfl, Nat.le_of_ble_eq_true rfl, Nat.le_of_ble_eq_true rfl⟩ rfl (Nat.le_of_ble_eq_true rfl) dX8_join_25 ⟨Nat.le_of_ble_eq_true rfl, Nat.le_of_ble_eq_true rfl⟩ (fun σ4 H locs hq hP hS => ?_)
  refine lv_aload_n hx hb dX8_join_28 rfl (lv_at hl 0 rfl) ?_
  refine kg_X8_page C0 hK hP (kv_s (by decide) (by decide)) kq_233 dX8_join_29 ?_
  refine kr_Vi (k := (0, 0, 0)) (As := []) (rest := []) C0 hK hP hS hl (km_X4_countSentences l hI (by decide) hq) kd_X4_countSentences kq_498 (kv_p (by decide) (by decide)) rfl rfl rfl ⟨rfl, rfl, Nat.le_of_ble_eq_true rfl, Nat.le_of_ble_eq_true rfl⟩ rfl (Nat.le_of_ble_eq_true rfl) dX8_join_32 ⟨Nat.le_of_ble_eq_true rfl, Nat.le_of_ble_eq_true rfl⟩ (fun r6 σ5 H locs hq hP hS => ?_)
  exact W.widen (k := 0) (n := 0) (Nat.le_of_ble_eq_true rfl) (Nat.le_of_ble_eq_true rfl) (vx_ret (kr_iret C0 hK hP hS hq dX8_join_35))
/-! GlossRows.setFree(I)I (throws nothing) -/
def rm0_X8_setFree : Room := { frames := 7, cells := 0, slots := 0, locals := 103 }
set_option maxHeartbeats 4000000 in
set_option maxRecDepth 100000 in
theorem km0_X8_setFree (l : Launch) (hl0 : l.stackTraces = false) {G : ka_G} (hI : ka_I G) {σ : ka_S} {v1 : Int32} {Q : Int32 → ka_S → Prop} (hq : kw_X8_setFree σ v1 Q (fun _ _ => False)) : kx_i l yX8_setFree (kw_ yX8_setFree cX8_setFree 2 (some .int)) rm0_X8_setFree 0 0 G [.ref (ka_a G (22, 0, 0)), .int v1] σ Q (fun _ _ => False) := by
  refine kx_of "GlossRows" rfl (by decide) (Nat.le_of_ble_eq_true rfl) ?_
  intro p e s m below meth c C0 hK hT hout H locs hP hS ls hl
  obtain ⟨hx, hb, -, hml, hown, hts, -⟩ := id C0
  have hl : lv_has ls 2 [(0, .ref (ka_a G (22, 0, 0))), (1, .int v1)] := hl
  unfold kw_X8_setFree at hq
  refine lv_aload_n hx hb dX8_setFree_0 rfl (lv_at hl 0 rfl) ?_
  refine lv_iload_n hx hb dX8_setFree_1 rfl (lv_at hl 1 rfl) ?_
  refine kx_Vv (k := (22, 0, 0)) (As := [.int v1]) (rest := []) C0 hK hT hout hP hS hl (km0_X8_requireWord l hl0 hI hq) kd_X8_requireWord kq_570 (kv_s (by decide) (by decide)) rfl rfl rfl ⟨rfl, rfl, Nat.le_of_ble_eq_true rfl, Nat.le_of_ble_eq_true rfl⟩ rfl (Nat.le_of_ble_eq_true rfl) dX8_setFree_2 ⟨Nat.le_of_ble_eq_true rfl, Nat.le_of_ble_eq_true rfl⟩ ⟨Nat.le_of_ble_eq_true rfl, Nat.le_of_ble_eq_true rfl⟩ (fun σ1 H locs hq hP hS => ?_)
  refine lv_aload_n hx hb dX8_setFree_5 rfl (lv_at hl 0 rfl) ?_
  refine kg_X8_text C0 hK hP (kv_s (by decide) (by decide)) kq_231 dX8_setFree_6 ?_
  refine kr_Vi (k := (10, 0, 0)) (As := []) (rest := []) C0 hK hP hS hl (km_X6_isFreeLine l hI hq) kd_X6_isFreeLine kq_895 (kv_s (by decide) (by decide)) rfl rfl rfl ⟨rfl, rfl, Nat.le_of_ble_eq_true rfl, Nat.le_of_ble_eq_true rfl⟩ rfl (Nat.le_of_ble_eq_true rfl) dX8_setFree_9 ⟨Nat.le_of_ble_eq_true rfl, Nat.le_of_ble_eq_true rfl⟩ (fun r3 σ2 H locs hq hP hS => ?_)
  refine lv_if_ne (tgt := 25) hx hb dX8_setFree_12 (by decide) (fun hc => ?_) (fun hc => ?_)
  · have hq := hq.2 hc
    refine lv_aload_n hx hb dX8_setFree_25 rfl (lv_at hl 0 rfl) ?_
    refine kg_X8_history C0 hK hP (kv_s (by decide) (by decide)) kq_236 dX8_setFree_26 ?_
    refine lv_aload_n hx hb dX8_setFree_29 rfl (lv_at hl 0 rfl) ?_
    refine kg_X8_page C0 hK hP (kv_s (by decide) (by decide)) kq_233 dX8_setFree_30 ?_
    refine kr_Vv (k := (20, 0, 0)) (As := [.ref (ka_a G (0, 0, 0))]) (rest := []) C0 hK hP hS hl (km_X0_remember l hI (by decide) hq) kd_X0_remember kq_862 (kv_s (by decide) (by decide)) rfl rfl rfl ⟨rfl, rfl, Nat.le_of_ble_eq_true rfl, Nat.le_of_ble_eq_true rfl⟩ rfl (Nat.le_of_ble_eq_true rfl) dX8_setFree_33 ⟨Nat.le_of_ble_eq_true rfl, Nat.le_of_ble_eq_true rfl⟩ (fun σ4 H locs hq hP hS => ?_)
    refine lv_aload_n hx hb dX8_setFree_36 rfl (lv_at hl 0 rfl) ?_
    refine kg_X8_page C0 hK hP (kv_s (by decide) (by decide)) kq_233 dX8_setFree_37 ?_
    refine kg_X4_words C0 hK hP (kv_p (by decide) (by decide)) kq_150 dX8_setFree_40 ?_
    refine lv_iload_n hx hb dX8_setFree_43 rfl (lv_at hl 1 rfl) ?_
    obtain ⟨b5, hq⟩ := hq
    refine kr_aald (t := 3) C0 hK hP (kv_p (by decide) (by decide)) rfl rfl b5 rfl dX8_setFree_44 ?_
    refine lv_aload_n hx hb dX8_setFree_45 rfl (lv_at hl 0 rfl) ?_
    refine kg_X8_text C0 hK hP (kv_s (by decide) (by decide)) kq_231 dX8_setFree_46 ?_
    refine kr_Vv (k := (5, 0, v1.toNatClampNeg)) (As := [.ref (ka_a G (10, 0, 0))]) (rest := []) C0 hK hP hS hl (km_X7_takeFree l hI (k_19 (by decide)) (vp_lt b5) hq) kd_X7_takeFree kq_900 (kv_w (by decide) (by decide) (k_19 (by decide)) (vp_lt b5)) rfl rfl rfl ⟨rfl, rfl, Nat.le_of_ble_eq_true rfl, Nat.le_of_ble_eq_true rfl⟩ rfl (Nat.le_of_ble_eq_true rfl) dX8_setFree_49 ⟨Nat.le_of_ble_eq_true rfl, Nat.le_of_ble_eq_true rfl⟩ (fun σ6 H locs hq hP hS => ?_)
    refine lv_aload_n hx hb dX8_setFree_52 rfl (lv_at hl 0 rfl) ?_
    refine kg_X8_page C0 hK hP (kv_s (by decide) (by decide)) kq_233 dX8_setFree_53 ?_
    refine kg_X4_words C0 hK hP (kv_p (by decide) (by decide)) kq_150 dX8_setFree_56 ?_
    refine lv_iload_n hx hb dX8_setFree_59 rfl (lv_at hl 1 rfl) ?_
    obtain ⟨b7, hq⟩ := hq
    refine kr_aald (t := 3) C0 hK hP (kv_p (by decide) (by decide)) rfl rfl b7 rfl dX8_setFree_60 ?_
    refine kg_X7_freeLength C0 hK hP (kv_w (by decide) (by decide) (k_19 (by decide)) (vp_lt b7)) kq_75 dX8_setFree_61 ?_
    exact W.widen (k := 0) (n := 0) (Nat.le_of_ble_eq_true rfl) (Nat.le_of_ble_eq_true rfl) (vx_ret (kr_iret C0 hK hP hS hq dX8_setFree_64))
  · have hq := hq.1 hc
    exact False.elim hq
/-! GlossRows.setGloss(II)I (throws nothing) -/
def rm0_X8_setGloss : Room := { frames := 7, cells := 0, slots := 0, locals := 104 }
set_option maxHeartbeats 4000000 in
set_option maxRecDepth 100000 in
theorem km0_X8_setGloss (l : Launch) (hl0 : l.stackTraces = false) {G : ka_G} (hI : ka_I G) {σ : ka_S} {v1 : Int32} {v2 : Int32} {Q : Int32 → ka_S → Prop} (hq : kw_X8_setGloss σ v1 v2 Q (fun _ _ => False)) : kx_i l yX8_setGloss (kw_ yX8_setGloss cX8_setGloss 3 (some .int)) rm0_X8_setGloss 0 0 G [.ref (ka_a G (22, 0, 0)), .int v1, .int v2] σ Q (fun _ _ => False) := by
  refine kx_of "GlossRows" rfl (by decide) (Nat.le_of_ble_eq_true rfl) ?_
  intro p e s m below meth c C0 hK hT hout H locs hP hS ls hl
  obtain ⟨hx, hb, -, hml, hown, hts, -⟩ := id C0
  have hl : lv_has ls 3 [(0, .ref (ka_a G (22, 0, 0))), (1, .int v1), (2, .int v2)] := hl
  unfold kw_X8_setGloss at hq
  refine lv_aload_n hx hb dX8_setGloss_0 rfl (lv_at hl 0 rfl) ?_
  refine lv_iload_n hx hb dX8_setGloss_1 rfl (lv_at hl 1 rfl) ?_
  refine lv_iload_n hx hb dX8_setGloss_2 rfl (lv_at hl 2 rfl) ?_
  refine kx_Vv (k := (22, 0, 0)) (As := [.int v1, .int v2]) (rest := []) C0 hK hT hout hP hS hl (km0_X8_requirePart l hl0 hI hq) kd_X8_requirePart kq_589 (kv_s (by decide) (by decide)) rfl rfl rfl ⟨rfl, rfl, Nat.le_of_ble_eq_true rfl, Nat.le_of_ble_eq_true rfl⟩ rfl (Nat.le_of_ble_eq_true rfl) dX8_setGloss_3 ⟨Nat.le_of_ble_eq_true rfl, Nat.le_of_ble_eq_true rfl⟩ ⟨Nat.le_of_ble_eq_true rfl, Nat.le_of_ble_eq_true rfl⟩ (fun σ1 H locs hq hP hS => ?_)
  refine lv_aload_n hx hb dX8_setGloss_6 rfl (lv_at hl 0 rfl) ?_
  refine kg_X8_text C0 hK hP (kv_s (by decide) (by decide)) kq_231 dX8_setGloss_7 ?_
  refine kr_Vi (k := (10, 0, 0)) (As := []) (rest := []) C0 hK hP hS hl (km_X6_isGloss l hI hq) kd_X6_isGloss kq_912 (kv_s (by decide) (by decide)) rfl rfl rfl ⟨rfl, rfl, Nat.le_of_ble_eq_true rfl, Nat.le_of_ble_eq_true rfl⟩ rfl (Nat.le_of_ble_eq_true rfl) dX8_setGloss_10 ⟨Nat.le_of_ble_eq_true rfl, Nat.le_of_ble_eq_true rfl⟩ (fun r3 σ2 H locs hq hP hS => ?_)
  refine lv_if_ne (tgt := 27) hx hb dX8_setGloss_13 (by decide) (fun hc => ?_) (fun hc => ?_)
  · have hq := hq.2 hc
    refine lv_aload_n hx hb dX8_setGloss_27 rfl (lv_at hl 0 rfl) ?_
    refine kg_X8_history C0 hK hP (kv_s (by decide) (by decide)) kq_236 dX8_setGloss_28 ?_
    refine lv_aload_n hx hb dX8_setGloss_31 rfl (lv_at hl 0 rfl) ?_
    refine kg_X8_page C0 hK hP (kv_s (by decide) (by decide)) kq_233 dX8_setGloss_32 ?_
    refine kr_Vv (k := (20, 0, 0)) (As := [.ref (ka_a G (0, 0, 0))]) (rest := []) C0 hK hP hS hl (km_X0_remember l hI (by decide) hq) kd_X0_remember kq_862 (kv_s (by decide) (by decide)) rfl rfl rfl ⟨rfl, rfl, Nat.le_of_ble_eq_true rfl, Nat.le_of_ble_eq_true rfl⟩ rfl (Nat.le_of_ble_eq_true rfl) dX8_setGloss_35 ⟨Nat.le_of_ble_eq_true rfl, Nat.le_of_ble_eq_true rfl⟩ (fun σ4 H locs hq hP hS => ?_)
    refine lv_aload_n hx hb dX8_setGloss_38 rfl (lv_at hl 0 rfl) ?_
    refine kg_X8_page C0 hK hP (kv_s (by decide) (by decide)) kq_233 dX8_setGloss_39 ?_
    refine kg_X4_words C0 hK hP (kv_p (by decide) (by decide)) kq_150 dX8_setGloss_42 ?_
    refine lv_iload_n hx hb dX8_setGloss_45 rfl (lv_at hl 1 rfl) ?_
    obtain ⟨b5, hq⟩ := hq
    refine kr_aald (t := 3) C0 hK hP (kv_p (by decide) (by decide)) rfl rfl b5 rfl dX8_setGloss_46 ?_
    refine kg_X7_glosses C0 hK hP (kv_w (by decide) (by decide) (k_19 (by decide)) (vp_lt b5)) kq_62 dX8_setGloss_47 ?_
    refine lv_iload_n hx hb dX8_setGloss_50 rfl (lv_at hl 2 rfl) ?_
    refine lv_aload_n hx hb dX8_setGloss_51 rfl (lv_at hl 0 rfl) ?_
    refine kg_X8_text C0 hK hP (kv_s (by decide) (by decide)) kq_231 dX8_setGloss_52 ?_
    refine kr_Vl (k := (10, 0, 0)) (As := []) (rest := [.int v2, .ref (ka_a G (7, 0, v1.toNatClampNeg))]) C0 hK hP hS hl (km_X6_letters l hI hq) kd_X6_letters kq_918 (kv_s (by decide) (by decide)) rfl rfl rfl ⟨rfl, rfl, Nat.le_of_ble_eq_true rfl, Nat.le_of_ble_eq_true rfl⟩ rfl (Nat.le_of_ble_eq_true rfl) dX8_setGloss_55 ⟨Nat.le_of_ble_eq_true rfl, Nat.le_of_ble_eq_true rfl⟩ (fun r7 σ6 H locs hq hP hS => ?_)
    obtain ⟨b8, hq⟩ := hq
    refine kr_last C0 hK hI hP hS (kv_w (by decide) (by decide) (k_19 (by decide)) (vp_lt b5)) (fun _ => rfl) b8 dX8_setGloss_58 (fun H locs hP hS => ?_)
    obtain ⟨σ9, eσ9⟩ : ∃ z : ka_S, z = ka_wL σ6 (7, 0, v1.toNatClampNeg) v2.toNatClampNeg r7 := ⟨_, rfl⟩
    rw [← eσ9] at hP
    have hq := hq σ9 eσ9
    refine lv_aload_n hx hb dX8_setGloss_59 rfl (lv_at hl 0 rfl) ?_
    refine kg_X8_page C0 hK hP (kv_s (by decide) (by decide)) kq_233 dX8_setGloss_60 ?_
    refine kr_Vi (k := (0, 0, 0)) (As := []) (rest := []) C0 hK hP hS hl (km_X4_countGaps l hI (by decide) hq) kd_X4_countGaps kq_490 (kv_p (by decide) (by decide)) rfl rfl rfl ⟨rfl, rfl, Nat.le_of_ble_eq_true rfl, Nat.le_of_ble_eq_true rfl⟩ rfl (Nat.le_of_ble_eq_true rfl) dX8_setGloss_63 ⟨Nat.le_of_ble_eq_true rfl, Nat.le_of_ble_eq_true rfl⟩ (fun r11 σ10 H locs hq hP hS => ?_)
    exact W.widen (k := 0) (n := 0) (Nat.le_of_ble_eq_true rfl) (Nat.le_of_ble_eq_true rfl) (vx_ret (kr_iret C0 hK hP hS hq dX8_setGloss_66))
  · have hq := hq.1 hc
    exact False.elim hq
/-! GlossRows.set(II)I (throws nothing) -/
def rm0_X8_set : Room := { frames := 6, cells := 0, slots := 0, locals := 82 }
set_option maxHeartbeats 4000000 in
set_option maxRecDepth 100000 in
theorem km0_X8_set (l : Launch) (hl0 : l.stackTraces = false) {G : ka_G} (hI : ka_I G) {σ : ka_S} {v1 : Int32} {v2 : Int32} {Q : Int32 → ka_S → Prop} (hq : kw_X8_set σ v1 v2 Q (fun _ _ => False)) : kx_i l yX8_set (kw_ yX8_set cX8_set 3 (some .int)) rm0_X8_set 0 0 G [.ref (ka_a G (22, 0, 0)), .int v1, .int v2] σ Q (fun _ _ => False) := by
  refine kx_of "GlossRows" rfl (by decide) (Nat.le_of_ble_eq_true rfl) ?_
  intro p e s m below meth c C0 hK hT hout H locs hP hS ls hl
  obtain ⟨hx, hb, -, hml, hown, hts, -⟩ := id C0
  have hl : lv_has ls 3 [(0, .ref (ka_a G (22, 0, 0))), (1, .int v1), (2, .int v2)] := hl
  unfold kw_X8_set at hq
  refine lv_iload_n hx hb dX8_set_0 rfl (lv_at hl 1 rfl) ?_
  refine lv_iload_n hx hb dX8_set_1 rfl (lv_at hl 2 rfl) ?_
  refine kr_Si (As := [.int v1, .int v2]) (rest := []) C0 hK hP hS hl (km_X4_allows l hI hq) kd_X4_allows kq_683 ⟨rfl, rfl, Nat.le_of_ble_eq_true rfl, Nat.le_of_ble_eq_true rfl⟩ rfl (Nat.le_of_ble_eq_true rfl) dX8_set_2 ⟨Nat.le_of_ble_eq_true rfl, Nat.le_of_ble_eq_true rfl⟩ (fun r2 σ1 H locs hq hP hS => ?_)
  refine lv_if_ne (tgt := 19) hx hb dX8_set_5 (by decide) (fun hc => ?_) (fun hc => ?_)
  · have hq := hq.2 hc
    refine lv_aload_n hx hb dX8_set_19 rfl (lv_at hl 0 rfl) ?_
    refine kg_X8_history C0 hK hP (kv_s (by decide) (by decide)) kq_236 dX8_set_20 ?_
    refine lv_aload_n hx hb dX8_set_23 rfl (lv_at hl 0 rfl) ?_
    refine kg_X8_page C0 hK hP (kv_s (by decide) (by decide)) kq_233 dX8_set_24 ?_
    refine kr_Vv (k := (20, 0, 0)) (As := [.ref (ka_a G (0, 0, 0))]) (rest := []) C0 hK hP hS hl (km_X0_remember l hI (by decide) hq) kd_X0_remember kq_862 (kv_s (by decide) (by decide)) rfl rfl rfl ⟨rfl, rfl, Nat.le_of_ble_eq_true rfl, Nat.le_of_ble_eq_true rfl⟩ rfl (Nat.le_of_ble_eq_true rfl) dX8_set_27 ⟨Nat.le_of_ble_eq_true rfl, Nat.le_of_ble_eq_true rfl⟩ (fun σ3 H locs hq hP hS => ?_)
    refine lv_aload_n hx hb dX8_set_30 rfl (lv_at hl 0 rfl) ?_
    refine kg_X8_page C0 hK hP (kv_s (by decide) (by decide)) kq_233 dX8_set_31 ?_
    refine lv_iload_n hx hb dX8_set_34 rfl (lv_at hl 1 rfl) ?_
    refine lv_iload_n hx hb dX8_set_35 rfl (lv_at hl 2 rfl) ?_
    refine kr_Vi (k := (0, 0, 0)) (As := [.int v1, .int v2]) (rest := []) C0 hK hP hS hl (km_X4_change l hI (by decide) hq) kd_X4_change kq_794 (kv_p (by decide) (by decide)) rfl rfl rfl ⟨rfl, rfl, Nat.le_of_ble_eq_true rfl, Nat.le_of_ble_eq_true rfl⟩ rfl (Nat.le_of_ble_eq_true rfl) dX8_set_36 ⟨Nat.le_of_ble_eq_true rfl, Nat.le_of_ble_eq_true rfl⟩ (fun r5 σ4 H locs hq hP hS => ?_)
    exact W.widen (k := 0) (n := 0) (Nat.le_of_ble_eq_true rfl) (Nat.le_of_ble_eq_true rfl) (vx_ret (kr_iret C0 hK hP hS hq dX8_set_39))
  · have hq := hq.1 hc
    exact False.elim hq
/-! GlossRows.learn(II)I (throws nothing) -/
def rm0_X8_learn : Room := { frames := 7, cells := 0, slots := 0, locals := 104 }
set_option maxHeartbeats 4000000 in
set_option maxRecDepth 100000 in
theorem km0_X8_learn (l : Launch) (hl0 : l.stackTraces = false) {G : ka_G} (hI : ka_I G) {σ : ka_S} {v1 : Int32} {v2 : Int32} {Q : Int32 → ka_S → Prop} (hq : kw_X8_learn σ v1 v2 Q (fun _ _ => False)) : kx_i l yX8_learn (kw_ yX8_learn cX8_learn 3 (some .int)) rm0_X8_learn 0 0 G [.ref (ka_a G (22, 0, 0)), .int v1, .int v2] σ Q (fun _ _ => False) := by
  refine kx_of "GlossRows" rfl (by decide) (Nat.le_of_ble_eq_true rfl) ?_
  intro p e s m below meth c C0 hK hT hout H locs hP hS ls hl
  obtain ⟨hx, hb, -, hml, hown, hts, -⟩ := id C0
  have hl : lv_has ls 3 [(0, .ref (ka_a G (22, 0, 0))), (1, .int v1), (2, .int v2)] := hl
  unfold kw_X8_learn at hq
  refine lv_aload_n hx hb dX8_learn_0 rfl (lv_at hl 0 rfl) ?_
  refine lv_iload_n hx hb dX8_learn_1 rfl (lv_at hl 1 rfl) ?_
  refine lv_iload_n hx hb dX8_learn_2 rfl (lv_at hl 2 rfl) ?_
  refine kx_Vv (k := (22, 0, 0)) (As := [.int v1, .int v2]) (rest := []) C0 hK hT hout hP hS hl (km0_X8_requirePart l hl0 hI hq) kd_X8_requirePart kq_589 (kv_s (by decide) (by decide)) rfl rfl rfl ⟨rfl, rfl, Nat.le_of_ble_eq_true rfl, Nat.le_of_ble_eq_true rfl⟩ rfl (Nat.le_of_ble_eq_true rfl) dX8_learn_3 ⟨Nat.le_of_ble_eq_true rfl, Nat.le_of_ble_eq_true rfl⟩ ⟨Nat.le_of_ble_eq_true rfl, Nat.le_of_ble_eq_true rfl⟩ (fun σ1 H locs hq hP hS => ?_)
  refine lv_aload_n hx hb dX8_learn_6 rfl (lv_at hl 0 rfl) ?_
  refine kg_X8_page C0 hK hP (kv_s (by decide) (by decide)) kq_233 dX8_learn_7 ?_
  refine lv_iload_n hx hb dX8_learn_10 rfl (lv_at hl 1 rfl) ?_
  refine lv_iload_n hx hb dX8_learn_11 rfl (lv_at hl 2 rfl) ?_
  refine kr_Vi (k := (0, 0, 0)) (As := [.int v1, .int v2]) (rest := []) C0 hK hP hS hl (km_X4_canLearn l hI (by decide) hq) kd_X4_canLearn kq_767 (kv_p (by decide) (by decide)) rfl rfl rfl ⟨rfl, rfl, Nat.le_of_ble_eq_true rfl, Nat.le_of_ble_eq_true rfl⟩ rfl (Nat.le_of_ble_eq_true rfl) dX8_learn_12 ⟨Nat.le_of_ble_eq_true rfl, Nat.le_of_ble_eq_true rfl⟩ (fun r3 σ2 H locs hq hP hS => ?_)
  refine lv_if_ne (tgt := 29) hx hb dX8_learn_15 (by decide) (fun hc => ?_) (fun hc => ?_)
  · have hq := hq.2 hc
    refine lv_aload_n hx hb dX8_learn_29 rfl (lv_at hl 0 rfl) ?_
    refine kg_X8_history C0 hK hP (kv_s (by decide) (by decide)) kq_236 dX8_learn_30 ?_
    refine lv_aload_n hx hb dX8_learn_33 rfl (lv_at hl 0 rfl) ?_
    refine kg_X8_page C0 hK hP (kv_s (by decide) (by decide)) kq_233 dX8_learn_34 ?_
    refine kr_Vv (k := (20, 0, 0)) (As := [.ref (ka_a G (0, 0, 0))]) (rest := []) C0 hK hP hS hl (km_X0_remember l hI (by decide) hq) kd_X0_remember kq_862 (kv_s (by decide) (by decide)) rfl rfl rfl ⟨rfl, rfl, Nat.le_of_ble_eq_true rfl, Nat.le_of_ble_eq_true rfl⟩ rfl (Nat.le_of_ble_eq_true rfl) dX8_learn_37 ⟨Nat.le_of_ble_eq_true rfl, Nat.le_of_ble_eq_true rfl⟩ (fun σ4 H locs hq hP hS => ?_)
    refine lv_aload_n hx hb dX8_learn_40 rfl (lv_at hl 0 rfl) ?_
    refine kg_X8_page C0 hK hP (kv_s (by decide) (by decide)) kq_233 dX8_learn_41 ?_
    refine lv_iload_n hx hb dX8_learn_44 rfl (lv_at hl 1 rfl) ?_
    refine lv_iload_n hx hb dX8_learn_45 rfl (lv_at hl 2 rfl) ?_
    refine kr_Vv (k := (0, 0, 0)) (As := [.int v1, .int v2]) (rest := []) C0 hK hP hS hl (km_X4_learnPart l hI (by decide) hq) kd_X4_learnPart kq_777 (kv_p (by decide) (by decide)) rfl rfl rfl ⟨rfl, rfl, Nat.le_of_ble_eq_true rfl, Nat.le_of_ble_eq_true rfl⟩ rfl (Nat.le_of_ble_eq_true rfl) dX8_learn_46 ⟨Nat.le_of_ble_eq_true rfl, Nat.le_of_ble_eq_true rfl⟩ (fun σ5 H locs hq hP hS => ?_)
    refine lv_aload_n hx hb dX8_learn_49 rfl (lv_at hl 0 rfl) ?_
    refine kg_X8_page C0 hK hP (kv_s (by decide) (by decide)) kq_233 dX8_learn_50 ?_
    refine kg_X4_lexicon C0 hK hP (kv_p (by decide) (by decide)) kq_152 dX8_learn_53 ?_
    refine kg_X3_size C0 hK hP (kv_p (by decide) (by decide)) kq_135 dX8_learn_56 ?_
    exact W.widen (k := 0) (n := 0) (Nat.le_of_ble_eq_true rfl) (Nat.le_of_ble_eq_true rfl) (vx_ret (kr_iret C0 hK hP hS hq dX8_learn_59))
  · have hq := hq.1 hc
    exact False.elim hq
/-! GlossRows.forget(I)I (throws nothing) -/
def rm0_X8_forget : Room := { frames := 7, cells := 0, slots := 0, locals := 103 }
set_option maxHeartbeats 4000000 in
set_option maxRecDepth 100000 in
theorem km0_X8_forget (l : Launch) (hl0 : l.stackTraces = false) {G : ka_G} (hI : ka_I G) {σ : ka_S} {v1 : Int32} {Q : Int32 → ka_S → Prop} (hq : kw_X8_forget σ v1 Q (fun _ _ => False)) : kx_i l yX8_forget (kw_ yX8_forget cX8_forget 2 (some .int)) rm0_X8_forget 0 0 G [.ref (ka_a G (22, 0, 0)), .int v1] σ Q (fun _ _ => False) := by
  refine kx_of "GlossRows" rfl (by decide) (Nat.le_of_ble_eq_true rfl) ?_
  intro p e s m below meth c C0 hK hT hout H locs hP hS ls hl
  obtain ⟨hx, hb, -, hml, hown, hts, -⟩ := id C0
  have hl : lv_has ls 2 [(0, .ref (ka_a G (22, 0, 0))), (1, .int v1)] := hl
  unfold kw_X8_forget at hq
  refine lv_aload_n hx hb dX8_forget_0 rfl (lv_at hl 0 rfl) ?_
  refine lv_iload_n hx hb dX8_forget_1 rfl (lv_at hl 1 rfl) ?_
  refine kx_Vv (k := (22, 0, 0)) (As := [.int v1]) (rest := []) C0 hK hT hout hP hS hl (km0_X8_requireEntry l hl0 hI hq) kd_X8_requireEntry kq_627 (kv_s (by decide) (by decide)) rfl rfl rfl ⟨rfl, rfl, Nat.le_of_ble_eq_true rfl, Nat.le_of_ble_eq_true rfl⟩ rfl (Nat.le_of_ble_eq_true rfl) dX8_forget_2 ⟨Nat.le_of_ble_eq_true rfl, Nat.le_of_ble_eq_true rfl⟩ ⟨Nat.le_of_ble_eq_true rfl, Nat.le_of_ble_eq_true rfl⟩ (fun σ1 H locs hq hP hS => ?_)
  refine lv_aload_n hx hb dX8_forget_5 rfl (lv_at hl 0 rfl) ?_
  refine kg_X8_history C0 hK hP (kv_s (by decide) (by decide)) kq_236 dX8_forget_6 ?_
  refine lv_aload_n hx hb dX8_forget_9 rfl (lv_at hl 0 rfl) ?_
  refine kg_X8_page C0 hK hP (kv_s (by decide) (by decide)) kq_233 dX8_forget_10 ?_
  refine kr_Vv (k := (20, 0, 0)) (As := [.ref (ka_a G (0, 0, 0))]) (rest := []) C0 hK hP hS hl (km_X0_remember l hI (by decide) hq) kd_X0_remember kq_862 (kv_s (by decide) (by decide)) rfl rfl rfl ⟨rfl, rfl, Nat.le_of_ble_eq_true rfl, Nat.le_of_ble_eq_true rfl⟩ rfl (Nat.le_of_ble_eq_true rfl) dX8_forget_13 ⟨Nat.le_of_ble_eq_true rfl, Nat.le_of_ble_eq_true rfl⟩ (fun σ2 H locs hq hP hS => ?_)
  refine lv_aload_n hx hb dX8_forget_16 rfl (lv_at hl 0 rfl) ?_
  refine kg_X8_page C0 hK hP (kv_s (by decide) (by decide)) kq_233 dX8_forget_17 ?_
  refine kg_X4_lexicon C0 hK hP (kv_p (by decide) (by decide)) kq_152 dX8_forget_20 ?_
  refine lv_iload_n hx hb dX8_forget_23 rfl (lv_at hl 1 rfl) ?_
  refine kr_Vv (k := (2, 0, 0)) (As := [.int v1]) (rest := []) C0 hK hP hS hl (km_X3_drop l hI (by decide) hq) kd_X3_drop kq_946 (kv_p (by decide) (by decide)) rfl rfl rfl ⟨rfl, rfl, Nat.le_of_ble_eq_true rfl, Nat.le_of_ble_eq_true rfl⟩ rfl (Nat.le_of_ble_eq_true rfl) dX8_forget_24 ⟨Nat.le_of_ble_eq_true rfl, Nat.le_of_ble_eq_true rfl⟩ (fun σ3 H locs hq hP hS => ?_)
  refine lv_aload_n hx hb dX8_forget_27 rfl (lv_at hl 0 rfl) ?_
  refine kg_X8_page C0 hK hP (kv_s (by decide) (by decide)) kq_233 dX8_forget_28 ?_
  refine kg_X4_lexicon C0 hK hP (kv_p (by decide) (by decide)) kq_152 dX8_forget_31 ?_
  refine kg_X3_size C0 hK hP (kv_p (by decide) (by decide)) kq_135 dX8_forget_34 ?_
  exact W.widen (k := 0) (n := 0) (Nat.le_of_ble_eq_true rfl) (Nat.le_of_ble_eq_true rfl) (vx_ret (kr_iret C0 hK hP hS hq dX8_forget_37))
/-! GlossRows.undo()I (throws nothing) -/
def rm0_X8_undo : Room := { frames := 6, cells := 0, slots := 0, locals := 82 }
set_option maxHeartbeats 4000000 in
set_option maxRecDepth 100000 in
theorem km0_X8_undo (l : Launch) (hl0 : l.stackTraces = false) {G : ka_G} (hI : ka_I G) {σ : ka_S} {Q : Int32 → ka_S → Prop} (hq : kw_X8_undo σ Q (fun _ _ => False)) : kx_i l yX8_undo (kw_ yX8_undo cX8_undo 1 (some .int)) rm0_X8_undo 0 0 G [.ref (ka_a G (22, 0, 0))] σ Q (fun _ _ => False) := by
  refine kx_of "GlossRows" rfl (by decide) (Nat.le_of_ble_eq_true rfl) ?_
  intro p e s m below meth c C0 hK hT hout H locs hP hS ls hl
  obtain ⟨hx, hb, -, hml, hown, hts, -⟩ := id C0
  have hl : lv_has ls 1 [(0, .ref (ka_a G (22, 0, 0)))] := hl
  unfold kw_X8_undo at hq
  refine lv_aload_n hx hb dX8_undo_0 rfl (lv_at hl 0 rfl) ?_
  refine kg_X8_history C0 hK hP (kv_s (by decide) (by decide)) kq_236 dX8_undo_1 ?_
  refine kg_X0_count C0 hK hP (kv_s (by decide) (by decide)) kq_222 dX8_undo_4 ?_
  refine lv_if_ne (tgt := 21) hx hb dX8_undo_7 (by decide) (fun hc => ?_) (fun hc => ?_)
  · have hq := hq.2 hc
    refine lv_aload_n hx hb dX8_undo_21 rfl (lv_at hl 0 rfl) ?_
    refine kg_X8_history C0 hK hP (kv_s (by decide) (by decide)) kq_236 dX8_undo_22 ?_
    refine lv_aload_n hx hb dX8_undo_25 rfl (lv_at hl 0 rfl) ?_
    refine kg_X8_page C0 hK hP (kv_s (by decide) (by decide)) kq_233 dX8_undo_26 ?_
    refine kr_Vv (k := (20, 0, 0)) (As := [.ref (ka_a G (0, 0, 0))]) (rest := []) C0 hK hP hS hl (km_X0_takeBack l hI (by decide) hq) kd_X0_takeBack kq_974 (kv_s (by decide) (by decide)) rfl rfl rfl ⟨rfl, rfl, Nat.le_of_ble_eq_true rfl, Nat.le_of_ble_eq_true rfl⟩ rfl (Nat.le_of_ble_eq_true rfl) dX8_undo_29 ⟨Nat.le_of_ble_eq_true rfl, Nat.le_of_ble_eq_true rfl⟩ (fun σ1 H locs hq hP hS => ?_)
    refine lv_aload_n hx hb dX8_undo_32 rfl (lv_at hl 0 rfl) ?_
    refine kg_X8_history C0 hK hP (kv_s (by decide) (by decide)) kq_236 dX8_undo_33 ?_
    refine kg_X0_count C0 hK hP (kv_s (by decide) (by decide)) kq_222 dX8_undo_36 ?_
    exact W.widen (k := 0) (n := 0) (Nat.le_of_ble_eq_true rfl) (Nat.le_of_ble_eq_true rfl) (vx_ret (kr_iret C0 hK hP hS hq dX8_undo_39))
  · have hq := hq.1 hc
    exact False.elim hq
/-! GlossRows.gap(I)I (throws nothing) -/
def rm0_X8_gap : Room := { frames := 7, cells := 0, slots := 0, locals := 103 }
set_option maxHeartbeats 4000000 in
set_option maxRecDepth 100000 in
theorem km0_X8_gap (l : Launch) (hl0 : l.stackTraces = false) {G : ka_G} (hI : ka_I G) {σ : ka_S} {v1 : Int32} {Q : Int32 → ka_S → Prop} (hq : kw_X8_gap σ v1 Q (fun _ _ => False)) : kx_i l yX8_gap (kw_ yX8_gap cX8_gap 2 (some .int)) rm0_X8_gap 0 0 G [.ref (ka_a G (22, 0, 0)), .int v1] σ Q (fun _ _ => False) := by
  refine kx_of "GlossRows" rfl (by decide) (Nat.le_of_ble_eq_true rfl) ?_
  intro p e s m below meth c C0 hK hT hout H locs hP hS ls hl
  obtain ⟨hx, hb, -, hml, hown, hts, -⟩ := id C0
  have hl : lv_has ls 2 [(0, .ref (ka_a G (22, 0, 0))), (1, .int v1)] := hl
  unfold kw_X8_gap at hq
  refine lv_aload_n hx hb dX8_gap_0 rfl (lv_at hl 0 rfl) ?_
  refine lv_iload_n hx hb dX8_gap_1 rfl (lv_at hl 1 rfl) ?_
  refine kx_Vv (k := (22, 0, 0)) (As := [.int v1]) (rest := []) C0 hK hT hout hP hS hl (km0_X8_requireNotNegative l hl0 hI hq) kd_X8_requireNotNegative kq_599 (kv_s (by decide) (by decide)) rfl rfl rfl ⟨rfl, rfl, Nat.le_of_ble_eq_true rfl, Nat.le_of_ble_eq_true rfl⟩ rfl (Nat.le_of_ble_eq_true rfl) dX8_gap_2 ⟨Nat.le_of_ble_eq_true rfl, Nat.le_of_ble_eq_true rfl⟩ ⟨Nat.le_of_ble_eq_true rfl, Nat.le_of_ble_eq_true rfl⟩ (fun σ1 H locs hq hP hS => ?_)
  refine lv_aload_n hx hb dX8_gap_5 rfl (lv_at hl 0 rfl) ?_
  refine kg_X8_page C0 hK hP (kv_s (by decide) (by decide)) kq_233 dX8_gap_6 ?_
  refine lv_iload_n hx hb dX8_gap_9 rfl (lv_at hl 1 rfl) ?_
  refine kr_Vi (k := (0, 0, 0)) (As := [.int v1]) (rest := []) C0 hK hP hS hl (km_X4_placeOfGap l hI (by decide) hq) kd_X4_placeOfGap kq_643 (kv_p (by decide) (by decide)) rfl rfl rfl ⟨rfl, rfl, Nat.le_of_ble_eq_true rfl, Nat.le_of_ble_eq_true rfl⟩ rfl (Nat.le_of_ble_eq_true rfl) dX8_gap_10 ⟨Nat.le_of_ble_eq_true rfl, Nat.le_of_ble_eq_true rfl⟩ (fun r3 σ2 H locs hq hP hS => ?_)
  exact W.widen (k := 0) (n := 0) (Nat.le_of_ble_eq_true rfl) (Nat.le_of_ble_eq_true rfl) (vx_ret (kr_iret C0 hK hP hS hq dX8_gap_13))
/-! GlossRows.widthFor(I)I (throws nothing) -/
def rm0_X8_widthFor : Room := { frames := 6, cells := 0, slots := 0, locals := 115 }
set_option maxHeartbeats 4000000 in
set_option maxRecDepth 100000 in
theorem kb0_X8_widthFor_42 {p : Program} {l : Launch} {e : Env} {s : State} {m : MethodId} {args : Array Value} {below : List Frame} {meth : Method} {c : Code} {G : ka_G} (hI : ka_I G) (C0 : ka_C p s m args meth c cX8_widthFor 3 "GlossRows" (some .int)) (hK : ka_Kn G s) {Q : Int32 → ka_S → Prop} : ∀ (n : Nat) (σ : ka_S) (v1 : Int32) (v2 : Int32), kw_X8_widthFor_42 Q (fun _ _ => False) n σ v1 v2 → ∀ (H : Heap) (locs : List Loc), ka_P G σ H → va_S (ka_A G) s.heap H locs → ∀ ls : Array Slot, lv_has ls 3 [(0, .ref (ka_a G (22, 0, 0))), (1, .int v1), (2, .int v2)] → W p l e rm0_X8_widthFor s m args below meth c H locs 0 0 (vx_MQ below (va_Qi Q (ka_B G) (ka_A G)) (ka_XC G (fun _ _ => False)) args s 0 0 (ka_A G)) (F0 m 42 ls []) := by
  obtain ⟨hx, hb, -, hml, hown, hts, -⟩ := id C0
  intro n
  induction n with
  | zero =>
    intro σ v1 v2 hq
    rw [kw_X8_widthFor_42] at hq
    exact hq.elim
  | succ n ih =>
    intro σ v1 v2 hq H locs hP hS ls hl
    rw [kw_X8_widthFor_42] at hq
    refine lv_iload_n hx hb dX8_widthFor_42 rfl (lv_at hl 2 rfl) ?_
    refine lv_bipush (v := 60) hx hb dX8_widthFor_43 (by decide) ?_
    refine lv_icmp_gt (tgt := 79) hx hb dX8_widthFor_45 (by decide) (fun hc => ?_) (fun hc => ?_)
    · have hq := hq.1 hc
      refine lv_bipush (v := -9) hx hb dX8_widthFor_79 (by decide) ?_
      exact W.widen (k := 0) (n := 0) (Nat.le_of_ble_eq_true rfl) (Nat.le_of_ble_eq_true rfl) (vx_ret (kr_iret C0 hK hP hS hq dX8_widthFor_81))
    · have hq := hq.2 hc
      refine lv_aload_n hx hb dX8_widthFor_48 rfl (lv_at hl 0 rfl) ?_
      refine kg_X8_layout C0 hK hP (kv_s (by decide) (by decide)) kq_235 dX8_widthFor_49 ?_
      refine lv_aload_n hx hb dX8_widthFor_52 rfl (lv_at hl 0 rfl) ?_
      refine kg_X8_page C0 hK hP (kv_s (by decide) (by decide)) kq_233 dX8_widthFor_53 ?_
      refine lv_iload_n hx hb dX8_widthFor_56 rfl (lv_at hl 2 rfl) ?_
      refine kr_Vv (k := (12, 0, 0)) (As := [.ref (ka_a G (0, 0, 0)), .int v2]) (rest := []) C0 hK hP hS hl (km_X1_wrap l hI (by decide) hq) kd_X1_wrap kq_523 (kv_s (by decide) (by decide)) rfl rfl rfl ⟨rfl, rfl, Nat.le_of_ble_eq_true rfl, Nat.le_of_ble_eq_true rfl⟩ rfl (Nat.le_of_ble_eq_true rfl) dX8_widthFor_57 ⟨Nat.le_of_ble_eq_true rfl, Nat.le_of_ble_eq_true rfl⟩ (fun σ3 H locs hq hP hS => ?_)
      refine lv_aload_n hx hb dX8_widthFor_60 rfl (lv_at hl 0 rfl) ?_
      refine kg_X8_layout C0 hK hP (kv_s (by decide) (by decide)) kq_235 dX8_widthFor_61 ?_
      refine kg_X1_rowCount C0 hK hP (kv_s (by decide) (by decide)) kq_193 dX8_widthFor_64 ?_
      refine lv_iload_n hx hb dX8_widthFor_67 rfl (lv_at hl 1 rfl) ?_
      refine lv_icmp_gt (tgt := 73) hx hb dX8_widthFor_68 (by decide) (fun hc => ?_) (fun hc => ?_)
      · have hq := hq.1 hc
        obtain ⟨x4, ex4⟩ : ∃ y : Int32, y = v2 + (1 : Int32) := ⟨_, rfl⟩
        have hq := hq x4 ex4
        refine lv_iinc (v := x4) (lv' := [(2, .int x4), (0, .ref (ka_a G (22, 0, 0))), (1, .int v1)]) hx hb dX8_widthFor_73 hl (k := 2) rfl (by rw [ex4]; rfl) (by decide) rfl (fun ls hl => ?_)
        refine lv_goto (tgt := 42) hx hb dX8_widthFor_76 (by decide) ?_
        exact ih σ3 v1 x4 hq H locs hP hS ls (lv_sub hl [1, 2, 0] rfl)
      · have hq := hq.2 hc
        refine lv_iload_n hx hb dX8_widthFor_71 rfl (lv_at hl 2 rfl) ?_
        exact W.widen (k := 0) (n := 0) (Nat.le_of_ble_eq_true rfl) (Nat.le_of_ble_eq_true rfl) (vx_ret (kr_iret C0 hK hP hS hq dX8_widthFor_72))
set_option maxHeartbeats 4000000 in
set_option maxRecDepth 100000 in
theorem km0_X8_widthFor (l : Launch) (hl0 : l.stackTraces = false) {G : ka_G} (hI : ka_I G) {σ : ka_S} {v1 : Int32} {Q : Int32 → ka_S → Prop} (hq : kw_X8_widthFor σ v1 Q (fun _ _ => False)) : kx_i l yX8_widthFor (kw_ yX8_widthFor cX8_widthFor 3 (some .int)) rm0_X8_widthFor 0 0 G [.ref (ka_a G (22, 0, 0)), .int v1] σ Q (fun _ _ => False) := by
  refine kx_of "GlossRows" rfl (by decide) (Nat.le_of_ble_eq_true rfl) ?_
  intro p e s m below meth c C0 hK hT hout H locs hP hS ls hl
  obtain ⟨hx, hb, -, hml, hown, hts, -⟩ := id C0
  have hl : lv_has ls 3 [(0, .ref (ka_a G (22, 0, 0))), (1, .int v1)] := hl
  unfold kw_X8_widthFor at hq
  refine lv_iload_n hx hb dX8_widthFor_0 rfl (lv_at hl 1 rfl) ?_
  refine lv_if_lt (tgt := 10) hx hb dX8_widthFor_1 (by decide) (fun hc => ?_) (fun hc => ?_)
  · have hq := hq.1 hc
    exact False.elim hq
  · have hq := hq.2 hc
    refine lv_iload_n hx hb dX8_widthFor_4 rfl (lv_at hl 1 rfl) ?_
    refine lv_bipush (v := 99) hx hb dX8_widthFor_5 (by decide) ?_
    refine lv_icmp_le (tgt := 21) hx hb dX8_widthFor_7 (by decide) (fun hc => ?_) (fun hc => ?_)
    · have hq := hq.1 hc
      refine lv_aload_n hx hb dX8_widthFor_21 rfl (lv_at hl 0 rfl) ?_
      refine kg_X8_layout C0 hK hP (kv_s (by decide) (by decide)) kq_235 dX8_widthFor_22 ?_
      refine lv_aload_n hx hb dX8_widthFor_25 rfl (lv_at hl 0 rfl) ?_
      refine kg_X8_page C0 hK hP (kv_s (by decide) (by decide)) kq_233 dX8_widthFor_26 ?_
      refine lv_aload_n hx hb dX8_widthFor_29 rfl (lv_at hl 0 rfl) ?_
      refine kg_X8_page C0 hK hP (kv_s (by decide) (by decide)) kq_233 dX8_widthFor_30 ?_
      refine kg_X4_way C0 hK hP (kv_p (by decide) (by decide)) kq_163 dX8_widthFor_33 ?_
      refine kr_Vv (k := (12, 0, 0)) (As := [.ref (ka_a G (0, 0, 0)), .int (σ.1 (0, 0, 0) 5)]) (rest := []) C0 hK hP hS hl (km_X1_measure l hI (by decide) hq) kd_X1_measure kq_506 (kv_s (by decide) (by decide)) rfl rfl rfl ⟨rfl, rfl, Nat.le_of_ble_eq_true rfl, Nat.le_of_ble_eq_true rfl⟩ rfl (Nat.le_of_ble_eq_true rfl) dX8_widthFor_36 ⟨Nat.le_of_ble_eq_true rfl, Nat.le_of_ble_eq_true rfl⟩ (fun σ1 H locs hq hP hS => ?_)
      refine lv_bipush (v := 10) hx hb dX8_widthFor_39 (by decide) ?_
      refine lv_istore_n (lv' := [(2, .int (10 : Int32)), (0, .ref (ka_a G (22, 0, 0))), (1, .int v1)]) hx hb dX8_widthFor_41 rfl hl (by decide) rfl (fun ls hl => ?_)
      obtain ⟨n2, hq⟩ := hq
      refine W.widen (k := 0) (n := 0) (Nat.le_of_ble_eq_true rfl) (Nat.le_of_ble_eq_true rfl) ?_
      exact kb0_X8_widthFor_42 hI C0 hK n2 σ1 v1 (10 : Int32) hq H locs hP hS ls (lv_sub hl [1, 2, 0] rfl)
    · have hq := hq.2 hc
      exact False.elim hq
/-! GlossRows.rowsWith(II)I (throws nothing) -/
def rm0_X8_rowsWith : Room := { frames := 6, cells := 0, slots := 0, locals := 115 }
set_option maxHeartbeats 4000000 in
set_option maxRecDepth 100000 in
theorem km0_X8_rowsWith (l : Launch) (hl0 : l.stackTraces = false) {G : ka_G} (hI : ka_I G) {σ : ka_S} {v1 : Int32} {v2 : Int32} {Q : Int32 → ka_S → Prop} (hq : kw_X8_rowsWith σ v1 v2 Q (fun _ _ => False)) : kx_i l yX8_rowsWith (kw_ yX8_rowsWith cX8_rowsWith 3 (some .int)) rm0_X8_rowsWith 0 0 G [.ref (ka_a G (22, 0, 0)), .int v1, .int v2] σ Q (fun _ _ => False) := by
  refine kx_of "GlossRows" rfl (by decide) (Nat.le_of_ble_eq_true rfl) ?_
  intro p e s m below meth c C0 hK hT hout H locs hP hS ls hl
  obtain ⟨hx, hb, -, hml, hown, hts, -⟩ := id C0
  have hl : lv_has ls 3 [(0, .ref (ka_a G (22, 0, 0))), (1, .int v1), (2, .int v2)] := hl
  unfold kw_X8_rowsWith at hq
  refine lv_bipush (v := 9) hx hb dX8_rowsWith_0 (by decide) ?_
  refine lv_iload_n hx hb dX8_rowsWith_2 rfl (lv_at hl 1 rfl) ?_
  refine kr_Si (As := [.int (9 : Int32), .int v1]) (rest := []) C0 hK hP hS hl (km_X4_allows l hI hq) kd_X4_allows kq_683 ⟨rfl, rfl, Nat.le_of_ble_eq_true rfl, Nat.le_of_ble_eq_true rfl⟩ rfl (Nat.le_of_ble_eq_true rfl) dX8_rowsWith_3 ⟨Nat.le_of_ble_eq_true rfl, Nat.le_of_ble_eq_true rfl⟩ (fun r2 σ1 H locs hq hP hS => ?_)
  refine lv_if_eq (tgt := 18) hx hb dX8_rowsWith_6 (by decide) (fun hc => ?_) (fun hc => ?_)
  · have hq := hq.1 hc
    exact False.elim hq
  · have hq := hq.2 hc
    refine lv_bipush (v := 11) hx hb dX8_rowsWith_9 (by decide) ?_
    refine lv_iload_n hx hb dX8_rowsWith_11 rfl (lv_at hl 2 rfl) ?_
    refine kr_Si (As := [.int (11 : Int32), .int v2]) (rest := []) C0 hK hP hS hl (km_X4_allows l hI hq) kd_X4_allows kq_683 ⟨rfl, rfl, Nat.le_of_ble_eq_true rfl, Nat.le_of_ble_eq_true rfl⟩ rfl (Nat.le_of_ble_eq_true rfl) dX8_rowsWith_12 ⟨Nat.le_of_ble_eq_true rfl, Nat.le_of_ble_eq_true rfl⟩ (fun r4 σ3 H locs hq hP hS => ?_)
    refine lv_if_ne (tgt := 29) hx hb dX8_rowsWith_15 (by decide) (fun hc => ?_) (fun hc => ?_)
    · have hq := hq.2 hc
      refine lv_aload_n hx hb dX8_rowsWith_29 rfl (lv_at hl 0 rfl) ?_
      refine kg_X8_layout C0 hK hP (kv_s (by decide) (by decide)) kq_235 dX8_rowsWith_30 ?_
      refine lv_aload_n hx hb dX8_rowsWith_33 rfl (lv_at hl 0 rfl) ?_
      refine kg_X8_page C0 hK hP (kv_s (by decide) (by decide)) kq_233 dX8_rowsWith_34 ?_
      refine lv_iload_n hx hb dX8_rowsWith_37 rfl (lv_at hl 2 rfl) ?_
      refine kr_Vv (k := (12, 0, 0)) (As := [.ref (ka_a G (0, 0, 0)), .int v2]) (rest := []) C0 hK hP hS hl (km_X1_measure l hI (by decide) hq) kd_X1_measure kq_506 (kv_s (by decide) (by decide)) rfl rfl rfl ⟨rfl, rfl, Nat.le_of_ble_eq_true rfl, Nat.le_of_ble_eq_true rfl⟩ rfl (Nat.le_of_ble_eq_true rfl) dX8_rowsWith_38 ⟨Nat.le_of_ble_eq_true rfl, Nat.le_of_ble_eq_true rfl⟩ (fun σ5 H locs hq hP hS => ?_)
      refine lv_aload_n hx hb dX8_rowsWith_41 rfl (lv_at hl 0 rfl) ?_
      refine kg_X8_layout C0 hK hP (kv_s (by decide) (by decide)) kq_235 dX8_rowsWith_42 ?_
      refine lv_aload_n hx hb dX8_rowsWith_45 rfl (lv_at hl 0 rfl) ?_
      refine kg_X8_page C0 hK hP (kv_s (by decide) (by decide)) kq_233 dX8_rowsWith_46 ?_
      refine lv_iload_n hx hb dX8_rowsWith_49 rfl (lv_at hl 1 rfl) ?_
      refine kr_Vv (k := (12, 0, 0)) (As := [.ref (ka_a G (0, 0, 0)), .int v1]) (rest := []) C0 hK hP hS hl (km_X1_wrap l hI (by decide) hq) kd_X1_wrap kq_523 (kv_s (by decide) (by decide)) rfl rfl rfl ⟨rfl, rfl, Nat.le_of_ble_eq_true rfl, Nat.le_of_ble_eq_true rfl⟩ rfl (Nat.le_of_ble_eq_true rfl) dX8_rowsWith_50 ⟨Nat.le_of_ble_eq_true rfl, Nat.le_of_ble_eq_true rfl⟩ (fun σ6 H locs hq hP hS => ?_)
      refine lv_aload_n hx hb dX8_rowsWith_53 rfl (lv_at hl 0 rfl) ?_
      refine kg_X8_layout C0 hK hP (kv_s (by decide) (by decide)) kq_235 dX8_rowsWith_54 ?_
      refine kg_X1_rowCount C0 hK hP (kv_s (by decide) (by decide)) kq_193 dX8_rowsWith_57 ?_
      exact W.widen (k := 0) (n := 0) (Nat.le_of_ble_eq_true rfl) (Nat.le_of_ble_eq_true rfl) (vx_ret (kr_iret C0 hK hP hS hq dX8_rowsWith_60))
    · have hq := hq.1 hc
      exact False.elim hq
/-! GlossRows.runScript(IJ)I (throws nothing) -/
def rm0_X8_runScript : Room := { frames := 7, cells := 0, slots := 0, locals := 160 }
set_option maxHeartbeats 4000000 in
set_option maxRecDepth 100000 in
theorem kb0_X8_runScript_62 {p : Program} {l : Launch} {e : Env} {s : State} {m : MethodId} {args : Array Value} {below : List Frame} {meth : Method} {c : Code} {G : ka_G} (hI : ka_I G) (C0 : ka_C p s m args meth c cX8_runScript 5 "GlossRows" (some .int)) (hK : ka_Kn G s) {Q : Int32 → ka_S → Prop} : ∀ (n : Nat) (σ : ka_S) (v1 : Int32) (v2 : Int64) (v4 : Int32), kw_X8_runScript_62 Q (fun _ _ => False) n σ v1 v2 v4 → ∀ (H : Heap) (locs : List Loc), ka_P G σ H → va_S (ka_A G) s.heap H locs → ∀ ls : Array Slot, lv_has ls 5 [(0, .ref (ka_a G (22, 0, 0))), (1, .int v1), (2, .long v2), (4, .int v4)] → W p l e rm0_X8_runScript s m args below meth c H locs 0 0 (vx_MQ below (va_Qi Q (ka_B G) (ka_A G)) (ka_XC G (fun _ _ => False)) args s 0 0 (ka_A G)) (F0 m 62 ls []) := by
  obtain ⟨hx, hb, -, hml, hown, hts, -⟩ := id C0
  intro n
  induction n with
  | zero =>
    intro σ v1 v2 v4 hq
    rw [kw_X8_runScript_62] at hq
    exact hq.elim
  | succ n ih =>
    intro σ v1 v2 v4 hq H locs hP hS ls hl
    rw [kw_X8_runScript_62] at hq
    refine lv_iload hx hb dX8_runScript_62 (lv_at hl 3 rfl) ?_
    refine lv_iload_n hx hb dX8_runScript_64 rfl (lv_at hl 1 rfl) ?_
    refine lv_icmp_ge (tgt := 99) hx hb dX8_runScript_65 (by decide) (fun hc => ?_) (fun hc => ?_)
    · have hq := hq.1 hc
      refine lv_bipush (v := -9) hx hb dX8_runScript_99 (by decide) ?_
      exact W.widen (k := 0) (n := 0) (Nat.le_of_ble_eq_true rfl) (Nat.le_of_ble_eq_true rfl) (vx_ret (kr_iret C0 hK hP hS hq dX8_runScript_101))
    · have hq := hq.2 hc
      refine lv_aload_n hx hb dX8_runScript_68 rfl (lv_at hl 0 rfl) ?_
      refine lv_lload_n hx hb dX8_runScript_69 rfl (lv_at hl 2 rfl) ?_
      refine lv_iload_n hx hb dX8_runScript_70 rfl (lv_at hl 1 rfl) ?_
      refine lv_iconst (v := 1) hx hb dX8_runScript_71 (by decide) ?_
      refine lv_isub hx hb dX8_runScript_72 ?_
      refine lv_iload hx hb dX8_runScript_73 (lv_at hl 3 rfl) ?_
      refine lv_isub hx hb dX8_runScript_75 ?_
      refine kr_Sl (As := [.long v2, .int ((v1 - (1 : Int32)) - v4)]) (rest := [.ref (ka_a G (22, 0, 0))]) C0 hK hP hS hl (km_X8_withoutLowest l hI hq) kd_X8_withoutLowest kq_754 ⟨rfl, rfl, Nat.le_of_ble_eq_true rfl, Nat.le_of_ble_eq_true rfl⟩ rfl (Nat.le_of_ble_eq_true rfl) dX8_runScript_76 ⟨Nat.le_of_ble_eq_true rfl, Nat.le_of_ble_eq_true rfl⟩ (fun r6 σ5 H locs hq hP hS => ?_)
      refine lv_ldc2 hx hb hown (hts _ kq_757) dX8_runScript_79 ?_
      refine lv_lrem hx hb dX8_runScript_82 (by decide) ?_
      refine lv_l2i hx hb dX8_runScript_83 rfl ?_
      refine kr_Vi (k := (22, 0, 0)) (As := [.int ((r6 - r6 / (10000 : Int64) * (10000 : Int64)).toInt32)]) (rest := []) C0 hK hP hS hl (km_X8_succeeds l hI hq) kd_X8_succeeds kq_759 (kv_s (by decide) (by decide)) rfl rfl rfl ⟨rfl, rfl, Nat.le_of_ble_eq_true rfl, Nat.le_of_ble_eq_true rfl⟩ rfl (Nat.le_of_ble_eq_true rfl) dX8_runScript_84 ⟨Nat.le_of_ble_eq_true rfl, Nat.le_of_ble_eq_true rfl⟩ (fun r8 σ7 H locs hq hP hS => ?_)
      refine lv_if_ne (tgt := 93) hx hb dX8_runScript_87 (by decide) (fun hc => ?_) (fun hc => ?_)
      · have hq := hq.2 hc
        obtain ⟨x9, ex9⟩ : ∃ y : Int32, y = v4 + (1 : Int32) := ⟨_, rfl⟩
        have hq := hq x9 ex9
        refine lv_iinc (v := x9) (lv' := [(4, .int x9), (0, .ref (ka_a G (22, 0, 0))), (1, .int v1), (2, .long v2)]) hx hb dX8_runScript_93 hl (k := 3) rfl (by rw [ex9]; rfl) (by decide) rfl (fun ls hl => ?_)
        refine lv_goto (tgt := 62) hx hb dX8_runScript_96 (by decide) ?_
        exact ih σ7 v1 v2 x9 hq H locs hP hS ls (lv_sub hl [1, 2, 3, 0] rfl)
      · have hq := hq.1 hc
        refine lv_iload hx hb dX8_runScript_90 (lv_at hl 3 rfl) ?_
        exact W.widen (k := 0) (n := 0) (Nat.le_of_ble_eq_true rfl) (Nat.le_of_ble_eq_true rfl) (vx_ret (kr_iret C0 hK hP hS hq dX8_runScript_92))
set_option maxHeartbeats 4000000 in
set_option maxRecDepth 100000 in
theorem km0_X8_runScript (l : Launch) (hl0 : l.stackTraces = false) {G : ka_G} (hI : ka_I G) {σ : ka_S} {v1 : Int32} {v2 : Int64} {Q : Int32 → ka_S → Prop} (hq : kw_X8_runScript σ v1 v2 Q (fun _ _ => False)) : kx_i l yX8_runScript (kw_ yX8_runScript cX8_runScript 5 (some .int)) rm0_X8_runScript 0 0 G [.ref (ka_a G (22, 0, 0)), .int v1, .long v2] σ Q (fun _ _ => False) := by
  refine kx_of "GlossRows" rfl (by decide) (Nat.le_of_ble_eq_true rfl) ?_
  intro p e s m below meth c C0 hK hT hout H locs hP hS ls hl
  obtain ⟨hx, hb, -, hml, hown, hts, -⟩ := id C0
  have hl : lv_has ls 5 [(0, .ref (ka_a G (22, 0, 0))), (1, .int v1), (2, .long v2)] := hl
  unfold kw_X8_runScript at hq
  refine lv_iload_n hx hb dX8_runScript_0 rfl (lv_at hl 1 rfl) ?_
  refine lv_iconst (v := 1) hx hb dX8_runScript_1 (by decide) ?_
  refine lv_icmp_lt (tgt := 10) hx hb dX8_runScript_2 (by decide) (fun hc => ?_) (fun hc => ?_)
  · have hq := hq.1 hc
    exact False.elim hq
  · have hq := hq.2 hc
    refine lv_iload_n hx hb dX8_runScript_5 rfl (lv_at hl 1 rfl) ?_
    refine lv_iconst (v := 4) hx hb dX8_runScript_6 (by decide) ?_
    refine lv_icmp_le (tgt := 21) hx hb dX8_runScript_7 (by decide) (fun hc => ?_) (fun hc => ?_)
    · have hq := hq.1 hc
      refine lv_lload_n hx hb dX8_runScript_21 rfl (lv_at hl 2 rfl) ?_
      refine lv_lconst (v := 0) hx hb dX8_runScript_22 (by decide) ?_
      refine kr_clt (tgt := 37) C0 dX8_runScript_23 dX8_runScript_24 (by decide) (fun hc => ?_) (fun hc => ?_)
      · have hq := hq.1 hc
        exact False.elim hq
      · have hq := hq.2 hc
        refine lv_lload_n hx hb dX8_runScript_27 rfl (lv_at hl 2 rfl) ?_
        refine lv_iload_n hx hb dX8_runScript_28 rfl (lv_at hl 1 rfl) ?_
        refine kr_Sl (As := [.long v2, .int v1]) (rest := []) C0 hK hP hS hl (km_X8_withoutLowest l hI hq) kd_X8_withoutLowest kq_754 ⟨rfl, rfl, Nat.le_of_ble_eq_true rfl, Nat.le_of_ble_eq_true rfl⟩ rfl (Nat.le_of_ble_eq_true rfl) dX8_runScript_29 ⟨Nat.le_of_ble_eq_true rfl, Nat.le_of_ble_eq_true rfl⟩ (fun r2 σ1 H locs hq hP hS => ?_)
        refine lv_lconst (v := 0) hx hb dX8_runScript_32 (by decide) ?_
        refine kr_ceq (tgt := 48) C0 dX8_runScript_33 dX8_runScript_34 (by decide) (fun hc => ?_) (fun hc => ?_)
        · have hq := hq.1 hc
          refine lv_aload_n hx hb dX8_runScript_48 rfl (lv_at hl 0 rfl) ?_
          refine kg_X8_trial C0 hK hP (kv_s (by decide) (by decide)) kq_234 dX8_runScript_49 ?_
          refine lv_aload_n hx hb dX8_runScript_52 rfl (lv_at hl 0 rfl) ?_
          refine kg_X8_page C0 hK hP (kv_s (by decide) (by decide)) kq_233 dX8_runScript_53 ?_
          refine kr_Vv (k := (0, 1, 0)) (As := [.ref (ka_a G (0, 0, 0))]) (rest := []) C0 hK hP hS hl (km_X4_copyFrom l hI (by decide) (by decide) hq) kd_X4_copyFrom kq_453 (kv_p (by decide) (by decide)) rfl rfl rfl ⟨rfl, rfl, Nat.le_of_ble_eq_true rfl, Nat.le_of_ble_eq_true rfl⟩ rfl (Nat.le_of_ble_eq_true rfl) dX8_runScript_56 ⟨Nat.le_of_ble_eq_true rfl, Nat.le_of_ble_eq_true rfl⟩ (fun σ3 H locs hq hP hS => ?_)
          refine lv_iconst (v := 0) hx hb dX8_runScript_59 (by decide) ?_
          refine lv_istore (lv' := [(4, .int (0 : Int32)), (0, .ref (ka_a G (22, 0, 0))), (1, .int v1), (2, .long v2)]) hx hb dX8_runScript_60 hl (by decide) rfl (fun ls hl => ?_)
          obtain ⟨n4, hq⟩ := hq
          refine W.widen (k := 0) (n := 0) (Nat.le_of_ble_eq_true rfl) (Nat.le_of_ble_eq_true rfl) ?_
          exact kb0_X8_runScript_62 hI C0 hK n4 σ3 v1 v2 (0 : Int32) hq H locs hP hS ls (lv_sub hl [1, 2, 3, 0] rfl)
        · have hq := hq.2 hc
          exact False.elim hq
    · have hq := hq.2 hc
      exact False.elim hq
/-! GlossRows.simulate(JI)I (throws nothing) -/
def rm0_X8_simulate : Room := { frames := 6, cells := 0, slots := 0, locals := 136 }
set_option maxHeartbeats 4000000 in
set_option maxRecDepth 100000 in
theorem kb0_X8_simulate_42 {p : Program} {l : Launch} {e : Env} {s : State} {m : MethodId} {args : Array Value} {below : List Frame} {meth : Method} {c : Code} {G : ka_G} (hI : ka_I G) (C0 : ka_C p s m args meth c cX8_simulate 8 "GlossRows" (some .int)) (hK : ka_Kn G s) {Q : Int32 → ka_S → Prop} : ∀ (n : Nat) (σ : ka_S) (v3 : Int32) (v4 : Int64) (v6 : Int32) (v7 : Int32), kw_X8_simulate_42 Q (fun _ _ => False) n σ v3 v4 v6 v7 → ∀ (H : Heap) (locs : List Loc), ka_P G σ H → va_S (ka_A G) s.heap H locs → ∀ ls : Array Slot, lv_has ls 8 [(0, .ref (ka_a G (22, 0, 0))), (3, .int v3), (4, .long v4), (6, .int v6), (7, .int v7)] → W p l e rm0_X8_simulate s m args below meth c H locs 0 0 (vx_MQ below (va_Qi Q (ka_B G) (ka_A G)) (ka_XC G (fun _ _ => False)) args s 0 0 (ka_A G)) (F0 m 42 ls []) := by
  obtain ⟨hx, hb, -, hml, hown, hts, -⟩ := id C0
  intro n
  induction n with
  | zero =>
    intro σ v3 v4 v6 v7 hq
    rw [kw_X8_simulate_42] at hq
    exact hq.elim
  | succ n ih =>
    intro σ v3 v4 v6 v7 hq H locs hP hS ls hl
    rw [kw_X8_simulate_42] at hq
    refine lv_iload hx hb dX8_simulate_42 (lv_at hl 4 rfl) ?_
    refine lv_iload_n hx hb dX8_simulate_44 rfl (lv_at hl 1 rfl) ?_
    refine lv_icmp_ge (tgt := 92) hx hb dX8_simulate_45 (by decide) (fun hc => ?_) (fun hc => ?_)
    · have hq := hq.1 hc
      refine lv_iload hx hb dX8_simulate_92 (lv_at hl 3 rfl) ?_
      exact W.widen (k := 0) (n := 0) (Nat.le_of_ble_eq_true rfl) (Nat.le_of_ble_eq_true rfl) (vx_ret (kr_iret C0 hK hP hS hq dX8_simulate_94))
    · have hq := hq.2 hc
      refine lv_lload hx hb dX8_simulate_48 (lv_at hl 2 rfl) ?_
      refine lv_ldc2 hx hb hown (hts _ kq_826) dX8_simulate_50 ?_
      refine lv_lmul hx hb dX8_simulate_53 ?_
      refine lv_ldc2 hx hb hown (hts _ kq_827) dX8_simulate_54 ?_
      refine lv_ladd hx hb dX8_simulate_57 ?_
      refine lv_topl (fun x3 ex3 => ?_)
      have hq := hq x3 ex3
      refine lv_lstore (lv' := [(4, .long x3), (0, .ref (ka_a G (22, 0, 0))), (3, .int v3), (6, .int v6), (7, .int v7)]) hx hb dX8_simulate_58 hl (by decide) rfl (fun ls hl => ?_)
      refine lv_aload_n hx hb dX8_simulate_60 rfl (lv_at hl 1 rfl) ?_
      refine lv_lload hx hb dX8_simulate_61 (lv_at hl 0 rfl) ?_
      refine lv_bipush (v := 33) hx hb dX8_simulate_63 (by decide) ?_
      refine lv_lushr hx hb dX8_simulate_65 rfl ?_
      refine lv_l2i hx hb dX8_simulate_66 rfl ?_
      refine kr_Vv (k := (22, 0, 0)) (As := [.int (((x3.toUInt64 >>> ((33 : Int32).toInt64.toUInt64 &&& Int64.toUInt64 63)).toInt64).toInt32)]) (rest := []) C0 hK hP hS hl (km_X8_playRound l hI hq) kd_X8_playRound kq_828 (kv_s (by decide) (by decide)) rfl rfl rfl ⟨rfl, rfl, Nat.le_of_ble_eq_true rfl, Nat.le_of_ble_eq_true rfl⟩ rfl (Nat.le_of_ble_eq_true rfl) dX8_simulate_67 ⟨Nat.le_of_ble_eq_true rfl, Nat.le_of_ble_eq_true rfl⟩ (fun σ4 H locs hq hP hS => ?_)
      refine lv_iload hx hb dX8_simulate_70 (lv_at hl 3 rfl) ?_
      refine lv_aload_n hx hb dX8_simulate_72 rfl (lv_at hl 1 rfl) ?_
      refine lv_aload_n hx hb dX8_simulate_73 rfl (lv_at hl 1 rfl) ?_
      refine kg_X8_trial C0 hK hP (kv_s (by decide) (by decide)) kq_234 dX8_simulate_74 ?_
      refine kr_Vr (k := (22, 0, 0)) (As := [.ref (ka_a G (0, 1, 0))]) (rest := [.int v6]) C0 hK hP hS hl (km_X8_arranged l hI (by decide) hq) kd_X8_arranged kq_502 (kv_s (by decide) (by decide)) rfl rfl rfl ⟨rfl, rfl, Nat.le_of_ble_eq_true rfl, Nat.le_of_ble_eq_true rfl⟩ rfl (Nat.le_of_ble_eq_true rfl) dX8_simulate_77 ⟨Nat.le_of_ble_eq_true rfl, Nat.le_of_ble_eq_true rfl⟩ (fun σ5 H locs hq hP hS => ?_)
      refine kg_X1_rowCount C0 hK hP (kv_s (by decide) (by decide)) kq_193 dX8_simulate_80 ?_
      refine lv_iadd hx hb dX8_simulate_83 ?_
      refine lv_topi (fun x6 ex6 => ?_)
      have hq := hq x6 ex6
      refine lv_istore (lv' := [(6, .int x6), (4, .long x3), (0, .ref (ka_a G (22, 0, 0))), (3, .int v3), (7, .int v7)]) hx hb dX8_simulate_84 hl (by decide) rfl (fun ls hl => ?_)
      obtain ⟨x7, ex7⟩ : ∃ y : Int32, y = v7 + (1 : Int32) := ⟨_, rfl⟩
      have hq := hq x7 ex7
      refine lv_iinc (v := x7) (lv' := [(7, .int x7), (6, .int x6), (4, .long x3), (0, .ref (ka_a G (22, 0, 0))), (3, .int v3)]) hx hb dX8_simulate_86 hl (k := 4) rfl (by rw [ex7]; rfl) (by decide) rfl (fun ls hl => ?_)
      refine lv_goto (tgt := 42) hx hb dX8_simulate_89 (by decide) ?_
      exact ih σ5 v3 x3 x6 x7 hq H locs hP hS ls (lv_sub hl [3, 4, 2, 1, 0] rfl)
set_option maxHeartbeats 4000000 in
set_option maxRecDepth 100000 in
theorem km0_X8_simulate (l : Launch) (hl0 : l.stackTraces = false) {G : ka_G} (hI : ka_I G) {σ : ka_S} {v1 : Int64} {v3 : Int32} {Q : Int32 → ka_S → Prop} (hq : kw_X8_simulate σ v1 v3 Q (fun _ _ => False)) : kx_i l yX8_simulate (kw_ yX8_simulate cX8_simulate 8 (some .int)) rm0_X8_simulate 0 0 G [.ref (ka_a G (22, 0, 0)), .long v1, .int v3] σ Q (fun _ _ => False) := by
  refine kx_of "GlossRows" rfl (by decide) (Nat.le_of_ble_eq_true rfl) ?_
  intro p e s m below meth c C0 hK hT hout H locs hP hS ls hl
  obtain ⟨hx, hb, -, hml, hown, hts, -⟩ := id C0
  have hl : lv_has ls 8 [(0, .ref (ka_a G (22, 0, 0))), (1, .long v1), (3, .int v3)] := hl
  unfold kw_X8_simulate at hq
  refine lv_iload_n hx hb dX8_simulate_0 rfl (lv_at hl 2 rfl) ?_
  refine lv_iconst (v := 1) hx hb dX8_simulate_1 (by decide) ?_
  refine lv_icmp_lt (tgt := 11) hx hb dX8_simulate_2 (by decide) (fun hc => ?_) (fun hc => ?_)
  · have hq := hq.1 hc
    exact False.elim hq
  · have hq := hq.2 hc
    refine lv_iload_n hx hb dX8_simulate_5 rfl (lv_at hl 2 rfl) ?_
    refine lv_bipush (v := 99) hx hb dX8_simulate_6 (by decide) ?_
    refine lv_icmp_le (tgt := 22) hx hb dX8_simulate_8 (by decide) (fun hc => ?_) (fun hc => ?_)
    · have hq := hq.1 hc
      refine lv_aload_n hx hb dX8_simulate_22 rfl (lv_at hl 0 rfl) ?_
      refine kg_X8_trial C0 hK hP (kv_s (by decide) (by decide)) kq_234 dX8_simulate_23 ?_
      refine lv_aload_n hx hb dX8_simulate_26 rfl (lv_at hl 0 rfl) ?_
      refine kg_X8_page C0 hK hP (kv_s (by decide) (by decide)) kq_233 dX8_simulate_27 ?_
      refine kr_Vv (k := (0, 1, 0)) (As := [.ref (ka_a G (0, 0, 0))]) (rest := []) C0 hK hP hS hl (km_X4_copyFrom l hI (by decide) (by decide) hq) kd_X4_copyFrom kq_453 (kv_p (by decide) (by decide)) rfl rfl rfl ⟨rfl, rfl, Nat.le_of_ble_eq_true rfl, Nat.le_of_ble_eq_true rfl⟩ rfl (Nat.le_of_ble_eq_true rfl) dX8_simulate_30 ⟨Nat.le_of_ble_eq_true rfl, Nat.le_of_ble_eq_true rfl⟩ (fun σ1 H locs hq hP hS => ?_)
      refine lv_lload_n hx hb dX8_simulate_33 rfl (lv_at hl 1 rfl) ?_
      refine lv_lstore (lv' := [(4, .long v1), (0, .ref (ka_a G (22, 0, 0))), (1, .long v1), (3, .int v3)]) hx hb dX8_simulate_34 hl (by decide) rfl (fun ls hl => ?_)
      refine lv_iconst (v := 0) hx hb dX8_simulate_36 (by decide) ?_
      refine lv_istore (lv' := [(6, .int (0 : Int32)), (4, .long v1), (0, .ref (ka_a G (22, 0, 0))), (1, .long v1), (3, .int v3)]) hx hb dX8_simulate_37 hl (by decide) rfl (fun ls hl => ?_)
      refine lv_iconst (v := 0) hx hb dX8_simulate_39 (by decide) ?_
      refine lv_istore (lv' := [(7, .int (0 : Int32)), (6, .int (0 : Int32)), (4, .long v1), (0, .ref (ka_a G (22, 0, 0))), (1, .long v1), (3, .int v3)]) hx hb dX8_simulate_40 hl (by decide) rfl (fun ls hl => ?_)
      obtain ⟨n2, hq⟩ := hq
      refine W.widen (k := 0) (n := 0) (Nat.le_of_ble_eq_true rfl) (Nat.le_of_ble_eq_true rfl) ?_
      exact kb0_X8_simulate_42 hI C0 hK n2 σ1 v3 v1 (0 : Int32) (0 : Int32) hq H locs hP hS ls (lv_sub hl [3, 5, 2, 1, 0] rfl)
    · have hq := hq.2 hc
      exact False.elim hq
/-! GlossRows.requireSlot(I)V (throws nothing) -/
def rm0_X8_requireSlot : Room := { frames := 6, cells := 0, slots := 0, locals := 82 }
set_option maxHeartbeats 4000000 in
set_option maxRecDepth 100000 in
theorem km0_X8_requireSlot (l : Launch) (hl0 : l.stackTraces = false) {G : ka_G} (hI : ka_I G) {σ : ka_S} {v1 : Int32} {Q : ka_S → Prop} (hq : kw_X8_requireSlot σ v1 Q (fun _ _ => False)) : kx_v l yX8_requireSlot (kw_ yX8_requireSlot cX8_requireSlot 2 none) rm0_X8_requireSlot 0 0 G [.ref (ka_a G (22, 0, 0)), .int v1] σ Q (fun _ _ => False) := by
  refine kx_of "GlossRows" rfl (by decide) (Nat.le_of_ble_eq_true rfl) ?_
  intro p e s m below meth c C0 hK hT hout H locs hP hS ls hl
  obtain ⟨hx, hb, -, hml, hown, hts, -⟩ := id C0
  have hl : lv_has ls 2 [(0, .ref (ka_a G (22, 0, 0))), (1, .int v1)] := hl
  unfold kw_X8_requireSlot at hq
  refine lv_iload_n hx hb dX8_requireSlot_0 rfl (lv_at hl 1 rfl) ?_
  refine lv_if_lt (tgt := 9) hx hb dX8_requireSlot_1 (by decide) (fun hc => ?_) (fun hc => ?_)
  · have hq := hq.1 hc
    exact False.elim hq
  · have hq := hq.2 hc
    refine lv_iload_n hx hb dX8_requireSlot_4 rfl (lv_at hl 1 rfl) ?_
    refine lv_iconst (v := 2) hx hb dX8_requireSlot_5 (by decide) ?_
    refine lv_icmp_lt (tgt := 20) hx hb dX8_requireSlot_6 (by decide) (fun hc => ?_) (fun hc => ?_)
    · have hq := hq.1 hc
      exact W.widen (k := 0) (n := 0) (Nat.le_of_ble_eq_true rfl) (Nat.le_of_ble_eq_true rfl) (vx_ret (kr_vret C0 hK hP hS hq dX8_requireSlot_20))
    · have hq := hq.2 hc
      exact False.elim hq
/-! GlossRows.save(I)I (throws nothing) -/
def rm0_X8_save : Room := { frames := 7, cells := 0, slots := 0, locals := 103 }
set_option maxHeartbeats 4000000 in
set_option maxRecDepth 100000 in
theorem km0_X8_save (l : Launch) (hl0 : l.stackTraces = false) {G : ka_G} (hI : ka_I G) {σ : ka_S} {v1 : Int32} {Q : Int32 → ka_S → Prop} (hq : kw_X8_save σ v1 Q (fun _ _ => False)) : kx_i l yX8_save (kw_ yX8_save cX8_save 2 (some .int)) rm0_X8_save 0 0 G [.ref (ka_a G (22, 0, 0)), .int v1] σ Q (fun _ _ => False) := by
  refine kx_of "GlossRows" rfl (by decide) (Nat.le_of_ble_eq_true rfl) ?_
  intro p e s m below meth c C0 hK hT hout H locs hP hS ls hl
  obtain ⟨hx, hb, -, hml, hown, hts, -⟩ := id C0
  have hl : lv_has ls 2 [(0, .ref (ka_a G (22, 0, 0))), (1, .int v1)] := hl
  unfold kw_X8_save at hq
  refine lv_aload_n hx hb dX8_save_0 rfl (lv_at hl 0 rfl) ?_
  refine lv_iload_n hx hb dX8_save_1 rfl (lv_at hl 1 rfl) ?_
  refine kx_Vv (k := (22, 0, 0)) (As := [.int v1]) (rest := []) C0 hK hT hout hP hS hl (km0_X8_requireSlot l hl0 hI hq) kd_X8_requireSlot kq_433 (kv_s (by decide) (by decide)) rfl rfl rfl ⟨rfl, rfl, Nat.le_of_ble_eq_true rfl, Nat.le_of_ble_eq_true rfl⟩ rfl (Nat.le_of_ble_eq_true rfl) dX8_save_2 ⟨Nat.le_of_ble_eq_true rfl, Nat.le_of_ble_eq_true rfl⟩ ⟨Nat.le_of_ble_eq_true rfl, Nat.le_of_ble_eq_true rfl⟩ (fun σ1 H locs hq hP hS => ?_)
  refine lv_aload_n hx hb dX8_save_5 rfl (lv_at hl 0 rfl) ?_
  refine kg_X8_slots C0 hK hP (kv_s (by decide) (by decide)) kq_237 dX8_save_6 ?_
  refine lv_iload_n hx hb dX8_save_9 rfl (lv_at hl 1 rfl) ?_
  obtain ⟨b2, hq⟩ := hq
  refine kr_aald (t := 4) C0 hK hP (kv_s (by decide) (by decide)) rfl rfl b2 rfl dX8_save_10 ?_
  refine lv_aload_n hx hb dX8_save_11 rfl (lv_at hl 0 rfl) ?_
  refine kg_X8_page C0 hK hP (kv_s (by decide) (by decide)) kq_233 dX8_save_12 ?_
  refine kr_Vv (k := (0, (v1.toNatClampNeg + 2), 0)) (As := [.ref (ka_a G (0, 0, 0))]) (rest := []) C0 hK hP hS hl (km_X4_copyFrom l hI (Nat.lt_of_lt_of_le (Nat.add_lt_add_right (vp_lt b2) 2) (by decide)) (by decide) hq) kd_X4_copyFrom kq_453 (kv_p (by decide) (Nat.lt_of_lt_of_le (Nat.add_lt_add_right (vp_lt b2) 2) (by decide))) rfl rfl rfl ⟨rfl, rfl, Nat.le_of_ble_eq_true rfl, Nat.le_of_ble_eq_true rfl⟩ rfl (Nat.le_of_ble_eq_true rfl) dX8_save_15 ⟨Nat.le_of_ble_eq_true rfl, Nat.le_of_ble_eq_true rfl⟩ (fun σ3 H locs hq hP hS => ?_)
  refine lv_aload_n hx hb dX8_save_18 rfl (lv_at hl 0 rfl) ?_
  refine kg_X8_saved C0 hK hP (kv_s (by decide) (by decide)) kq_238 dX8_save_19 ?_
  refine lv_iload_n hx hb dX8_save_22 rfl (lv_at hl 1 rfl) ?_
  refine lv_iconst (v := 1) hx hb dX8_save_23 (by decide) ?_
  obtain ⟨b4, hq⟩ := hq
  refine kr_zast C0 hK hI hP hS (kv_s (by decide) (by decide)) (fun _ => rfl) b4 rfl dX8_save_24 (fun H locs hP hS => ?_)
  obtain ⟨σ5, eσ5⟩ : ∃ z : ka_S, z = ka_wI σ3 (24, 0, 0) v1.toNatClampNeg (1 : Int32) := ⟨_, rfl⟩
  rw [← eσ5] at hP
  have hq := hq σ5 eσ5
  refine lv_aload_n hx hb dX8_save_25 rfl (lv_at hl 0 rfl) ?_
  refine kg_X8_page C0 hK hP (kv_s (by decide) (by decide)) kq_233 dX8_save_26 ?_
  refine kg_X4_count C0 hK hP (kv_p (by decide) (by decide)) kq_155 dX8_save_29 ?_
  exact W.widen (k := 0) (n := 0) (Nat.le_of_ble_eq_true rfl) (Nat.le_of_ble_eq_true rfl) (vx_ret (kr_iret C0 hK hP hS hq dX8_save_32))
/-! GlossRows.restore(I)I (throws nothing) -/
def rm0_X8_restore : Room := { frames := 7, cells := 0, slots := 0, locals := 103 }
set_option maxHeartbeats 4000000 in
set_option maxRecDepth 100000 in
theorem km0_X8_restore (l : Launch) (hl0 : l.stackTraces = false) {G : ka_G} (hI : ka_I G) {σ : ka_S} {v1 : Int32} {Q : Int32 → ka_S → Prop} (hq : kw_X8_restore σ v1 Q (fun _ _ => False)) : kx_i l yX8_restore (kw_ yX8_restore cX8_restore 2 (some .int)) rm0_X8_restore 0 0 G [.ref (ka_a G (22, 0, 0)), .int v1] σ Q (fun _ _ => False) := by
  refine kx_of "GlossRows" rfl (by decide) (Nat.le_of_ble_eq_true rfl) ?_
  intro p e s m below meth c C0 hK hT hout H locs hP hS ls hl
  obtain ⟨hx, hb, -, hml, hown, hts, -⟩ := id C0
  have hl : lv_has ls 2 [(0, .ref (ka_a G (22, 0, 0))), (1, .int v1)] := hl
  unfold kw_X8_restore at hq
  refine lv_aload_n hx hb dX8_restore_0 rfl (lv_at hl 0 rfl) ?_
  refine lv_iload_n hx hb dX8_restore_1 rfl (lv_at hl 1 rfl) ?_
  refine kx_Vv (k := (22, 0, 0)) (As := [.int v1]) (rest := []) C0 hK hT hout hP hS hl (km0_X8_requireSlot l hl0 hI hq) kd_X8_requireSlot kq_433 (kv_s (by decide) (by decide)) rfl rfl rfl ⟨rfl, rfl, Nat.le_of_ble_eq_true rfl, Nat.le_of_ble_eq_true rfl⟩ rfl (Nat.le_of_ble_eq_true rfl) dX8_restore_2 ⟨Nat.le_of_ble_eq_true rfl, Nat.le_of_ble_eq_true rfl⟩ ⟨Nat.le_of_ble_eq_true rfl, Nat.le_of_ble_eq_true rfl⟩ (fun σ1 H locs hq hP hS => ?_)
  refine lv_aload_n hx hb dX8_restore_5 rfl (lv_at hl 0 rfl) ?_
  refine kg_X8_saved C0 hK hP (kv_s (by decide) (by decide)) kq_238 dX8_restore_6 ?_
  refine lv_iload_n hx hb dX8_restore_9 rfl (lv_at hl 1 rfl) ?_
  obtain ⟨b2, hq⟩ := hq
  refine kr_zald C0 hK hP (kv_s (by decide) (by decide)) rfl b2 dX8_restore_10 ?_
  refine lv_if_ne (tgt := 25) hx hb dX8_restore_11 (by decide) (fun hc => ?_) (fun hc => ?_)
  · have hq := hq.2 hc
    refine lv_aload_n hx hb dX8_restore_25 rfl (lv_at hl 0 rfl) ?_
    refine kg_X8_page C0 hK hP (kv_s (by decide) (by decide)) kq_233 dX8_restore_26 ?_
    refine lv_aload_n hx hb dX8_restore_29 rfl (lv_at hl 0 rfl) ?_
    refine kg_X8_slots C0 hK hP (kv_s (by decide) (by decide)) kq_237 dX8_restore_30 ?_
    refine lv_iload_n hx hb dX8_restore_33 rfl (lv_at hl 1 rfl) ?_
    obtain ⟨b3, hq⟩ := hq
    refine kr_aald (t := 4) C0 hK hP (kv_s (by decide) (by decide)) rfl rfl b3 rfl dX8_restore_34 ?_
    refine kr_Vv (k := (0, 0, 0)) (As := [.ref (ka_a G (0, (v1.toNatClampNeg + 2), 0))]) (rest := []) C0 hK hP hS hl (km_X4_copyFrom l hI (by decide) (Nat.lt_of_lt_of_le (Nat.add_lt_add_right (vp_lt b3) 2) (by decide)) hq) kd_X4_copyFrom kq_453 (kv_p (by decide) (by decide)) rfl rfl rfl ⟨rfl, rfl, Nat.le_of_ble_eq_true rfl, Nat.le_of_ble_eq_true rfl⟩ rfl (Nat.le_of_ble_eq_true rfl) dX8_restore_35 ⟨Nat.le_of_ble_eq_true rfl, Nat.le_of_ble_eq_true rfl⟩ (fun σ4 H locs hq hP hS => ?_)
    refine lv_aload_n hx hb dX8_restore_38 rfl (lv_at hl 0 rfl) ?_
    refine kg_X8_history C0 hK hP (kv_s (by decide) (by decide)) kq_236 dX8_restore_39 ?_
    refine kr_Vv (k := (20, 0, 0)) (As := []) (rest := []) C0 hK hP hS hl (km_X0_clear l hI hq) kd_X0_clear kq_420 (kv_s (by decide) (by decide)) rfl rfl rfl ⟨rfl, rfl, Nat.le_of_ble_eq_true rfl, Nat.le_of_ble_eq_true rfl⟩ rfl (Nat.le_of_ble_eq_true rfl) dX8_restore_42 ⟨Nat.le_of_ble_eq_true rfl, Nat.le_of_ble_eq_true rfl⟩ (fun σ5 H locs hq hP hS => ?_)
    refine lv_aload_n hx hb dX8_restore_45 rfl (lv_at hl 0 rfl) ?_
    refine kg_X8_page C0 hK hP (kv_s (by decide) (by decide)) kq_233 dX8_restore_46 ?_
    refine kg_X4_count C0 hK hP (kv_p (by decide) (by decide)) kq_155 dX8_restore_49 ?_
    exact W.widen (k := 0) (n := 0) (Nat.le_of_ble_eq_true rfl) (Nat.le_of_ble_eq_true rfl) (vx_ret (kr_iret C0 hK hP hS hq dX8_restore_52))
  · have hq := hq.1 hc
    exact False.elim hq
