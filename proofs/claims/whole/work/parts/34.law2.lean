/-! ===== the law from its entry, for a relation that is kept ===== -/
def kl_step (σ : ka_S) (xs : Nat → Int32) (i : Nat) (o : Int64) (K : ka_S → Int64 → Prop) : Prop := (xs i &&& 31 = (0 : Int32) → kl_c0 σ xs i o K) ∧ (¬ xs i &&& 31 = (0 : Int32) → (xs i &&& 31 = (1 : Int32) → kl_c1 σ xs i o K) ∧ (¬ xs i &&& 31 = (1 : Int32) → (xs i &&& 31 = (2 : Int32) → kl_c2 σ xs i o K) ∧ (¬ xs i &&& 31 = (2 : Int32) → (xs i &&& 31 = (3 : Int32) → kl_c3 σ xs i o K) ∧ (¬ xs i &&& 31 = (3 : Int32) → (xs i &&& 31 = (4 : Int32) → kl_c4 σ xs i o K) ∧ (¬ xs i &&& 31 = (4 : Int32) → (xs i &&& 31 = (5 : Int32) → kl_c5 σ xs i o K) ∧ (¬ xs i &&& 31 = (5 : Int32) → (xs i &&& 31 = (6 : Int32) → kl_c6 σ xs i o K) ∧ (¬ xs i &&& 31 = (6 : Int32) → (xs i &&& 31 = (7 : Int32) → kl_c7 σ xs i o K) ∧ (¬ xs i &&& 31 = (7 : Int32) → (xs i &&& 31 = (8 : Int32) → kl_c8 σ xs i o K) ∧ (¬ xs i &&& 31 = (8 : Int32) → (xs i &&& 31 = (9 : Int32) → kl_c9 σ xs i o K) ∧ (¬ xs i &&& 31 = (9 : Int32) → (xs i &&& 31 = (10 : Int32) → kl_c10 σ xs i o K) ∧ (¬ xs i &&& 31 = (10 : Int32) → (xs i &&& 31 = (11 : Int32) → kl_c11 σ xs i o K) ∧ (¬ xs i &&& 31 = (11 : Int32) → (xs i &&& 31 = (12 : Int32) → kl_c12 σ xs i o K) ∧ (¬ xs i &&& 31 = (12 : Int32) → (xs i &&& 31 = (13 : Int32) → kl_c13 σ xs i o K) ∧ (¬ xs i &&& 31 = (13 : Int32) → (xs i &&& 31 = (14 : Int32) → kl_c14 σ xs i o K) ∧ (¬ xs i &&& 31 = (14 : Int32) → (xs i &&& 31 = (15 : Int32) → kl_c15 σ xs i o K) ∧ (¬ xs i &&& 31 = (15 : Int32) → (xs i &&& 31 = (16 : Int32) → kl_c16 σ xs i o K) ∧ (¬ xs i &&& 31 = (16 : Int32) → (xs i &&& 31 = (17 : Int32) → kl_c17 σ xs i o K) ∧ (¬ xs i &&& 31 = (17 : Int32) → (xs i &&& 31 = (18 : Int32) → kl_c18 σ xs i o K) ∧ (¬ xs i &&& 31 = (18 : Int32) → (xs i &&& 31 = (19 : Int32) → kl_c19 σ xs i o K) ∧ (¬ xs i &&& 31 = (19 : Int32) → (xs i &&& 31 = (20 : Int32) → kl_c20 σ xs i o K) ∧ (¬ xs i &&& 31 = (20 : Int32) → (xs i &&& 31 = (21 : Int32) → kl_c21 σ xs i o K) ∧ (¬ xs i &&& 31 = (21 : Int32) → (xs i &&& 31 = (22 : Int32) → kl_c22 σ xs i o K) ∧ (¬ xs i &&& 31 = (22 : Int32) → (xs i &&& 31 = (23 : Int32) → kl_c23 σ xs i o K) ∧ (¬ xs i &&& 31 = (23 : Int32) → (xs i &&& 31 = (24 : Int32) → kl_c24 σ xs i o K) ∧ (¬ xs i &&& 31 = (24 : Int32) → (xs i &&& 31 = (25 : Int32) → kl_c25 σ xs i o K) ∧ (¬ xs i &&& 31 = (25 : Int32) → (xs i &&& 31 = (26 : Int32) → kl_c26 σ xs i o K) ∧ (¬ xs i &&& 31 = (26 : Int32) → (xs i &&& 31 = (27 : Int32) → kl_c27 σ xs i o K) ∧ (¬ xs i &&& 31 = (27 : Int32) → (xs i &&& 31 = (28 : Int32) → kl_c28 σ xs i o K) ∧ (¬ xs i &&& 31 = (28 : Int32) → (xs i &&& 31 = (29 : Int32) → kl_c29 σ xs i o K) ∧ (¬ xs i &&& 31 = (29 : Int32) → (xs i &&& 31 = (30 : Int32) → kl_c30 σ xs i o K) ∧ (¬ xs i &&& 31 = (30 : Int32) → K σ o)))))))))))))))))))))))))))))))
theorem kl_step_of {σ : ka_S} {xs : Nat → Int32} {i : Nat} {o : Int64} {K : ka_S → Int64 → Prop} (h0 : kl_c0 σ xs i o K) (h1 : kl_c1 σ xs i o K) (h2 : kl_c2 σ xs i o K) (h3 : kl_c3 σ xs i o K) (h4 : kl_c4 σ xs i o K) (h5 : kl_c5 σ xs i o K) (h6 : kl_c6 σ xs i o K) (h7 : kl_c7 σ xs i o K) (h8 : kl_c8 σ xs i o K) (h9 : kl_c9 σ xs i o K) (h10 : kl_c10 σ xs i o K) (h11 : kl_c11 σ xs i o K) (h12 : kl_c12 σ xs i o K) (h13 : kl_c13 σ xs i o K) (h14 : kl_c14 σ xs i o K) (h15 : kl_c15 σ xs i o K) (h16 : kl_c16 σ xs i o K) (h17 : kl_c17 σ xs i o K) (h18 : kl_c18 σ xs i o K) (h19 : kl_c19 σ xs i o K) (h20 : kl_c20 σ xs i o K) (h21 : kl_c21 σ xs i o K) (h22 : kl_c22 σ xs i o K) (h23 : kl_c23 σ xs i o K) (h24 : kl_c24 σ xs i o K) (h25 : kl_c25 σ xs i o K) (h26 : kl_c26 σ xs i o K) (h27 : kl_c27 σ xs i o K) (h28 : kl_c28 σ xs i o K) (h29 : kl_c29 σ xs i o K) (h30 : kl_c30 σ xs i o K) (h31 : K σ o) : kl_step σ xs i o K := ⟨fun _ => h0, fun _ => ⟨fun _ => h1, fun _ => ⟨fun _ => h2, fun _ => ⟨fun _ => h3, fun _ => ⟨fun _ => h4, fun _ => ⟨fun _ => h5, fun _ => ⟨fun _ => h6, fun _ => ⟨fun _ => h7, fun _ => ⟨fun _ => h8, fun _ => ⟨fun _ => h9, fun _ => ⟨fun _ => h10, fun _ => ⟨fun _ => h11, fun _ => ⟨fun _ => h12, fun _ => ⟨fun _ => h13, fun _ => ⟨fun _ => h14, fun _ => ⟨fun _ => h15, fun _ => ⟨fun _ => h16, fun _ => ⟨fun _ => h17, fun _ => ⟨fun _ => h18, fun _ => ⟨fun _ => h19, fun _ => ⟨fun _ => h20, fun _ => ⟨fun _ => h21, fun _ => ⟨fun _ => h22, fun _ => ⟨fun _ => h23, fun _ => ⟨fun _ => h24, fun _ => ⟨fun _ => h25, fun _ => ⟨fun _ => h26, fun _ => ⟨fun _ => h27, fun _ => ⟨fun _ => h28, fun _ => ⟨fun _ => h29, fun _ => ⟨fun _ => h30, fun _ => h31⟩⟩⟩⟩⟩⟩⟩⟩⟩⟩⟩⟩⟩⟩⟩⟩⟩⟩⟩⟩⟩⟩⟩⟩⟩⟩⟩⟩⟩⟩⟩
set_option maxHeartbeats 4000000 in
set_option maxRecDepth 100000 in
theorem kl_sw {p : Program} {l : Launch} {e : Env} {s : State} {m : MethodId} {below : List Frame} {meth : Method} {c : Code} {b L : Nat} {xs : Nat → Int32} {Z : State → Prop} {G : ka_G} (hl0 : l.stackTraces = false) (C0 : ka_C p s m #[.ref b] meth c cL_law 7 "GlossRowsLaw" (some .boolean)) (hC : kl_C G s) (hX : va_X b L xs s s.heap) (hbl : b < s.heap.size) (hL : L ≤ 2560) {i cells slots : Nat} (hi : i + 5 ≤ L) (hcl : cells + 2 ≤ 601024) (hsl : slots + 12 ≤ 7293034) {K : ka_S → Int64 → Prop}
    (kx : ∀ (σ : ka_S) (o : Int64) (H : Heap) (locs : List Loc), K σ o → kl_W G s σ o H locs → ∀ ls : Array Slot, lv_has ls 7 [(0, .ref b), (1, .ref (ka_a G (22, 0, 0))), (2, .ref (ka_a G (25, 0, 0))), (3, .ref G.2.2.2), (4, .int (nI i))] → W p l e room_1 s m #[.ref b] below meth c H locs (cells + 2) (slots + 12) Z (F0 m 1961 ls []))
    {σ : ka_S} {o : Int64} {H : Heap} {locs : List Loc} {ls : Array Slot} (hq : kl_step σ xs i o K) (hw : kl_W G s σ o H locs) (hl : lv_has ls 7 [(0, .ref b), (1, .ref (ka_a G (22, 0, 0))), (2, .ref (ka_a G (25, 0, 0))), (3, .ref G.2.2.2), (4, .int (nI i))]) : W p l e room_1 s m #[.ref b] below meth c H locs cells slots Z (F0 m 32 ls []) := by
  obtain ⟨hx, hb, -, hml, hown, hts, -⟩ := id C0
  have hbA : ¬ ka_A9 G b := fun z => by have : G.2.2.1 ≤ b := z; rw [hC.2.2.2.2.1] at this; omega
  have hin0 : vp_in (nI i) L := vp_in_nI (by omega) (by omega)
  have he0 : (nI i).toNatClampNeg = i := nI_clamp (by omega)
  refine lv_aload_n hx hb dL_law_32 rfl (lv_at hl 0 rfl) ?_
  refine lv_iload hx hb dL_law_33 (lv_at hl 4 rfl) ?_
  refine va_sld hx hb hX hbl hbA hw.2.2.1 hin0 dL_law_35 ?_
  rw [he0]
  refine lv_bipush (v := 31) hx hb dL_law_36 (by decide) ?_
  refine lv_iand hx hb dL_law_38 ?_
  unfold kl_step at hq
  refine lv_topi (fun y ey => ?_)
  rw [← ey] at hq
  by_cases hsw0 : y = (0 : Int32)
  · refine lv_tableIn (off := 137) (tgt := 176) hx hb dL_law_39 (by rw [hsw0]; decide) (by rw [hsw0]; decide) (by rw [hsw0]; decide) (by decide) ?_
    exact kl_t0 hl0 C0 hC hX hbl hL hi hcl hsl kx (hq.1 hsw0) hw hl
  replace hq := hq.2 hsw0
  by_cases hsw1 : y = (1 : Int32)
  · refine lv_tableIn (off := 193) (tgt := 232) hx hb dL_law_39 (by rw [hsw1]; decide) (by rw [hsw1]; decide) (by rw [hsw1]; decide) (by decide) ?_
    exact kl_t1 hl0 C0 hC hX hbl hL hi hcl hsl kx (hq.1 hsw1) hw hl
  replace hq := hq.2 hsw1
  by_cases hsw2 : y = (2 : Int32)
  · refine lv_tableIn (off := 206) (tgt := 245) hx hb dL_law_39 (by rw [hsw2]; decide) (by rw [hsw2]; decide) (by rw [hsw2]; decide) (by decide) ?_
    exact kl_t2 hl0 C0 hC hX hbl hL hi hcl hsl kx (hq.1 hsw2) hw hl
  replace hq := hq.2 hsw2
  by_cases hsw3 : y = (3 : Int32)
  · refine lv_tableIn (off := 219) (tgt := 258) hx hb dL_law_39 (by rw [hsw3]; decide) (by rw [hsw3]; decide) (by rw [hsw3]; decide) (by decide) ?_
    exact kl_t3 hl0 C0 hC hX hbl hL hi hcl hsl kx (hq.1 hsw3) hw hl
  replace hq := hq.2 hsw3
  by_cases hsw4 : y = (4 : Int32)
  · refine lv_tableIn (off := 263) (tgt := 302) hx hb dL_law_39 (by rw [hsw4]; decide) (by rw [hsw4]; decide) (by rw [hsw4]; decide) (by decide) ?_
    exact kl_t4 hl0 C0 hC hX hbl hL hi hcl hsl kx (hq.1 hsw4) hw hl
  replace hq := hq.2 hsw4
  by_cases hsw5 : y = (5 : Int32)
  · refine lv_tableIn (off := 319) (tgt := 358) hx hb dL_law_39 (by rw [hsw5]; decide) (by rw [hsw5]; decide) (by rw [hsw5]; decide) (by decide) ?_
    exact kl_t5 hl0 C0 hC hX hbl hL hi hcl hsl kx (hq.1 hsw5) hw hl
  replace hq := hq.2 hsw5
  by_cases hsw6 : y = (6 : Int32)
  · refine lv_tableIn (off := 387) (tgt := 426) hx hb dL_law_39 (by rw [hsw6]; decide) (by rw [hsw6]; decide) (by rw [hsw6]; decide) (by decide) ?_
    exact kl_t6 hl0 C0 hC hX hbl hL hi hcl hsl kx (hq.1 hsw6) hw hl
  replace hq := hq.2 hsw6
  by_cases hsw7 : y = (7 : Int32)
  · refine lv_tableIn (off := 467) (tgt := 506) hx hb dL_law_39 (by rw [hsw7]; decide) (by rw [hsw7]; decide) (by rw [hsw7]; decide) (by decide) ?_
    exact kl_t7 hl0 C0 hC hX hbl hL hi hcl hsl kx (hq.1 hsw7) hw hl
  replace hq := hq.2 hsw7
  by_cases hsw8 : y = (8 : Int32)
  · refine lv_tableIn (off := 575) (tgt := 614) hx hb dL_law_39 (by rw [hsw8]; decide) (by rw [hsw8]; decide) (by rw [hsw8]; decide) (by decide) ?_
    exact kl_t8 hl0 C0 hC hX hbl hL hi hcl hsl kx (hq.1 hsw8) hw hl
  replace hq := hq.2 hsw8
  by_cases hsw9 : y = (9 : Int32)
  · refine lv_tableIn (off := 671) (tgt := 710) hx hb dL_law_39 (by rw [hsw9]; decide) (by rw [hsw9]; decide) (by rw [hsw9]; decide) (by decide) ?_
    exact kl_t9 hl0 C0 hC hX hbl hL hi hcl hsl kx (hq.1 hsw9) hw hl
  replace hq := hq.2 hsw9
  by_cases hsw10 : y = (10 : Int32)
  · refine lv_tableIn (off := 739) (tgt := 778) hx hb dL_law_39 (by rw [hsw10]; decide) (by rw [hsw10]; decide) (by rw [hsw10]; decide) (by decide) ?_
    exact kl_t10 hl0 C0 hC hX hbl hL hi hcl hsl kx (hq.1 hsw10) hw hl
  replace hq := hq.2 hsw10
  by_cases hsw11 : y = (11 : Int32)
  · refine lv_tableIn (off := 807) (tgt := 846) hx hb dL_law_39 (by rw [hsw11]; decide) (by rw [hsw11]; decide) (by rw [hsw11]; decide) (by decide) ?_
    exact kl_t11 hl0 C0 hC hX hbl hL hi hcl hsl kx (hq.1 hsw11) hw hl
  replace hq := hq.2 hsw11
  by_cases hsw12 : y = (12 : Int32)
  · refine lv_tableIn (off := 863) (tgt := 902) hx hb dL_law_39 (by rw [hsw12]; decide) (by rw [hsw12]; decide) (by rw [hsw12]; decide) (by decide) ?_
    exact kl_t12 hl0 C0 hC hX hbl hL hi hcl hsl kx (hq.1 hsw12) hw hl
  replace hq := hq.2 hsw12
  by_cases hsw13 : y = (13 : Int32)
  · refine lv_tableIn (off := 919) (tgt := 958) hx hb dL_law_39 (by rw [hsw13]; decide) (by rw [hsw13]; decide) (by rw [hsw13]; decide) (by decide) ?_
    exact kl_t13 hl0 C0 hC hX hbl hL hi hcl hsl kx (hq.1 hsw13) hw hl
  replace hq := hq.2 hsw13
  by_cases hsw14 : y = (14 : Int32)
  · refine lv_tableIn (off := 975) (tgt := 1014) hx hb dL_law_39 (by rw [hsw14]; decide) (by rw [hsw14]; decide) (by rw [hsw14]; decide) (by decide) ?_
    exact kl_t14 hl0 C0 hC hX hbl hL hi hcl hsl kx (hq.1 hsw14) hw hl
  replace hq := hq.2 hsw14
  by_cases hsw15 : y = (15 : Int32)
  · refine lv_tableIn (off := 1031) (tgt := 1070) hx hb dL_law_39 (by rw [hsw15]; decide) (by rw [hsw15]; decide) (by rw [hsw15]; decide) (by decide) ?_
    exact kl_t15 hl0 C0 hC hX hbl hL hi hcl hsl kx (hq.1 hsw15) hw hl
  replace hq := hq.2 hsw15
  by_cases hsw16 : y = (16 : Int32)
  · refine lv_tableIn (off := 1087) (tgt := 1126) hx hb dL_law_39 (by rw [hsw16]; decide) (by rw [hsw16]; decide) (by rw [hsw16]; decide) (by decide) ?_
    exact kl_t16 hl0 C0 hC hX hbl hL hi hcl hsl kx (hq.1 hsw16) hw hl
  replace hq := hq.2 hsw16
  by_cases hsw17 : y = (17 : Int32)
  · refine lv_tableIn (off := 1155) (tgt := 1194) hx hb dL_law_39 (by rw [hsw17]; decide) (by rw [hsw17]; decide) (by rw [hsw17]; decide) (by decide) ?_
    exact kl_t17 hl0 C0 hC hX hbl hL hi hcl hsl kx (hq.1 hsw17) hw hl
  replace hq := hq.2 hsw17
  by_cases hsw18 : y = (18 : Int32)
  · refine lv_tableIn (off := 1223) (tgt := 1262) hx hb dL_law_39 (by rw [hsw18]; decide) (by rw [hsw18]; decide) (by rw [hsw18]; decide) (by decide) ?_
    exact kl_t18 hl0 C0 hC hX hbl hL hi hcl hsl kx (hq.1 hsw18) hw hl
  replace hq := hq.2 hsw18
  by_cases hsw19 : y = (19 : Int32)
  · refine lv_tableIn (off := 1291) (tgt := 1330) hx hb dL_law_39 (by rw [hsw19]; decide) (by rw [hsw19]; decide) (by rw [hsw19]; decide) (by decide) ?_
    exact kl_t19 hl0 C0 hC hX hbl hL hi hcl hsl kx (hq.1 hsw19) hw hl
  replace hq := hq.2 hsw19
  by_cases hsw20 : y = (20 : Int32)
  · refine lv_tableIn (off := 1347) (tgt := 1386) hx hb dL_law_39 (by rw [hsw20]; decide) (by rw [hsw20]; decide) (by rw [hsw20]; decide) (by decide) ?_
    exact kl_t20 hl0 C0 hC hX hbl hL hi hcl hsl kx (hq.1 hsw20) hw hl
  replace hq := hq.2 hsw20
  by_cases hsw21 : y = (21 : Int32)
  · refine lv_tableIn (off := 1360) (tgt := 1399) hx hb dL_law_39 (by rw [hsw21]; decide) (by rw [hsw21]; decide) (by rw [hsw21]; decide) (by decide) ?_
    exact kl_t21 hl0 C0 hC hX hbl hL hi hcl hsl kx (hq.1 hsw21) hw hl
  replace hq := hq.2 hsw21
  by_cases hsw22 : y = (22 : Int32)
  · refine lv_tableIn (off := 1404) (tgt := 1443) hx hb dL_law_39 (by rw [hsw22]; decide) (by rw [hsw22]; decide) (by rw [hsw22]; decide) (by decide) ?_
    exact kl_t22 hl0 C0 hC hX hbl hL hi hcl hsl kx (hq.1 hsw22) hw hl
  replace hq := hq.2 hsw22
  by_cases hsw23 : y = (23 : Int32)
  · refine lv_tableIn (off := 1460) (tgt := 1499) hx hb dL_law_39 (by rw [hsw23]; decide) (by rw [hsw23]; decide) (by rw [hsw23]; decide) (by decide) ?_
    exact kl_t23 hl0 C0 hC hX hbl hL hi hcl hsl kx (hq.1 hsw23) hw hl
  replace hq := hq.2 hsw23
  by_cases hsw24 : y = (24 : Int32)
  · refine lv_tableIn (off := 1473) (tgt := 1512) hx hb dL_law_39 (by rw [hsw24]; decide) (by rw [hsw24]; decide) (by rw [hsw24]; decide) (by decide) ?_
    exact kl_t24 hl0 C0 hC hX hbl hL hi hcl hsl kx (hq.1 hsw24) hw hl
  replace hq := hq.2 hsw24
  by_cases hsw25 : y = (25 : Int32)
  · refine lv_tableIn (off := 1529) (tgt := 1568) hx hb dL_law_39 (by rw [hsw25]; decide) (by rw [hsw25]; decide) (by rw [hsw25]; decide) (by decide) ?_
    exact kl_t25 hl0 C0 hC hX hbl hL hi hcl hsl kx (hq.1 hsw25) hw hl
  replace hq := hq.2 hsw25
  by_cases hsw26 : y = (26 : Int32)
  · refine lv_tableIn (off := 1542) (tgt := 1581) hx hb dL_law_39 (by rw [hsw26]; decide) (by rw [hsw26]; decide) (by rw [hsw26]; decide) (by decide) ?_
    exact kl_t26 hl0 C0 hC hX hbl hL hi hcl hsl kx (hq.1 hsw26) hw hl
  replace hq := hq.2 hsw26
  by_cases hsw27 : y = (27 : Int32)
  · refine lv_tableIn (off := 1610) (tgt := 1649) hx hb dL_law_39 (by rw [hsw27]; decide) (by rw [hsw27]; decide) (by rw [hsw27]; decide) (by decide) ?_
    exact kl_t27 hl0 C0 hC hX hbl hL hi hcl hsl kx (hq.1 hsw27) hw hl
  replace hq := hq.2 hsw27
  by_cases hsw28 : y = (28 : Int32)
  · refine lv_tableIn (off := 1710) (tgt := 1749) hx hb dL_law_39 (by rw [hsw28]; decide) (by rw [hsw28]; decide) (by rw [hsw28]; decide) (by decide) ?_
    exact kl_t28 hl0 C0 hC hX hbl hL hi hcl hsl kx (hq.1 hsw28) hw hl
  replace hq := hq.2 hsw28
  by_cases hsw29 : y = (29 : Int32)
  · refine lv_tableIn (off := 1810) (tgt := 1849) hx hb dL_law_39 (by rw [hsw29]; decide) (by rw [hsw29]; decide) (by rw [hsw29]; decide) (by decide) ?_
    exact kl_t29 hl0 C0 hC hX hbl hL hi hcl hsl kx (hq.1 hsw29) hw hl
  replace hq := hq.2 hsw29
  by_cases hsw30 : y = (30 : Int32)
  · refine lv_tableIn (off := 1866) (tgt := 1905) hx hb dL_law_39 (by rw [hsw30]; decide) (by rw [hsw30]; decide) (by rw [hsw30]; decide) (by decide) ?_
    exact kl_t30 hl0 C0 hC hX hbl hL hi hcl hsl kx (hq.1 hsw30) hw hl
  replace hq := hq.2 hsw30
  refine lv_tableOut (tgt := 1961) hx hb dL_law_39 (kt_0_30 (x := y) hsw0 hsw1 hsw2 hsw3 hsw4 hsw5 hsw6 hsw7 hsw8 hsw9 hsw10 hsw11 hsw12 hsw13 hsw14 hsw15 hsw16 hsw17 hsw18 hsw19 hsw20 hsw21 hsw22 hsw23 hsw24 hsw25 hsw26 hsw27 hsw28 hsw29 hsw30) (by decide) ?_
  exact W.widen (k := cells + 2) (n := slots + 12) (by omega) (by omega) (kx σ o H locs hq hw ls hl)
set_option maxHeartbeats 4000000 in
set_option maxRecDepth 100000 in
theorem kl_loop {p : Program} {l : Launch} {e : Env} {s : State} {m : MethodId} {below : List Frame} {meth : Method} {c : Code} {b L : Nat} {xs : Nat → Int32} {G : ka_G} (hl0 : l.stackTraces = false) (C0 : ka_C p s m #[.ref b] meth c cL_law 7 "GlossRowsLaw" (some .boolean)) (hC : kl_C G s) (hX : va_X b L xs s s.heap) (hbl : b < s.heap.size) (hL : L ≤ 2560) {K : ka_S → Prop} (hstep : ∀ (σ : ka_S) (i : Nat) (o : Int64), K σ → kl_step σ xs i o (fun σ1 _ => K σ1)) :
    ∀ (n j : Nat), 5 * j ≤ L → L < 5 * (j + n) → ∀ (σ : ka_S) (o : Int64) (H : Heap) (locs : List Loc), K σ → kl_W G s σ o H locs → ∀ ls : Array Slot, lv_has ls 7 [(0, .ref b), (1, .ref (ka_a G (22, 0, 0))), (2, .ref (ka_a G (25, 0, 0))), (3, .ref G.2.2.2), (4, .int (nI (5 * j)))] → W p l e room_1 s m #[.ref b] below meth c H locs (1300 + 2 * j) (20000 + 12 * j) (lw_Z below #[Value.ref b] s) (F0 m 23 ls []) := by
  obtain ⟨hx, hb, hr, hml, hown, hts, hlocks⟩ := id C0
  have hbA : ¬ ka_A9 G b := fun z => by have : G.2.2.1 ≤ b := z; rw [hC.2.2.2.2.1] at this; omega
  intro n
  induction n with
  | zero => intro j h1 h2; exact absurd h2 (by omega)
  | succ n ih =>
    intro j h1 h2 σ o H locs hk hw ls hl
    refine lv_iload hx hb dL_law_23 (lv_at hl 4 rfl) ?_
    refine lv_aload_n hx hb dL_law_25 rfl (lv_at hl 0 rfl) ?_
    refine va_slen hx hb hX hbl hbA hw.2.2.1 dL_law_26 ?_
    refine lv_iconst (v := 5) hx hb dL_law_27 (by decide) ?_
    refine lv_isub hx hb dL_law_28 ?_
    have hcmp : (nI L - 5 < nI (5 * j)) ↔ L < 5 * j + 5 := by
      rw [Int32.lt_iff_toInt_lt, show (5 : Int32) = nI 5 from rfl, pk_sub_toInt (by omega) (by decide), nI_toInt (by omega)]
      omega
    refine lv_icmp_gt (tgt := 1967) hx hb dL_law_29 (by decide) (fun hc => ?_) (fun hc => ?_)
    · refine lv_iconst (v := 1) hx hb dL_law_1967 (by decide) ?_
      refine va_forget (fun q hq => by rw [← hC.2.2.2.2.1]; exact hw.2.2.1.2.2 q hq) ?_
      refine W.widen (k := 601024) (n := 7293034) (by omega) (by omega) ?_
      exact lw_ret hx hb hr hlocks dL_law_1968
    · have hi : 5 * j + 5 ≤ L := by
        rcases Nat.lt_or_ge L (5 * j + 5) with q | q
        · exact absurd (hcmp.mpr q) hc
        · exact q
      refine kl_sw hl0 C0 hC hX hbl hL hi (by omega) (by omega) (fun σ1 o1 H1 locs1 hk1 hw1 ls1 hl1 => ?_) (hstep σ (5 * j) o hk) hw hl
      refine lv_iinc (v := nI (5 * (j + 1))) (lv' := [(4, .int (nI (5 * (j + 1)))), (0, .ref b), (1, .ref (ka_a G (22, 0, 0))), (2, .ref (ka_a G (25, 0, 0))), (3, .ref G.2.2.2)]) hx hb dL_law_1961 hl1 (k := 4) rfl (by show nI (5 * j) + nI 5 = nI (5 * (j + 1)); rw [nI_add]; congr 1) (by decide) rfl (fun ls hl => ?_)
      refine lv_goto (tgt := 23) hx hb dL_law_1964 (by decide) ?_
      exact ih (j + 1) (by omega) (by omega) σ1 o1 _ _ hk1 hw1 ls (lv_sub hl [1, 2, 3, 4, 0] rfl)
theorem kn_P_qo {D : va_G} {r : Nat → ClassId} {b q1 q2 : Nat} {σ : ka_S} {H : Heap} (h : ka_P (kn_G D r b q1) σ H) : ka_P (kn_G D r b q2) σ H := fun k hv => h k hv
theorem kw_ex1 : ∀ q ∈ ka_Ts, Cond.exactly (.string "GlossRows" q.1) "java/lang/String" ∈ flatC (Jvm.Cond.and given_1 narrow_1) := by decide +kernel
theorem kw_ex2 : ∀ q ∈ ka_Ts, Cond.stringRef "GlossRows" q.1 q.2 ∈ tables_1 := by decide +kernel
theorem kw_ex3 : ∀ i, i < 3 → ∀ j, j < 3 → i ≠ j → Cond.not (.castable (ka_E i) (ka_E j)) ∈ flatC (Jvm.Cond.and given_1 narrow_1) := by decide +kernel
theorem kw_ex4 : ∀ w ∈ ka_Tw ++ kn_w, w ∈ tables_1 ∧ w.onTables = true := by decide +kernel
theorem kw_ex5 : Cond.isRef (.static Bundle.tN "UNASSIGNED_STACK" Bundle.steD) ∈ flatC (Jvm.Cond.and given_1 narrow_1) ∧ Cond.isRef (.static Bundle.tN "SUPPRESSED_SENTINEL" Bundle.listD) ∈ flatC (Jvm.Cond.and given_1 narrow_1) := by decide +kernel
theorem kw_ex6 : Cond.laysStatic Bundle.tN "UNASSIGNED_STACK" Bundle.steD ∈ tables_1 ∧ Cond.laysStatic Bundle.tN "SUPPRESSED_SENTINEL" Bundle.listD ∈ tables_1 ∧ Cond.initialized Bundle.tN ∈ tables_1 ∧ Cond.arrayOver (.object "GlossRows$Word") ∈ tables_1 ∧ Cond.arrayOver (.object "GlossRows$Page") ∈ tables_1 := by decide +kernel
theorem kw_tab {w : Cond} (h : w ∈ tables_1) : w ∈ lw_tbl := List.mem_append_right _ h
/-- an array's class, as the tables tell it -/
theorem kw_arr {args : Array Value} {s : State} {ty : FieldType} (h : (Cond.arrayClass ty).before args s = true) (hr : ∀ cA, s.vm.findClass ("[" ++ ty.toString) = some cA → va_RA s cA ty) : ∃ cA, ArrOfT s cA ty ∧ va_RA s cA ty := by
  obtain ⟨cA, kA, comp, h1, h2, h3⟩ := Cond.arrayClass_spec h
  exact ⟨cA, fun n z => ⟨fun k h => (by cases h), kA, h2, comp, h3⟩, hr cA h1⟩
theorem kw_arrO {args : Array Value} {s : State} {C : String} (h : (Cond.arrayOver (.object C)).before args s = true) : ∃ cA, ArrOfT s cA (.object C) ∧ va_RA s cA (.object C) := by
  obtain ⟨comp, cA, kA, h1, h2, h3, h4, h5⟩ := Cond.arrayOver_spec h
  exact ⟨cA, fun n z => ⟨fun k h => (by cases h), kA, h3, comp, h4⟩, kA, comp, h3, h4, h1, h5⟩
set_option maxHeartbeats 4000000 in
set_option maxRecDepth 100000 in
/-- what holds at the law's entry, in the words of the contracts -/
theorem kw_entry {args : Array Value} {s : State} (hts9 : ∀ w ∈ lw_tbl, w.before args s = true) (hgv : (Jvm.Cond.and given_1 narrow_1).before args s = true) : ∃ (D : va_G) (r : Nat → ClassId), ∀ qo, kn_N (kn_G D r s.heap.size qo) s ∧ ka_T (kn_G D r s.heap.size qo) s ∧ kl_Nc s := by
  have hts : ∀ w ∈ kq_W, w.before args s = true := fun w hw => hts9 w (kq_in hw)
  have hs := flat_of_before _ hgv
  obtain ⟨cX0, iX0, hkX0⟩ := u_known (C := RX0) (T := TX0) (N := 3) (n := 3) hts kq_inX0 (hts _ kq_213)
  obtain ⟨cX1, iX1, hkX1⟩ := u_known (C := RX1) (T := TX1) (N := 7) (n := 7) hts kq_inX1 (hts _ kq_180)
  obtain ⟨cX3, iX3, hkX3⟩ := u_known (C := RX3) (T := TX3) (N := 3) (n := 3) hts kq_inX3 (hts _ kq_124)
  obtain ⟨cX4, iX4, hkX4⟩ := u_known (C := RX4) (T := TX4) (N := 6) (n := 6) hts kq_inX4 (hts _ kq_117)
  obtain ⟨cX5, iX5, hkX5⟩ := u_known (C := RX5) (T := TX5) (N := 5) (n := 5) hts kq_inX5 (hts _ kq_46)
  obtain ⟨cX6, iX6, hkX6⟩ := u_known (C := RX6) (T := TX6) (N := 2) (n := 2) hts kq_inX6 (hts _ kq_27)
  obtain ⟨cX7, iX7, hkX7⟩ := u_known (C := RX7) (T := TX7) (N := 7) (n := 7) hts kq_inX7 (hts _ kq_53)
  obtain ⟨cX8, iX8, hkX8⟩ := u_known (C := RX8) (T := TX8) (N := 8) (n := 8) hts kq_inX8 (hts _ kq_19)
  obtain ⟨cX9, iX9, hkX9⟩ := u_known (C := RX9) (T := TX9) (N := 22) (n := 22) hts kq_inX9 (hts _ kq_945)
  obtain ⟨aI, hI1, hI2⟩ := kw_arr (hts _ kn_aI) (fun cA h => h)
  obtain ⟨aJ, hJ1, hJ2⟩ := kw_arr (hts _ kn_aJ) (fun cA h => h)
  obtain ⟨aZ, hZ1, hZ2⟩ := kw_arr (hts _ kn_aZ) (fun cA h => h)
  obtain ⟨aW, hW1, hW2⟩ := kw_arrO (hts9 _ (kw_tab kw_ex6.2.2.2.1))
  obtain ⟨aP, hP1, hP2⟩ := kw_arrO (hts9 _ (kw_tab kw_ex6.2.2.2.2))
  refine ⟨(fun k => if k = 0 then cX0 else if k = 1 then cX1 else if k = 2 then cX3 else if k = 3 then cX4 else if k = 4 then cX5 else if k = 5 then cX6 else if k = 6 then cX7 else if k = 7 then cX8 else cX9, fun k => if k = 0 then iX0 else if k = 1 then iX1 else if k = 2 then iX3 else if k = 3 then iX4 else if k = 4 then iX5 else if k = 5 then iX6 else if k = 6 then iX7 else if k = 7 then iX8 else iX9), fun k => if k = 0 then aI else if k = 1 then aJ else if k = 2 then aZ else if k = 3 then aW else aP, fun qo => ⟨⟨⟨?_, ?_⟩, va_AO.of (hts9 _ (kw_tab kw_ex6.2.2.2.1)), va_AO.of (hts9 _ (kw_tab kw_ex6.2.2.2.2)), ?_⟩, ⟨?_, ?_, ?_, ?_⟩, ?_⟩⟩
  · intro k q hq
    match k, hq with
    | 0, hq => cases hq; exact hkX0
    | 1, hq => cases hq; exact hkX1
    | 2, hq => cases hq; exact hkX3
    | 3, hq => cases hq; exact hkX4
    | 4, hq => cases hq; exact hkX5
    | 5, hq => cases hq; exact hkX6
    | 6, hq => cases hq; exact hkX7
    | 7, hq => cases hq; exact hkX8
    | 8, hq => cases hq; exact hkX9
    | k + 9, hq => simp [vwCl] at hq
  · intro k q hq
    match k, hq with
    | 0, hq => cases hq; exact ⟨hI1, hI2⟩
    | 1, hq => cases hq; exact ⟨hJ1, hJ2⟩
    | 2, hq => cases hq; exact ⟨hZ1, hZ2⟩
    | 3, hq => cases hq; exact ⟨hW1, hW2⟩
    | 4, hq => cases hq; exact ⟨hP1, hP2⟩
    | k + 5, hq => simp [ka_tys] at hq
  · intro w hw
    have h := kw_ex4 w (List.mem_append_right _ hw)
    exact va_tabs h.2 rfl (hts9 w (kw_tab h.1))
  · exact vx_Zqof (hts9 _ (kw_tab kw_ex6.1)) (hts9 _ (kw_tab kw_ex6.2.2.1)) (hs _ kw_ex5.1) (fun a ha z => absurd z.1 (Nat.not_le.mpr ha))
  · exact vx_Zqof (hts9 _ (kw_tab kw_ex6.2.1)) (hts9 _ (kw_tab kw_ex6.2.2.1)) (hs _ kw_ex5.2) (fun a ha z => absurd z.1 (Nat.not_le.mpr ha))
  · intro w hw
    have h := kw_ex4 w (List.mem_append_left _ hw)
    exact va_tabs h.2 rfl (hts9 w (kw_tab h.1))
  · intro q hq
    obtain ⟨a, c, cell, k, h1, -⟩ := Cond.exactly_spec (hs _ (kw_ex1 q hq))
    exact ⟨a, vk_R.same (u := s) rfl (vk_R.of (A := args) (hts9 _ (kw_tab (kw_ex2 q hq))) h1)⟩
  · intro i hi j hj hij
    exact va_Nc.of (hs _ (kw_ex3 i hi j hj hij))
set_option maxHeartbeats 4000000 in
set_option maxRecDepth 100000 in
/-- the law comes to its end with true, for a relation that holds behind the constructors and that every call keeps -/
theorem kl_whole {p : Program} {e : Env} {s : State} {m : MethodId} {below : List Frame} {meth : Method} {c : Code} (l : Launch) (hflags : l.flags = flags0) {b L : Nat} {xs : Nat → Int32} (hL : L ≤ 2560) (C9 : lw_At p s m meth c b L xs) (K : ka_S → Prop) (hinit : kw_X9_clean kn_σ (37, 0, 0) K) (hstep : ∀ (σ : ka_S) (i : Nat) (o : Int64), K σ → kl_step σ xs i o (fun σ1 _ => K σ1)) : W p l e room_1 s m #[Value.ref b] below meth c s.heap [] 0 0 (lw_Z below #[Value.ref b] s) (entryFrame m ([Value.ref b] : List Value).toArray 7) := by
  obtain ⟨hx, hb, hr, hml, hown, hts9, hX, hbl, hlocks, hgv⟩ := id C9
  have hl0 : l.stackTraces = false := by
    unfold Launch.stackTraces
    rw [hflags]
    decide +kernel
  have C0 : ka_C p s m #[.ref b] meth c cL_law 7 "GlossRowsLaw" (some .boolean) := ⟨hx, hb, hr, hml, hown, fun w hw => hts9 w (kq_in hw), hlocks⟩
  have hts := C0.2.2.2.2.2.1
  obtain ⟨D, r, hent⟩ := kw_entry hts9 hgv
  obtain ⟨b0, hb0⟩ : ∃ z, z = s.heap.size := ⟨_, rfl⟩
  have hN := (hent b).1
  rw [← hb0] at hN
  have hI0 : ka_I (kn_G D r b0 b) := kn_I (fun k hv => by omega)
  have hA : ∀ q, s.heap.size ≤ q → kn_A b0 q := fun q h => by rw [hb0]; exact h
  have hl := lv_entry ([.ref b]) (n := 7) (Nat.le_of_ble_eq_true rfl)
  rw [lg_entry_eq]
  generalize (lg_sl ([.ref b]) ++ List.replicate (7 - (lg_sl ([.ref b])).length) Slot.unset).toArray = ls at hl ⊢
  have hl : lv_has ls 7 [(0, .ref b)] := hl
  suffices body : ∀ (H : Heap), kn (kn_G D r b0 b) (kn_A b0) [] b0 s H [] → W p l e room_1 s m #[Value.ref b] below meth c H [] 0 0 (lw_Z below #[Value.ref b] s) (F0 m 0 ls []) from body s.heap ⟨hb0.symm, fun k q h => by simp at h, ⟨fun i j p q h => by simp at h, fun k q h => by simp at h⟩, va_S.rf⟩
  intro H hw
  refine kn_new (ci := 7) (fs := [.null, .null, .null, .null, .null, .null, .null, .null]) C0 hN hw hA kq_inX8 tyX8 tyX8_ok kq_18 kq_19 kq_1 rfl (fun z hz => by rcases (show z = 0 ∨ z = 1 ∨ z = 2 ∨ z = 3 ∨ z = 4 ∨ z = 5 ∨ z = 6 ∨ z = 7 by omega) with rfl | rfl | rfl | rfl | rfl | rfl | rfl | rfl <;> rfl) ⟨Nat.le_of_ble_eq_true rfl, Nat.le_of_ble_eq_true rfl⟩ dL_law_0 (fun H hw => ?_)
  refine lv_dup hx hb dL_law_3 rfl ?_
  refine kn_call (rest := [.ref b0]) C0 hN hw (Nat.le_refl _) hl (kn_X8_init l (kn_G D r b0 b) b0) rfl kq_20 kq_21 kq_1 kq_22 (by decide +kernel) ⟨rfl, rfl, Nat.le_of_ble_eq_true rfl, Nat.le_of_ble_eq_true rfl⟩ (Nat.le_of_ble_eq_true rfl) ⟨Nat.le_of_ble_eq_true rfl, Nat.le_of_ble_eq_true rfl⟩ dL_law_4 (fun H locs hw => ?_)
  replace hw : kn (kn_G D r b0 b) (kn_A b0) (kn_gj (kn_G D r b0 b) b0 2) (b0 + 1245) s H locs := hw.resize (show _ = b0 + 1245 by omega)
  refine lv_astore_n (lv' := [(1, .ref b0), (0, .ref b)]) hx hb dL_law_7 rfl hl (by decide) rfl (fun ls hl => ?_)
  have hcls := kn_class hw.2.1
  have hsz1 := hw.1
  refine kn_new (ci := 8) (fs := [.int 0, .null, .int 0, .int 0, .null, .null, .null, .null, .int 0, .null, .null, .int 0, .int 0, .int 0, .null, .null, .null, .null, .null, .null, .null, .null]) C0 hN hw hA kq_inX9 tyX9 tyX9_ok kq_944 kq_945 kq_9 rfl (fun z hz => by rcases (show z = 0 ∨ z = 1 ∨ z = 2 ∨ z = 3 ∨ z = 4 ∨ z = 5 ∨ z = 6 ∨ z = 7 ∨ z = 8 ∨ z = 9 ∨ z = 10 ∨ z = 11 ∨ z = 12 ∨ z = 13 ∨ z = 14 ∨ z = 15 ∨ z = 16 ∨ z = 17 ∨ z = 18 ∨ z = 19 ∨ z = 20 ∨ z = 21 by omega) with rfl | rfl | rfl | rfl | rfl | rfl | rfl | rfl | rfl | rfl | rfl | rfl | rfl | rfl | rfl | rfl | rfl | rfl | rfl | rfl | rfl | rfl <;> rfl) ⟨Nat.le_of_ble_eq_true rfl, Nat.le_of_ble_eq_true rfl⟩ dL_law_8 (fun H hw => ?_)
  refine lv_dup hx hb dL_law_11 rfl ?_
  have hcls2 : ∀ k : ka_K, ka_v k → k.1 ≤ 24 → va_at D vwCl (ka_a (kn_G D r b0 b) k, ka_c (kn_G D r b0 b) kn_σ k) H := kn_class (fun k q hq => hw.2.1 k q (by rw [List.getElem?_append_left (List.getElem?_eq_some_iff.mp hq).1]; exact hq))
  have hnew : va_at D vwCl (b0 + 1245, .inr (8, [.int 0, .null, .int 0, .int 0, .null, .null, .null, .null, .int 0, .null, .null, .int 0, .int 0, .int 0, .null, .null, .null, .null, .null, .null, .null, .null])) H := kn_P_mem.mp hw.2.1 _ (List.mem_append_right _ (List.mem_of_getElem? (i := 0) rfl))
  refine va_callv (va_runI (As := []) (rest := [.ref (b0 + 1245)]) C0.fix (kn_X9_init l (show b < b0 by rw [hb0]; exact hbl) hI0 hinit) ⟨callB_of (Ts := kq_W) 0 hts ?_ rfl rfl rfl (hts _ kq_9) (hts _ kq_946) (by decide +kernel) ⟨Nat.le_of_ble_eq_true rfl, Nat.le_of_ble_eq_true rfl⟩, rfl, hts _ kq_947⟩ ⟨?_, fun U hU hW => ⟨rfl, hN.warm hW, by rw [hU]; exact hw.1, by rw [hU]; exact hnew, by rw [hU]; exact hcls2⟩⟩ rfl rfl hl.1 rfl (lv_room (Nat.le_of_ble_eq_true rfl)) dL_law_12 ⟨Nat.le_of_ble_eq_true rfl, Nat.le_of_ble_eq_true rfl⟩) hw.2.2.2 (fun q _ h => h.1) (fun q h => h.1) (fun σ t H1 locs1 ht hvm hk hB hz hk1 hS1 => ?_)
  · intro w hw
    rcases List.mem_cons.mp hw with h | h
    · subst h; exact ⟨kq_948, kq_good kq_948⟩
    · exact ⟨h, kq_good h⟩
  · exact fun a9 U g mk q => ⟨q.1, q.2.1.same (U := U.calling g mk a9) rfl, q.2.2.1, q.2.2.2.1, q.2.2.2.2⟩
  have hPs : ka_P (kn_G D r b0 b) σ H1 := by rw [← ht]; exact hB.1
  refine lv_astore_n (lv' := [(2, .ref (b0 + 1245)), (1, .ref b0), (0, .ref b)]) hx hb dL_law_15 rfl hl (by decide) rfl (fun ls hl => ?_)
  refine lv_iconst (v := 1) hx hb dL_law_16 (by decide) ?_
  refine va_newaK (N := 1) (atype := .long) hx hb (hts _ kn_aJ) rfl dL_law_17 rfl (by decide) (by decide) (by decide) (Nat.le_of_ble_eq_true rfl) (Nat.le_of_ble_eq_true rfl) rfl fun H2 cA e1 z1 o1 hAr hNm => ?_
  have hcA : cA = ka_r (kn_G D r b0 b) 1 := Option.some.inj (hNm.symm.trans (hN.1.2 1 _ rfl).2)
  have hP2 : ka_P (kn_G D r b0 H1.size) σ H2 := kn_P_qo (hPs.grow o1)
  have hC : kl_C (kn_G D r b0 H1.size) s := by
    have h9 := hent H1.size
    rw [← hb0] at h9
    refine ⟨kn_I (fun k hv => ?_), h9.1.1, h9.2.1, h9.2.2, hb0, ?_⟩
    · have := (hPs k hv).lt
      exact Nat.ne_of_lt this
    · exact Nat.le_of_lt (Nat.lt_of_le_of_lt (Nat.le_add_right b0 _) (hPs (22, 0, 0) (kv_s (by decide) (by decide))).lt)
  refine lv_astore_n (lv' := [(3, .ref H1.size), (2, .ref (b0 + 1245)), (1, .ref b0), (0, .ref b)]) hx hb dL_law_19 rfl hl (by decide) rfl (fun ls hl => ?_)
  refine lv_iconst (v := 0) hx hb dL_law_20 (by decide) ?_
  refine lv_istore (lv' := [(4, .int 0), (3, .ref H1.size), (2, .ref (b0 + 1245)), (1, .ref b0), (0, .ref b)]) hx hb dL_law_21 hl (by decide) rfl (fun ls hl => ?_)
  refine W.widen (k := 1300 + 2 * 0) (n := 20000 + 12 * 0) (Nat.le_of_ble_eq_true rfl) (Nat.le_of_ble_eq_true rfl) ?_
  refine kl_loop (G := kn_G D r b0 H1.size) hl0 C0 hC hX hbl hL hstep (L + 1) 0 (by omega) (by omega) σ 0 H2 locs1 hk ⟨hP2, ?_, ?_, ?_⟩ ls (lv_sub hl [4, 3, 2, 1, 0] rfl)
  · show H2[H1.size]? = some (vp_cell _ _)
    rw [e1, hcA]
    rfl
  · exact ⟨by rw [z1]; exact Nat.le_trans hS1.1 (Nat.le_succ _), fun q h1 h2 => (o1 q (Nat.lt_of_lt_of_le h1 hS1.1)).trans (hS1.2.1 q h1 h2), hS1.2.2⟩
  · show H1.size < H2.size
    rw [z1]; exact Nat.lt_succ_self _
