def rm_X7_init : Room := { frames := 1, cells := 4, slots := 36, locals := 12 }
/-- what GlossRows$Word() makes at h -/
abbrev kn_wd (G : ka_G) (h : Nat) : va_W := [(h, .inr (6, [.ref (h + 1), .ref (h + 2), .ref (h + 3), .ref (h + 4), .int 0, .int 0, .int 0])), (h + 1, .inl (ka_r G 1, 4, .inr (.inl (fun _ => 0)))), (h + 2, .inl (ka_r G 1, 4, .inr (.inl (fun _ => 0)))), (h + 3, .inl (ka_r G 0, 4, .inl (fun _ => 0))), (h + 4, .inl (ka_r G 0, 24, .inl (fun _ => 0)))]
set_option maxHeartbeats 4000000 in
set_option maxRecDepth 100000 in
theorem kn_X7_init (l : Launch) (G : ka_G) (h : Nat) : kc_n l yX7_init (kw_ yX7_init cX7_init 1 none) rm_X7_init G h (.inr (6, [.null, .null, .null, .null, .int 0, .int 0, .int 0])) (kn_wd G h) 4 36 := by
  refine kn_of "GlossRows$Word" rfl rfl (by decide) (by decide) ?_
  intro p e s m below meth c C0 hN hin hs H locs hw ls hl
  obtain ⟨hx, hb, -, hml, hown, hts, -⟩ := id C0
  have hA : ∀ q, s.heap.size ≤ q → kn_A h q := fun q h9 => by rw [hs] at h9; exact Nat.le_of_succ_le h9
  refine lv_aload_n hx hb dX7_init_0 rfl (lv_at hl 0 rfl) ?_
  refine W.objInit hx hb hown (hts _ kq_56) (hts _ kq_23) (hts _ kq_24) rfl (hl.1.trans hml.symm) rfl dX7_init_1 (Nat.le_of_ble_eq_true rfl) (Nat.le_of_ble_eq_true rfl) ?_
  refine W.eq (g2 := F0 m 4 ls []) rfl ?_
  refine lv_aload_n hx hb dX7_init_4 rfl (lv_at hl 0 rfl) ?_
  refine lv_iconst (v := 4) hx hb dX7_init_5 (by decide) ?_
  refine kn_newa (t := 1) (N := 4) (a0 := (4, .inr (.inl (fun _ => 0)))) C0 hN hw hA rfl rfl (fun h => h) kn_aJ (fun _ => rfl) (by decide) (by decide) (by decide) ⟨Nat.le_of_ble_eq_true rfl, Nat.le_of_ble_eq_true rfl⟩ dX7_init_6 (fun H hw => ?_)
  have hw : kn G (kn_A h) [(h, .inr (6, [.null, .null, .null, .null, .int 0, .int 0, .int 0])), (h + 1, .inl (ka_r G 1, 4, .inr (.inl (fun _ => 0))))] (h + 2) s H locs := hw
  refine kn_putF (q0 := 0) (ci := 6) (j := 0) (C := RX7) (TT := TX7) (N := 7) (ty := tyX7 0) C0 hN hw rfl rfl kq_inX7 tyX7 tyX7_ok nmX7 (by decide) rfl kq_57 rfl hin (tyX7_ok 0 (by decide)) rfl rfl (Nat.le_of_ble_eq_true rfl) dX7_init_8 (fun H locs hw => ?_)
  have hw : kn G (kn_A h) [(h, .inr (6, [.ref (h + 1), .null, .null, .null, .int 0, .int 0, .int 0])), (h + 1, .inl (ka_r G 1, 4, .inr (.inl (fun _ => 0))))] (h + 2) s H locs := hw
  refine lv_aload_n hx hb dX7_init_11 rfl (lv_at hl 0 rfl) ?_
  refine lv_iconst (v := 4) hx hb dX7_init_12 (by decide) ?_
  refine kn_newa (t := 1) (N := 4) (a0 := (4, .inr (.inl (fun _ => 0)))) C0 hN hw hA rfl rfl (fun h => h) kn_aJ (fun _ => rfl) (by decide) (by decide) (by decide) ⟨Nat.le_of_ble_eq_true rfl, Nat.le_of_ble_eq_true rfl⟩ dX7_init_13 (fun H hw => ?_)
  have hw : kn G (kn_A h) [(h, .inr (6, [.ref (h + 1), .null, .null, .null, .int 0, .int 0, .int 0])), (h + 1, .inl (ka_r G 1, 4, .inr (.inl (fun _ => 0)))), (h + 2, .inl (ka_r G 1, 4, .inr (.inl (fun _ => 0))))] (h + 3) s H locs := hw
  refine kn_putF (q0 := 0) (ci := 6) (j := 1) (C := RX7) (TT := TX7) (N := 7) (ty := tyX7 1) C0 hN hw rfl rfl kq_inX7 tyX7 tyX7_ok nmX7 (by decide) rfl kq_61 rfl hin (tyX7_ok 1 (by decide)) rfl rfl (Nat.le_of_ble_eq_true rfl) dX7_init_15 (fun H locs hw => ?_)
  have hw : kn G (kn_A h) [(h, .inr (6, [.ref (h + 1), .ref (h + 2), .null, .null, .int 0, .int 0, .int 0])), (h + 1, .inl (ka_r G 1, 4, .inr (.inl (fun _ => 0)))), (h + 2, .inl (ka_r G 1, 4, .inr (.inl (fun _ => 0))))] (h + 3) s H locs := hw
  refine lv_aload_n hx hb dX7_init_18 rfl (lv_at hl 0 rfl) ?_
  refine lv_iconst (v := 4) hx hb dX7_init_19 (by decide) ?_
  refine kn_newa (t := 0) (N := 4) (a0 := (4, .inl (fun _ => 0))) C0 hN hw hA rfl rfl (fun h => h) kn_aI (fun _ => rfl) (by decide) (by decide) (by decide) ⟨Nat.le_of_ble_eq_true rfl, Nat.le_of_ble_eq_true rfl⟩ dX7_init_20 (fun H hw => ?_)
  have hw : kn G (kn_A h) [(h, .inr (6, [.ref (h + 1), .ref (h + 2), .null, .null, .int 0, .int 0, .int 0])), (h + 1, .inl (ka_r G 1, 4, .inr (.inl (fun _ => 0)))), (h + 2, .inl (ka_r G 1, 4, .inr (.inl (fun _ => 0)))), (h + 3, .inl (ka_r G 0, 4, .inl (fun _ => 0)))] (h + 4) s H locs := hw
  refine kn_putF (q0 := 0) (ci := 6) (j := 2) (C := RX7) (TT := TX7) (N := 7) (ty := tyX7 2) C0 hN hw rfl rfl kq_inX7 tyX7 tyX7_ok nmX7 (by decide) rfl kq_65 rfl hin (tyX7_ok 2 (by decide)) rfl rfl (Nat.le_of_ble_eq_true rfl) dX7_init_22 (fun H locs hw => ?_)
  have hw : kn G (kn_A h) [(h, .inr (6, [.ref (h + 1), .ref (h + 2), .ref (h + 3), .null, .int 0, .int 0, .int 0])), (h + 1, .inl (ka_r G 1, 4, .inr (.inl (fun _ => 0)))), (h + 2, .inl (ka_r G 1, 4, .inr (.inl (fun _ => 0)))), (h + 3, .inl (ka_r G 0, 4, .inl (fun _ => 0)))] (h + 4) s H locs := hw
  refine lv_aload_n hx hb dX7_init_25 rfl (lv_at hl 0 rfl) ?_
  refine lv_bipush (v := 24) hx hb dX7_init_26 (by decide) ?_
  refine kn_newa (t := 0) (N := 24) (a0 := (24, .inl (fun _ => 0))) C0 hN hw hA rfl rfl (fun h => h) kn_aI (fun _ => rfl) (by decide) (by decide) (by decide) ⟨Nat.le_of_ble_eq_true rfl, Nat.le_of_ble_eq_true rfl⟩ dX7_init_28 (fun H hw => ?_)
  have hw : kn G (kn_A h) [(h, .inr (6, [.ref (h + 1), .ref (h + 2), .ref (h + 3), .null, .int 0, .int 0, .int 0])), (h + 1, .inl (ka_r G 1, 4, .inr (.inl (fun _ => 0)))), (h + 2, .inl (ka_r G 1, 4, .inr (.inl (fun _ => 0)))), (h + 3, .inl (ka_r G 0, 4, .inl (fun _ => 0))), (h + 4, .inl (ka_r G 0, 24, .inl (fun _ => 0)))] (h + 5) s H locs := hw
  refine kn_putF (q0 := 0) (ci := 6) (j := 3) (C := RX7) (TT := TX7) (N := 7) (ty := tyX7 3) C0 hN hw rfl rfl kq_inX7 tyX7 tyX7_ok nmX7 (by decide) rfl kq_68 rfl hin (tyX7_ok 3 (by decide)) rfl rfl (Nat.le_of_ble_eq_true rfl) dX7_init_30 (fun H locs hw => ?_)
  have hw : kn G (kn_A h) [(h, .inr (6, [.ref (h + 1), .ref (h + 2), .ref (h + 3), .ref (h + 4), .int 0, .int 0, .int 0])), (h + 1, .inl (ka_r G 1, 4, .inr (.inl (fun _ => 0)))), (h + 2, .inl (ka_r G 1, 4, .inr (.inl (fun _ => 0)))), (h + 3, .inl (ka_r G 0, 4, .inl (fun _ => 0))), (h + 4, .inl (ka_r G 0, 24, .inl (fun _ => 0)))] (h + 5) s H locs := hw
  exact kn_ret C0 hs hw dX7_init_33
def rm_X3_init : Room := { frames := 1, cells := 2, slots := 32, locals := 12 }
/-- what GlossRows$Lexicon() makes at h -/
abbrev kn_lx (G : ka_G) (h : Nat) : va_W := [(h, .inr (2, [.ref (h + 1), .ref (h + 2), .int 0])), (h + 1, .inl (ka_r G 1, 16, .inr (.inl (fun _ => 0)))), (h + 2, .inl (ka_r G 1, 16, .inr (.inl (fun _ => 0))))]
set_option maxHeartbeats 4000000 in
set_option maxRecDepth 100000 in
theorem kn_X3_init (l : Launch) (G : ka_G) (h : Nat) : kc_n l yX3_init (kw_ yX3_init cX3_init 1 none) rm_X3_init G h (.inr (2, [.null, .null, .int 0])) (kn_lx G h) 2 32 := by
  refine kn_of "GlossRows$Lexicon" rfl rfl (by decide) (by decide) ?_
  intro p e s m below meth c C0 hN hin hs H locs hw ls hl
  obtain ⟨hx, hb, -, hml, hown, hts, -⟩ := id C0
  have hA : ∀ q, s.heap.size ≤ q → kn_A h q := fun q h9 => by rw [hs] at h9; exact Nat.le_of_succ_le h9
  refine lv_aload_n hx hb dX3_init_0 rfl (lv_at hl 0 rfl) ?_
  refine W.objInit hx hb hown (hts _ kq_127) (hts _ kq_23) (hts _ kq_24) rfl (hl.1.trans hml.symm) rfl dX3_init_1 (Nat.le_of_ble_eq_true rfl) (Nat.le_of_ble_eq_true rfl) ?_
  refine W.eq (g2 := F0 m 4 ls []) rfl ?_
  refine lv_aload_n hx hb dX3_init_4 rfl (lv_at hl 0 rfl) ?_
  refine lv_bipush (v := 16) hx hb dX3_init_5 (by decide) ?_
  refine kn_newa (t := 1) (N := 16) (a0 := (16, .inr (.inl (fun _ => 0)))) C0 hN hw hA rfl rfl (fun h => h) kn_aJ (fun _ => rfl) (by decide) (by decide) (by decide) ⟨Nat.le_of_ble_eq_true rfl, Nat.le_of_ble_eq_true rfl⟩ dX3_init_7 (fun H hw => ?_)
  have hw : kn G (kn_A h) [(h, .inr (2, [.null, .null, .int 0])), (h + 1, .inl (ka_r G 1, 16, .inr (.inl (fun _ => 0))))] (h + 2) s H locs := hw
  refine kn_putF (q0 := 0) (ci := 2) (j := 0) (C := RX3) (TT := TX3) (N := 3) (ty := tyX3 0) C0 hN hw rfl rfl kq_inX3 tyX3 tyX3_ok nmX3 (by decide) rfl kq_128 rfl hin (tyX3_ok 0 (by decide)) rfl rfl (Nat.le_of_ble_eq_true rfl) dX3_init_9 (fun H locs hw => ?_)
  have hw : kn G (kn_A h) [(h, .inr (2, [.ref (h + 1), .null, .int 0])), (h + 1, .inl (ka_r G 1, 16, .inr (.inl (fun _ => 0))))] (h + 2) s H locs := hw
  refine lv_aload_n hx hb dX3_init_12 rfl (lv_at hl 0 rfl) ?_
  refine lv_bipush (v := 16) hx hb dX3_init_13 (by decide) ?_
  refine kn_newa (t := 1) (N := 16) (a0 := (16, .inr (.inl (fun _ => 0)))) C0 hN hw hA rfl rfl (fun h => h) kn_aJ (fun _ => rfl) (by decide) (by decide) (by decide) ⟨Nat.le_of_ble_eq_true rfl, Nat.le_of_ble_eq_true rfl⟩ dX3_init_15 (fun H hw => ?_)
  have hw : kn G (kn_A h) [(h, .inr (2, [.ref (h + 1), .null, .int 0])), (h + 1, .inl (ka_r G 1, 16, .inr (.inl (fun _ => 0)))), (h + 2, .inl (ka_r G 1, 16, .inr (.inl (fun _ => 0))))] (h + 3) s H locs := hw
  refine kn_putF (q0 := 0) (ci := 2) (j := 1) (C := RX3) (TT := TX3) (N := 3) (ty := tyX3 1) C0 hN hw rfl rfl kq_inX3 tyX3 tyX3_ok nmX3 (by decide) rfl kq_130 rfl hin (tyX3_ok 1 (by decide)) rfl rfl (Nat.le_of_ble_eq_true rfl) dX3_init_17 (fun H locs hw => ?_)
  have hw : kn G (kn_A h) [(h, .inr (2, [.ref (h + 1), .ref (h + 2), .int 0])), (h + 1, .inl (ka_r G 1, 16, .inr (.inl (fun _ => 0)))), (h + 2, .inl (ka_r G 1, 16, .inr (.inl (fun _ => 0))))] (h + 3) s H locs := hw
  exact kn_ret C0 hs hw dX3_init_20
def rm_X6_init : Room := { frames := 1, cells := 1, slots := 60, locals := 12 }
/-- what GlossRows$Text() makes at h -/
abbrev kn_tx (G : ka_G) (h : Nat) : va_W := [(h, .inr (5, [.ref (h + 1), .int 0])), (h + 1, .inl (ka_r G 0, 60, .inl (fun _ => 0)))]
set_option maxHeartbeats 4000000 in
set_option maxRecDepth 100000 in
theorem kn_X6_init (l : Launch) (G : ka_G) (h : Nat) : kc_n l yX6_init (kw_ yX6_init cX6_init 1 none) rm_X6_init G h (.inr (5, [.null, .int 0])) (kn_tx G h) 1 60 := by
  refine kn_of "GlossRows$Text" rfl rfl (by decide) (by decide) ?_
  intro p e s m below meth c C0 hN hin hs H locs hw ls hl
  obtain ⟨hx, hb, -, hml, hown, hts, -⟩ := id C0
  have hA : ∀ q, s.heap.size ≤ q → kn_A h q := fun q h9 => by rw [hs] at h9; exact Nat.le_of_succ_le h9
  refine lv_aload_n hx hb dX6_init_0 rfl (lv_at hl 0 rfl) ?_
  refine W.objInit hx hb hown (hts _ kq_30) (hts _ kq_23) (hts _ kq_24) rfl (hl.1.trans hml.symm) rfl dX6_init_1 (Nat.le_of_ble_eq_true rfl) (Nat.le_of_ble_eq_true rfl) ?_
  refine W.eq (g2 := F0 m 4 ls []) rfl ?_
  refine lv_aload_n hx hb dX6_init_4 rfl (lv_at hl 0 rfl) ?_
  refine lv_bipush (v := 60) hx hb dX6_init_5 (by decide) ?_
  refine kn_newa (t := 0) (N := 60) (a0 := (60, .inl (fun _ => 0))) C0 hN hw hA rfl rfl (fun h => h) kn_aI (fun _ => rfl) (by decide) (by decide) (by decide) ⟨Nat.le_of_ble_eq_true rfl, Nat.le_of_ble_eq_true rfl⟩ dX6_init_7 (fun H hw => ?_)
  have hw : kn G (kn_A h) [(h, .inr (5, [.null, .int 0])), (h + 1, .inl (ka_r G 0, 60, .inl (fun _ => 0)))] (h + 2) s H locs := hw
  refine kn_putF (q0 := 0) (ci := 5) (j := 0) (C := RX6) (TT := TX6) (N := 2) (ty := tyX6 0) C0 hN hw rfl rfl kq_inX6 tyX6 tyX6_ok nmX6 (by decide) rfl kq_31 rfl hin (tyX6_ok 0 (by decide)) rfl rfl (Nat.le_of_ble_eq_true rfl) dX6_init_9 (fun H locs hw => ?_)
  have hw : kn G (kn_A h) [(h, .inr (5, [.ref (h + 1), .int 0])), (h + 1, .inl (ka_r G 0, 60, .inl (fun _ => 0)))] (h + 2) s H locs := hw
  exact kn_ret C0 hs hw dX6_init_12
def rm_X1_init : Room := { frames := 1, cells := 5, slots := 60, locals := 12 }
/-- what GlossRows$Layout() makes at h -/
abbrev kn_ly (G : ka_G) (h : Nat) : va_W := [(h, .inr (1, [.ref (h + 1), .ref (h + 2), .ref (h + 3), .int 0, .int 0, .ref (h + 4), .ref (h + 5)])), (h + 1, .inl (ka_r G 0, 12, .inl (fun _ => 0))), (h + 2, .inl (ka_r G 0, 12, .inl (fun _ => 0))), (h + 3, .inl (ka_r G 0, 12, .inl (fun _ => 0))), (h + 4, .inl (ka_r G 0, 12, .inl (fun _ => 0))), (h + 5, .inl (ka_r G 0, 12, .inl (fun _ => 0)))]
set_option maxHeartbeats 4000000 in
set_option maxRecDepth 100000 in
theorem kn_X1_init (l : Launch) (G : ka_G) (h : Nat) : kc_n l yX1_init (kw_ yX1_init cX1_init 1 none) rm_X1_init G h (.inr (1, [.null, .null, .null, .int 0, .int 0, .null, .null])) (kn_ly G h) 5 60 := by
  refine kn_of "GlossRows$Layout" rfl rfl (by decide) (by decide) ?_
  intro p e s m below meth c C0 hN hin hs H locs hw ls hl
  obtain ⟨hx, hb, -, hml, hown, hts, -⟩ := id C0
  have hA : ∀ q, s.heap.size ≤ q → kn_A h q := fun q h9 => by rw [hs] at h9; exact Nat.le_of_succ_le h9
  refine lv_aload_n hx hb dX1_init_0 rfl (lv_at hl 0 rfl) ?_
  refine W.objInit hx hb hown (hts _ kq_183) (hts _ kq_23) (hts _ kq_24) rfl (hl.1.trans hml.symm) rfl dX1_init_1 (Nat.le_of_ble_eq_true rfl) (Nat.le_of_ble_eq_true rfl) ?_
  refine W.eq (g2 := F0 m 4 ls []) rfl ?_
  refine lv_aload_n hx hb dX1_init_4 rfl (lv_at hl 0 rfl) ?_
  refine lv_bipush (v := 12) hx hb dX1_init_5 (by decide) ?_
  refine kn_newa (t := 0) (N := 12) (a0 := (12, .inl (fun _ => 0))) C0 hN hw hA rfl rfl (fun h => h) kn_aI (fun _ => rfl) (by decide) (by decide) (by decide) ⟨Nat.le_of_ble_eq_true rfl, Nat.le_of_ble_eq_true rfl⟩ dX1_init_7 (fun H hw => ?_)
  have hw : kn G (kn_A h) [(h, .inr (1, [.null, .null, .null, .int 0, .int 0, .null, .null])), (h + 1, .inl (ka_r G 0, 12, .inl (fun _ => 0)))] (h + 2) s H locs := hw
  refine kn_putF (q0 := 0) (ci := 1) (j := 0) (C := RX1) (TT := TX1) (N := 7) (ty := tyX1 0) C0 hN hw rfl rfl kq_inX1 tyX1 tyX1_ok nmX1 (by decide) rfl kq_184 rfl hin (tyX1_ok 0 (by decide)) rfl rfl (Nat.le_of_ble_eq_true rfl) dX1_init_9 (fun H locs hw => ?_)
  have hw : kn G (kn_A h) [(h, .inr (1, [.ref (h + 1), .null, .null, .int 0, .int 0, .null, .null])), (h + 1, .inl (ka_r G 0, 12, .inl (fun _ => 0)))] (h + 2) s H locs := hw
  refine lv_aload_n hx hb dX1_init_12 rfl (lv_at hl 0 rfl) ?_
  refine lv_bipush (v := 12) hx hb dX1_init_13 (by decide) ?_
  refine kn_newa (t := 0) (N := 12) (a0 := (12, .inl (fun _ => 0))) C0 hN hw hA rfl rfl (fun h => h) kn_aI (fun _ => rfl) (by decide) (by decide) (by decide) ⟨Nat.le_of_ble_eq_true rfl, Nat.le_of_ble_eq_true rfl⟩ dX1_init_15 (fun H hw => ?_)
  have hw : kn G (kn_A h) [(h, .inr (1, [.ref (h + 1), .null, .null, .int 0, .int 0, .null, .null])), (h + 1, .inl (ka_r G 0, 12, .inl (fun _ => 0))), (h + 2, .inl (ka_r G 0, 12, .inl (fun _ => 0)))] (h + 3) s H locs := hw
  refine kn_putF (q0 := 0) (ci := 1) (j := 1) (C := RX1) (TT := TX1) (N := 7) (ty := tyX1 1) C0 hN hw rfl rfl kq_inX1 tyX1 tyX1_ok nmX1 (by decide) rfl kq_186 rfl hin (tyX1_ok 1 (by decide)) rfl rfl (Nat.le_of_ble_eq_true rfl) dX1_init_17 (fun H locs hw => ?_)
  have hw : kn G (kn_A h) [(h, .inr (1, [.ref (h + 1), .ref (h + 2), .null, .int 0, .int 0, .null, .null])), (h + 1, .inl (ka_r G 0, 12, .inl (fun _ => 0))), (h + 2, .inl (ka_r G 0, 12, .inl (fun _ => 0)))] (h + 3) s H locs := hw
  refine lv_aload_n hx hb dX1_init_20 rfl (lv_at hl 0 rfl) ?_
  refine lv_bipush (v := 12) hx hb dX1_init_21 (by decide) ?_
  refine kn_newa (t := 0) (N := 12) (a0 := (12, .inl (fun _ => 0))) C0 hN hw hA rfl rfl (fun h => h) kn_aI (fun _ => rfl) (by decide) (by decide) (by decide) ⟨Nat.le_of_ble_eq_true rfl, Nat.le_of_ble_eq_true rfl⟩ dX1_init_23 (fun H hw => ?_)
  have hw : kn G (kn_A h) [(h, .inr (1, [.ref (h + 1), .ref (h + 2), .null, .int 0, .int 0, .null, .null])), (h + 1, .inl (ka_r G 0, 12, .inl (fun _ => 0))), (h + 2, .inl (ka_r G 0, 12, .inl (fun _ => 0))), (h + 3, .inl (ka_r G 0, 12, .inl (fun _ => 0)))] (h + 4) s H locs := hw
  refine kn_putF (q0 := 0) (ci := 1) (j := 2) (C := RX1) (TT := TX1) (N := 7) (ty := tyX1 2) C0 hN hw rfl rfl kq_inX1 tyX1 tyX1_ok nmX1 (by decide) rfl kq_188 rfl hin (tyX1_ok 2 (by decide)) rfl rfl (Nat.le_of_ble_eq_true rfl) dX1_init_25 (fun H locs hw => ?_)
  have hw : kn G (kn_A h) [(h, .inr (1, [.ref (h + 1), .ref (h + 2), .ref (h + 3), .int 0, .int 0, .null, .null])), (h + 1, .inl (ka_r G 0, 12, .inl (fun _ => 0))), (h + 2, .inl (ka_r G 0, 12, .inl (fun _ => 0))), (h + 3, .inl (ka_r G 0, 12, .inl (fun _ => 0)))] (h + 4) s H locs := hw
  refine lv_aload_n hx hb dX1_init_28 rfl (lv_at hl 0 rfl) ?_
  refine lv_bipush (v := 12) hx hb dX1_init_29 (by decide) ?_
  refine kn_newa (t := 0) (N := 12) (a0 := (12, .inl (fun _ => 0))) C0 hN hw hA rfl rfl (fun h => h) kn_aI (fun _ => rfl) (by decide) (by decide) (by decide) ⟨Nat.le_of_ble_eq_true rfl, Nat.le_of_ble_eq_true rfl⟩ dX1_init_31 (fun H hw => ?_)
  have hw : kn G (kn_A h) [(h, .inr (1, [.ref (h + 1), .ref (h + 2), .ref (h + 3), .int 0, .int 0, .null, .null])), (h + 1, .inl (ka_r G 0, 12, .inl (fun _ => 0))), (h + 2, .inl (ka_r G 0, 12, .inl (fun _ => 0))), (h + 3, .inl (ka_r G 0, 12, .inl (fun _ => 0))), (h + 4, .inl (ka_r G 0, 12, .inl (fun _ => 0)))] (h + 5) s H locs := hw
  refine kn_putF (q0 := 0) (ci := 1) (j := 5) (C := RX1) (TT := TX1) (N := 7) (ty := tyX1 5) C0 hN hw rfl rfl kq_inX1 tyX1 tyX1_ok nmX1 (by decide) rfl kq_194 rfl hin (tyX1_ok 5 (by decide)) rfl rfl (Nat.le_of_ble_eq_true rfl) dX1_init_33 (fun H locs hw => ?_)
  have hw : kn G (kn_A h) [(h, .inr (1, [.ref (h + 1), .ref (h + 2), .ref (h + 3), .int 0, .int 0, .ref (h + 4), .null])), (h + 1, .inl (ka_r G 0, 12, .inl (fun _ => 0))), (h + 2, .inl (ka_r G 0, 12, .inl (fun _ => 0))), (h + 3, .inl (ka_r G 0, 12, .inl (fun _ => 0))), (h + 4, .inl (ka_r G 0, 12, .inl (fun _ => 0)))] (h + 5) s H locs := hw
  refine lv_aload_n hx hb dX1_init_36 rfl (lv_at hl 0 rfl) ?_
  refine lv_bipush (v := 12) hx hb dX1_init_37 (by decide) ?_
  refine kn_newa (t := 0) (N := 12) (a0 := (12, .inl (fun _ => 0))) C0 hN hw hA rfl rfl (fun h => h) kn_aI (fun _ => rfl) (by decide) (by decide) (by decide) ⟨Nat.le_of_ble_eq_true rfl, Nat.le_of_ble_eq_true rfl⟩ dX1_init_39 (fun H hw => ?_)
  have hw : kn G (kn_A h) [(h, .inr (1, [.ref (h + 1), .ref (h + 2), .ref (h + 3), .int 0, .int 0, .ref (h + 4), .null])), (h + 1, .inl (ka_r G 0, 12, .inl (fun _ => 0))), (h + 2, .inl (ka_r G 0, 12, .inl (fun _ => 0))), (h + 3, .inl (ka_r G 0, 12, .inl (fun _ => 0))), (h + 4, .inl (ka_r G 0, 12, .inl (fun _ => 0))), (h + 5, .inl (ka_r G 0, 12, .inl (fun _ => 0)))] (h + 6) s H locs := hw
  refine kn_putF (q0 := 0) (ci := 1) (j := 6) (C := RX1) (TT := TX1) (N := 7) (ty := tyX1 6) C0 hN hw rfl rfl kq_inX1 tyX1 tyX1_ok nmX1 (by decide) rfl kq_195 rfl hin (tyX1_ok 6 (by decide)) rfl rfl (Nat.le_of_ble_eq_true rfl) dX1_init_41 (fun H locs hw => ?_)
  have hw : kn G (kn_A h) [(h, .inr (1, [.ref (h + 1), .ref (h + 2), .ref (h + 3), .int 0, .int 0, .ref (h + 4), .ref (h + 5)])), (h + 1, .inl (ka_r G 0, 12, .inl (fun _ => 0))), (h + 2, .inl (ka_r G 0, 12, .inl (fun _ => 0))), (h + 3, .inl (ka_r G 0, 12, .inl (fun _ => 0))), (h + 4, .inl (ka_r G 0, 12, .inl (fun _ => 0))), (h + 5, .inl (ka_r G 0, 12, .inl (fun _ => 0)))] (h + 6) s H locs := hw
  exact kn_ret C0 hs hw dX1_init_44
theorem kn_up (g : Nat → Nat) (j : Nat) : va_up (fun q => if q < j then some (g q) else none) j (some (g j)) = fun q => if q < j + 1 then some (g q) else none := by
  funext q
  by_cases h : q = j
  · subst h; simp [va_up]
  · by_cases h2 : q < j
    · rw [va_up, if_neg h, if_pos h2, if_pos (by omega)]
    · rw [va_up, if_neg h, if_neg h2, if_neg (by omega)]
theorem kn_flat {α : Type} (f : Nat → List α) (j : Nat) : (List.range j).flatMap f ++ f j = (List.range (j + 1)).flatMap f := by
  rw [List.range_succ, List.flatMap_append]
  simp
theorem kn_P_mem {D : va_G} {cl : List vw_C} {ws : va_W} {H : Heap} : va_P D cl ws H ↔ ∀ x ∈ ws, va_at D cl x H := by
  constructor
  · intro h x hx
    obtain ⟨i, hi⟩ := List.getElem?_of_mem hx
    exact h i x hi
  · intro h k x hk
    exact h x (List.mem_of_getElem? hk)
theorem kn_D_nd {A : Nat → Prop} {ws : va_W} : va_D A ws ↔ (ws.map (fun x => x.1)).Nodup ∧ ∀ x ∈ ws, A x.1 := by
  constructor
  · intro h
    refine ⟨?_, fun x hx => ?_⟩
    · rw [List.Nodup, List.pairwise_iff_getElem]
      intro i j hi hj hij he
      rw [List.length_map] at hi hj
      have := h.1 i j ws[i] ws[j] (List.getElem?_eq_getElem hi) (List.getElem?_eq_getElem hj) (by simpa using he)
      omega
    · obtain ⟨i, hi⟩ := List.getElem?_of_mem hx
      exact h.2 i x hi
  · intro h
    refine ⟨fun i j p q hp hq he => ?_, fun k x hk => h.2 x (List.mem_of_getElem? hk)⟩
    obtain ⟨hi, rfl⟩ := List.getElem?_eq_some_iff.mp hp
    obtain ⟨hj, rfl⟩ := List.getElem?_eq_some_iff.mp hq
    have hn := h.1
    rw [List.Nodup, List.pairwise_iff_getElem] at hn
    rcases Nat.lt_trichotomy i j with hij | hij | hij
    · exact absurd (by rw [List.getElem_map, List.getElem_map]; exact he) (hn i j (by simpa using hi) (by simpa using hj) hij)
    · exact hij
    · exact absurd (by rw [List.getElem_map, List.getElem_map]; exact he.symm) (hn j i (by simpa using hj) (by simpa using hi) hij)
theorem kn.perm {G : ka_G} {A : Nat → Prop} {L L' : va_W} {sz : Nat} {s : State} {H : Heap} {locs : List Loc} (h : kn G A L sz s H locs) (hp : L.Perm L') : kn G A L' sz s H locs := by
  refine ⟨h.1, kn_P_mem.mpr (fun x hx => kn_P_mem.mp h.2.1 x (hp.mem_iff.mpr hx)), kn_D_nd.mpr ⟨?_, fun x hx => (kn_D_nd.mp h.2.2.1).2 x (hp.mem_iff.mpr hx)⟩, h.2.2.2⟩
  exact (hp.map _).nodup_iff.mp (kn_D_nd.mp h.2.2.1).1
set_option maxHeartbeats 4000000 in
set_option maxRecDepth 100000 in
/-- reset(), where only the page and its lexicon are told -/
theorem kn_reset (l : Launch) (G : ka_G) (pg lx a b c1 c2 : Nat) (x2 x3 x4 x5 x6 : Int32) : Met l yX4_reset (kw_ yX4_reset cX4_reset 1 none) rm_X4_reset (va_Pc [.ref pg] (fun U => ka_Kn G U ∧ va_P (ka_D G) vwCl [(pg, .inr (3, [.ref a, .ref lx, .int x2, .int x3, .int x4, .int x5])), (lx, .inr (2, [.ref c1, .ref c2, .int x6]))] U.heap ∧ va_D (fun q => q = pg ∨ q = lx) [(pg, .inr (3, [.ref a, .ref lx, .int x2, .int x3, .int x4, .int x5])), (lx, .inr (2, [.ref c1, .ref c2, .int x6]))])) (fun _ st oc t => oc = .returned none ∧ t.heap.size = st.heap.size ∧ va_P (ka_D G) vwCl [(pg, .inr (3, [.ref a, .ref lx, .int 0, .int 30, .int 2, .int 1])), (lx, .inr (2, [.ref c1, .ref c2, .int 0]))] t.heap ∧ ∀ q : Nat, q < st.heap.size → ¬ (q = pg ∨ q = lx) → t.heap[q]? = st.heap[q]?) 0 0 (fun q => q = pg ∨ q = lx) := by
  refine Met.ofW (cc := cX4_reset) (maxL := 1) (ret := none) (by decide) rfl ?_
  intro p e s m args below meth c s₁ B hml hv
  obtain ⟨rfl, hK, hP, hD⟩ := hv
  have hts0 := atoms_spec (ws := kw_ yX4_reset cX4_reset 1 none) B.pre
  have hl := lv_entry [.ref pg] (n := 1) (Nat.le_of_ble_eq_true rfl)
  rw [lg_entry_eq]
  generalize (lg_sl ([.ref pg]) ++ List.replicate (1 - (lg_sl ([.ref pg])).length) Slot.unset).toArray = ls at hl ⊢
  have hl : lv_has ls 1 [(0, .ref pg)] := hl
  have C0 : ka_C p s m #[.ref pg] meth c cX4_reset 1 "GlossRows$Page" none := ⟨B.exec, B.bytes, B.returns, hml, findClass_of_methodNamed B.named, fun w hw => hts0 w (List.mem_cons_of_mem _ hw), B.notSynchronized⟩
  obtain ⟨hx, hb, -, -, hown, hts, -⟩ := id C0
  have hw : kn G (fun q => q = pg ∨ q = lx) [(pg, .inr (3, [.ref a, .ref lx, .int x2, .int x3, .int x4, .int x5])), (lx, .inr (2, [.ref c1, .ref c2, .int x6]))] s.heap.size s s.heap [] := ⟨rfl, hP, hD, va_S.rf⟩
  refine lv_aload_n hx hb dX4_reset_0 rfl (lv_at hl 0 rfl) ?_
  refine lv_iconst (v := 0) hx hb dX4_reset_1 (by decide) ?_
  refine kn_put (q0 := 0) (ci := 3) (j := 2) (C := RX4) (TT := TX4) (N := 6) (ty := tyX4 2) C0 hK hw rfl rfl kq_inX4 tyX4 tyX4_ok nmX4 (by decide) rfl kq_153 rfl (tyX4_ok 2 (by decide)) rfl rfl (Nat.le_of_ble_eq_true rfl) dX4_reset_2 (fun H locs hw => ?_)
  have hw : kn G (fun q => q = pg ∨ q = lx) [(pg, .inr (3, [.ref a, .ref lx, .int 0, .int x3, .int x4, .int x5])), (lx, .inr (2, [.ref c1, .ref c2, .int x6]))] s.heap.size s H locs := hw
  refine lv_aload_n hx hb dX4_reset_5 rfl (lv_at hl 0 rfl) ?_
  refine kn_get (q0 := 0) (ci := 3) (j := 1) (C := RX4) (TT := TX4) (N := 6) C0 hK hw rfl rfl kq_inX4 (by decide) rfl kq_151 rfl dX4_reset_6 ?_
  refine lv_iconst (v := 0) hx hb dX4_reset_9 (by decide) ?_
  refine kn_put (q0 := 1) (ci := 2) (j := 2) (C := RX3) (TT := TX3) (N := 3) (ty := tyX3 2) C0 hK hw rfl rfl kq_inX3 tyX3 tyX3_ok nmX3 (by decide) rfl kq_134 rfl (tyX3_ok 2 (by decide)) rfl rfl (Nat.le_of_ble_eq_true rfl) dX4_reset_10 (fun H locs hw => ?_)
  have hw : kn G (fun q => q = pg ∨ q = lx) [(pg, .inr (3, [.ref a, .ref lx, .int 0, .int x3, .int x4, .int x5])), (lx, .inr (2, [.ref c1, .ref c2, .int 0]))] s.heap.size s H locs := hw
  refine lv_aload_n hx hb dX4_reset_13 rfl (lv_at hl 0 rfl) ?_
  refine lv_bipush (v := 30) hx hb dX4_reset_14 (by decide) ?_
  refine kn_put (q0 := 0) (ci := 3) (j := 3) (C := RX4) (TT := TX4) (N := 6) (ty := tyX4 3) C0 hK hw rfl rfl kq_inX4 tyX4 tyX4_ok nmX4 (by decide) rfl kq_156 rfl (tyX4_ok 3 (by decide)) rfl rfl (Nat.le_of_ble_eq_true rfl) dX4_reset_16 (fun H locs hw => ?_)
  have hw : kn G (fun q => q = pg ∨ q = lx) [(pg, .inr (3, [.ref a, .ref lx, .int 0, .int 30, .int x4, .int x5])), (lx, .inr (2, [.ref c1, .ref c2, .int 0]))] s.heap.size s H locs := hw
  refine lv_aload_n hx hb dX4_reset_19 rfl (lv_at hl 0 rfl) ?_
  refine lv_iconst (v := 2) hx hb dX4_reset_20 (by decide) ?_
  refine kn_put (q0 := 0) (ci := 3) (j := 4) (C := RX4) (TT := TX4) (N := 6) (ty := tyX4 4) C0 hK hw rfl rfl kq_inX4 tyX4 tyX4_ok nmX4 (by decide) rfl kq_159 rfl (tyX4_ok 4 (by decide)) rfl rfl (Nat.le_of_ble_eq_true rfl) dX4_reset_21 (fun H locs hw => ?_)
  have hw : kn G (fun q => q = pg ∨ q = lx) [(pg, .inr (3, [.ref a, .ref lx, .int 0, .int 30, .int 2, .int x5])), (lx, .inr (2, [.ref c1, .ref c2, .int 0]))] s.heap.size s H locs := hw
  refine lv_aload_n hx hb dX4_reset_24 rfl (lv_at hl 0 rfl) ?_
  refine lv_iconst (v := 1) hx hb dX4_reset_25 (by decide) ?_
  refine kn_put (q0 := 0) (ci := 3) (j := 5) (C := RX4) (TT := TX4) (N := 6) (ty := tyX4 5) C0 hK hw rfl rfl kq_inX4 tyX4 tyX4_ok nmX4 (by decide) rfl kq_162 rfl (tyX4_ok 5 (by decide)) rfl rfl (Nat.le_of_ble_eq_true rfl) dX4_reset_26 (fun H locs hw => ?_)
  have hw : kn G (fun q => q = pg ∨ q = lx) [(pg, .inr (3, [.ref a, .ref lx, .int 0, .int 30, .int 2, .int 1])), (lx, .inr (2, [.ref c1, .ref c2, .int 0]))] s.heap.size s H locs := hw
  exact W.vret C0.1 C0.2.1 C0.2.2.1 (fun t ht hW => ⟨rfl, by rw [ht]; exact hw.1, by rw [ht]; exact hw.2.1, fun q h1 h2 => by rw [ht]; exact hw.2.2.2.2.1 q h1 h2⟩) hw.2.2.2.2.2 dX4_reset_29 C0.2.2.2.2.2.2
def kn_pj (G : ka_G) (h j : Nat) : va_W := [(h, .inr (3, [.ref (h + 1), .ref (h + 2), .int 0, .int 0, .int 0, .int 0])), (h + 1, .inl (ka_r G 3, 12, .inr (.inr (.inr (.inr (fun q => if q < j then some (h + 5 + 5 * q) else none)))))), (h + 2, .inr (2, [.ref (h + 2 + 1), .ref (h + 2 + 2), .int 0])), (h + 2 + 1, .inl (ka_r G 1, 16, .inr (.inl (fun _ => 0)))), (h + 2 + 2, .inl (ka_r G 1, 16, .inr (.inl (fun _ => 0))))] ++ (List.range j).flatMap (fun q => kn_wd G (h + 5 + 5 * q))
/-- a page as its constructor leaves it -/
def kn_pg (G : ka_G) (h : Nat) : va_W := [(h, .inr (3, [.ref (h + 1), .ref (h + 2), .int 0, .int 30, .int 2, .int 1])), (h + 1, .inl (ka_r G 3, 12, .inr (.inr (.inr (.inr (fun q => if q < 12 then some (h + 5 + 5 * q) else none)))))), (h + 2, .inr (2, [.ref (h + 2 + 1), .ref (h + 2 + 2), .int 0])), (h + 2 + 1, .inl (ka_r G 1, 16, .inr (.inl (fun _ => 0)))), (h + 2 + 2, .inl (ka_r G 1, 16, .inr (.inl (fun _ => 0))))] ++ (List.range 12).flatMap (fun q => kn_wd G (h + 5 + 5 * q))
def rm_X4_init : Room := { frames := 2, cells := 64, slots := 563, locals := 32 }
set_option maxHeartbeats 4000000 in
set_option maxRecDepth 100000 in
theorem kn_X4_init_26 {p : Program} {l : Launch} {e : Env} {s : State} {m : MethodId} {args : Array Value} {below : List Frame} {meth : Method} {c : Code} {G : ka_G} {h : Nat} {Z : State → Prop} (C0 : ka_C p s m args meth c cX4_init 2 "GlossRows$Page" none) (hN : kn_N G s) (hs : s.heap.size = h + 1) (hA : ∀ q, s.heap.size ≤ q → kn_A h q)
    (kx : ∀ (H : Heap) (locs : List Loc), kn G (kn_A h) (kn_pj G h 12) (h + 5 + 5 * 12) s H locs → ∀ ls : Array Slot, lv_has ls 2 [(0, .ref h), (1, .int (nI 12))] → W p l e rm_X4_init s m args below meth c H locs (4 + 5 * 12) (47 + 43 * 12) Z (F0 m 51 ls [])) :
    ∀ (n j : Nat), j + n = 12 → ∀ (H : Heap) (locs : List Loc), kn G (kn_A h) (kn_pj G h j) (h + 5 + 5 * j) s H locs → ∀ ls : Array Slot, lv_has ls 2 [(0, .ref h), (1, .int (nI j))] → W p l e rm_X4_init s m args below meth c H locs (4 + 5 * j) (47 + 43 * j) Z (F0 m 26 ls []) := by
  obtain ⟨hx, hb, -, hml, hown, hts, -⟩ := id C0
  intro n
  induction n with
  | zero =>
    intro j hjn H locs hw ls hl
    have hj : j = 12 := by omega
    subst hj
    refine lv_iload_n hx hb dX4_init_26 rfl (lv_at hl 1 rfl) ?_
    refine lv_bipush (v := 12) hx hb dX4_init_27 (by decide) ?_
    refine lv_icmp_ge (tgt := 51) hx hb dX4_init_29 (by decide) (fun hc => ?_) (fun hc => ?_)
    · exact kx H locs hw ls hl
    · exact absurd (nI_le (a := 12) (b := 12) (Nat.le_refl _) (by decide)) hc
  | succ n ih =>
    intro j hjn H locs hw ls hl
    refine lv_iload_n hx hb dX4_init_26 rfl (lv_at hl 1 rfl) ?_
    refine lv_bipush (v := 12) hx hb dX4_init_27 (by decide) ?_
    refine lv_icmp_ge (tgt := 51) hx hb dX4_init_29 (by decide) (fun hc => ?_) (fun hc => ?_)
    · have hj : j = 12 := by
        rcases Nat.lt_or_ge j 12 with q | q
        · exact absurd hc (nI_ge q (by decide))
        · omega
      subst hj
      exact kx H locs hw ls hl
    · have hj : j < 12 := by
        rcases Nat.lt_or_ge j 12 with q | q
        · exact q
        · exact absurd (nI_le (a := 12) (b := j) q (by omega)) hc
      refine lv_aload_n hx hb dX4_init_32 rfl (lv_at hl 0 rfl) ?_
      refine kn_get (q0 := 0) (ci := 3) (j := 0) (C := RX4) (TT := TX4) (N := 6) C0 hN.1 hw rfl rfl kq_inX4 (by decide) rfl kq_148 rfl dX4_init_33 ?_
      refine lv_iload_n hx hb dX4_init_36 rfl (lv_at hl 1 rfl) ?_
      refine kn_new (ci := 6) (fs := [.null, .null, .null, .null, .int 0, .int 0, .int 0]) C0 hN hw hA kq_inX7 tyX7 tyX7_ok kq_121 kq_52 kq_4 rfl (fun z hz => by rcases (show z = 0 ∨ z = 1 ∨ z = 2 ∨ z = 3 ∨ z = 4 ∨ z = 5 ∨ z = 6 by omega) with rfl | rfl | rfl | rfl | rfl | rfl | rfl <;> rfl) ⟨by show _ ≤ 64; omega, by show _ ≤ 563; omega⟩ dX4_init_37 (fun H hw => ?_)
      refine lv_dup hx hb dX4_init_40 rfl ?_
      refine kn_callN (rest := [.ref (h + 5 + 5 * j), .int (nI j), .ref (h + 1)]) C0 hN hw (by omega) hl (kn_X7_init l G (h + 5 + 5 * j)) rfl (List.mem_of_getElem? (i := 3) rfl) kq_54 kq_4 kq_55 (by decide +kernel) ⟨rfl, rfl, Nat.le_of_ble_eq_true rfl, Nat.le_of_ble_eq_true rfl⟩ (Nat.le_of_ble_eq_true rfl) ⟨by show _ ≤ 64; omega, by show _ ≤ 563; omega⟩ dX4_init_41 (fun H locs hw => ?_)
      obtain ⟨qk, hqk⟩ := List.getElem?_of_mem (l := kn_pj G h j ++ kn_wd G (h + 5 + 5 * j)) (a := (h + 5 + 5 * j, .inr (6, [.ref (h + 5 + 5 * j + 1), .ref (h + 5 + 5 * j + 2), .ref (h + 5 + 5 * j + 3), .ref (h + 5 + 5 * j + 4), .int 0, .int 0, .int 0]))) (List.mem_append_right _ (List.mem_of_getElem? (i := 0) rfl))
      refine kn_ast (q0 := 1) (t := 3) (n := 12) (ci := 6) (r := (RX7, TX7, 7)) C0 hN.1 hw rfl rfl hqk rfl (vp_in_nI hj (by decide)) dX4_init_44 (fun H locs hw => ?_)
      rw [nI_clamp (by omega : j < 2 ^ 31)] at hw
      have hw : kn G (kn_A h) (kn_pj G h (j + 1)) (h + 5 + 5 * (j + 1)) s H locs := by
        have e1 := hw
        rw [show (kn_pj G h j ++ kn_wd G (h + 5 + 5 * j)).set 1 (h + 1, .inl (ka_r G 3, 12, .inr (.inr (.inr (.inr (va_up (fun q => if q < j then some (h + 5 + 5 * q) else none) j (some (h + 5 + 5 * j)))))))) = kn_pj G h (j + 1) from by unfold kn_pj; rw [kn_up (fun q => h + 5 + 5 * q)]; simp only [← kn_flat, List.append_assoc]; rfl] at e1
        rw [show h + 5 + 5 * (j + 1) = h + 5 + 5 * j + 1 + 4 from by omega]
        exact e1
      refine lv_iinc (v := nI (j + 1)) (lv' := [(1, .int (nI (j + 1))), (0, .ref h)]) hx hb dX4_init_45 hl (k := 1) rfl (nI_succ j).symm (by decide) rfl (fun ls hl => ?_)
      refine lv_goto (tgt := 26) hx hb dX4_init_48 (by decide) ?_
      refine W.widen (k := 4 + 5 * (j + 1)) (n := 47 + 43 * (j + 1)) (by omega) (by omega) ?_
      exact ih (j + 1) (by omega) H locs hw ls (lv_sub hl [1, 0] rfl)
theorem kn.resize {G : ka_G} {A : Nat → Prop} {L : va_W} {sz sz2 : Nat} {s : State} {H : Heap} {locs : List Loc} (h : kn G A L sz s H locs) (e : sz = sz2) : kn G A L sz2 s H locs := e ▸ h
theorem kn.as {G : ka_G} {A : Nat → Prop} {L L2 : va_W} {sz : Nat} {s : State} {H : Heap} {locs : List Loc} (h : kn G A L sz s H locs) (e : L = L2) : kn G A L2 sz s H locs := e ▸ h
theorem kn_none (g : Nat → Nat) : (fun _ : Nat => (none : Option Nat)) = fun q => if q < 0 then some (g q) else none := by
  funext q
  rw [if_neg (Nat.not_lt_zero q)]
theorem kn_two {G : ka_G} {A : Nat → Prop} {sz a0 a1 a2 : Nat} {e0 e1 e2 f0 f2 : va_E} {X : va_W} {s : State} {H H1 : Heap} {locs locs1 : List Loc} (h : kn G A ((a0, e0) :: (a1, e1) :: (a2, e2) :: X) sz s H locs) (hz : H1.size = H.size) (hP : va_P (ka_D G) vwCl [(a0, f0), (a2, f2)] H1) (ho : ∀ q : Nat, q < H.size → ¬ (q = a0 ∨ q = a2) → H1[q]? = H[q]?) (hS : va_S A s.heap H1 locs1) : kn G A ((a0, f0) :: (a1, e1) :: (a2, f2) :: X) sz s H1 locs1 := by
  obtain ⟨h1, h2, h3, h4⟩ := h
  have hP2 := kn_P_mem.mp h2
  have hPn := kn_P_mem.mp hP
  have hn := kn_D_nd.mp h3
  simp only [List.map_cons, List.nodup_cons, List.mem_cons, not_or] at hn
  refine ⟨hz.trans h1, kn_P_mem.mpr (fun x hx => ?_), kn_D_nd.mpr ⟨?_, fun x hx => ?_⟩, hS⟩
  · have keep : ∀ y : Nat × va_E, y ∈ ((a0, e0) :: (a1, e1) :: (a2, e2) :: X) → y.1 ≠ a0 → y.1 ≠ a2 → va_at (ka_D G) vwCl y H1 := fun y hy n0 n2 => (hP2 y hy).kept (ho _ (hP2 y hy).lt (fun q => q.elim n0 n2))
    rcases List.mem_cons.mp hx with rfl | hx
    · exact hPn _ (by simp)
    rcases List.mem_cons.mp hx with rfl | hx
    · exact keep _ (by simp) (fun q => hn.1.1.1 q.symm) hn.1.2.1.1
    rcases List.mem_cons.mp hx with rfl | hx
    · exact hPn _ (by simp)
    · refine keep x (by simp [hx]) (fun q => hn.1.1.2.2 ?_) (fun q => hn.1.2.2.1 ?_)
      · rw [← q]; exact List.mem_map_of_mem hx
      · rw [← q]; exact List.mem_map_of_mem hx
  · have := (kn_D_nd.mp h3).1
    simpa using this
  · have := (kn_D_nd.mp h3).2
    rcases List.mem_cons.mp hx with rfl | hx
    · exact this (a0, e0) (by simp)
    rcases List.mem_cons.mp hx with rfl | hx
    · exact this (a1, e1) (by simp)
    rcases List.mem_cons.mp hx with rfl | hx
    · exact this (a2, e2) (by simp)
    · exact this x (by simp [hx])
set_option maxHeartbeats 4000000 in
set_option maxRecDepth 100000 in
theorem kn_rcall {p : Program} {l : Launch} {e : Env} {R : Room} {s : State} {m : MethodId} {args : Array Value} {below : List Frame} {meth : Method} {c : Code} {H : Heap} {locs : List Loc} {cells slots : Nat} {Q : State → Prop} {cc : ByteArray} {pc : Nat} {ls : Array Slot} {G : ka_G} {A : Nat → Prop} {own : String} {nL : Nat} {ret : Option FieldType} {lv : List (Nat × Value)} {sz pg lx a b c1 c2 idx : Nat} {e1 : va_E} {x2 x3 x4 x5 x6 : Int32} {X : va_W}
    (C0 : ka_C p s m args meth c cc nL own ret) (hN : kn_N G s) (h : kn G A ((pg, .inr (3, [.ref a, .ref lx, .int x2, .int x3, .int x4, .int x5])) :: (b, e1) :: (lx, .inr (2, [.ref c1, .ref c2, .int x6])) :: X) sz s H locs) (hl : lv_has ls nL lv) (hlink : Cond.methodLink own idx yX4_reset ∈ kq_W) (hR : 1 ≤ R.frames ∧ 20 ≤ R.locals) (hf : cells ≤ R.cells ∧ slots ≤ R.slots) (hdg : decode cc pc = .ok (.invokevirtual idx, 3))
    (kk : ∀ (H1 : Heap) (locs1 : List Loc), kn G A ((pg, .inr (3, [.ref a, .ref lx, .int 0, .int 30, .int 2, .int 1])) :: (b, e1) :: (lx, .inr (2, [.ref c1, .ref c2, .int 0])) :: X) sz s H1 locs1 → W p l e R s m args below meth c H1 locs1 cells slots Q (F0 m (pc + 3) ls [])) : W p l e R s m args below meth c H locs cells slots Q (F0 m pc ls [.ref pg]) := by
  have h2 := h.2.1
  have hP2 : va_P (ka_D G) vwCl [(pg, .inr (3, [.ref a, .ref lx, .int x2, .int x3, .int x4, .int x5])), (lx, .inr (2, [.ref c1, .ref c2, .int x6]))] H := kn_P_mem.mpr (fun x hx => kn_P_mem.mp h2 x (by simp at hx ⊢; rcases hx with rfl | rfl <;> simp))
  have hD2 : va_D (fun q => q = pg ∨ q = lx) [(pg, .inr (3, [.ref a, .ref lx, .int x2, .int x3, .int x4, .int x5])), (lx, .inr (2, [.ref c1, .ref c2, .int x6]))] := by
    have hn := (kn_D_nd.mp h.2.2.1).1
    simp only [List.map_cons, List.nodup_cons, List.mem_cons, not_or] at hn
    refine kn_D_nd.mpr ⟨by simp; exact hn.1.2.1, fun x hx => ?_⟩
    simp at hx
    rcases hx with rfl | rfl <;> simp
  have hA9 : ∀ x ∈ [pg, lx], A x := by
    intro x hx
    have := (kn_D_nd.mp h.2.2.1).2
    simp at hx
    rcases hx with rfl | rfl
    · exact this (x, _) (List.mem_cons_self)
    · exact this (x, .inr (2, [.ref c1, .ref c2, .int x6])) (by simp)
  have hr := va_runV (As := []) (rest := []) C0.fix (kn_reset l G pg lx a b c1 c2 x2 x3 x4 x5 x6) (kr_cbV (rm := rm_X4_reset) C0 hlink kd_X4_reset ⟨rfl, rfl, hR.1, hR.2⟩) (H := H) (cells := cells) (slots := slots) (locs := locs) (l := l) (e := e) (below := below) (meth := meth) (g := F0 m pc ls [.ref pg]) ⟨fun a9 U g mk q => ⟨q.1, va_K.moved (u := U) (U := U.calling g mk a9) (Vm.Alike.refl U.vm) q.2.1, q.2.2.1, q.2.2.2⟩, va_recv hN.1 hP2 (q0 := 0) (ci := 3) rfl rfl, fun U hU hW => ⟨rfl, va_K.moved hW.alike hN.1, by rw [hU]; exact hP2, hD2⟩⟩ rfl rfl hl.1 rfl (lv_room (Nat.le_of_ble_eq_true rfl)) hdg hf
  intro T hT X9
  obtain ⟨v, st₀, t, T', L9, h9, X', hL, e1, e2, ⟨hv, hz, hP1, ho⟩, st⟩ := hr T hT X9
  cases hv
  rw [h9] at hz ho
  have hL2 : ∀ q ∈ L9, A q.base := fun q hq => by
    rcases hL q hq with h | h
    · rw [h]; exact hA9 pg (by simp)
    · rw [h]; exact hA9 lx (by simp)
  have hS := h.2.2.2
  obtain ⟨t2, a1, b1⟩ := kk T'.heap (locs ++ L9) (kn_two h (by rw [e1]; exact hz) (by rw [e1]; exact hP1) (fun q h1 h2 => by rw [e1]; exact ho q h1 h2) ⟨Nat.le_trans hS.1 (by rw [e1, hz]; exact Nat.le_refl _), fun q h1 h2 => by
      rw [e1, ho q (Nat.lt_of_lt_of_le h1 hS.1) (fun z => h2 (z.elim (fun z => by rw [z]; exact hA9 pg (by simp)) (fun z => by rw [z]; exact hA9 lx (by simp))))]
      exact hS.2.1 q h1 h2, fun q hq => by
      rcases List.mem_append.mp hq with h | h
      · exact hS.2.2 q h
      · exact hL2 q h⟩) T' rfl X'
  exact ⟨t2, st t2 a1, b1⟩
set_option maxHeartbeats 4000000 in
set_option maxRecDepth 100000 in
theorem kn_X4_init (l : Launch) (G : ka_G) (h : Nat) : kc_n l yX4_init (kw_ yX4_init cX4_init 2 none) rm_X4_init G h (.inr (3, [.null, .null, .int 0, .int 0, .int 0, .int 0])) (kn_pg G h) 64 563 := by
  refine kn_of "GlossRows$Page" rfl rfl (by decide) (by decide) ?_
  intro p e s m below meth c C0 hN hin hs H locs hw ls hl
  obtain ⟨hx, hb, -, hml, hown, hts, -⟩ := id C0
  have hA : ∀ q, s.heap.size ≤ q → kn_A h q := fun q h9 => by rw [hs] at h9; exact Nat.le_of_succ_le h9
  refine lv_aload_n hx hb dX4_init_0 rfl (lv_at hl 0 rfl) ?_
  refine W.objInit hx hb hown (hts _ kq_120) (hts _ kq_23) (hts _ kq_24) rfl (hl.1.trans hml.symm) rfl dX4_init_1 (Nat.le_of_ble_eq_true rfl) (Nat.le_of_ble_eq_true rfl) ?_
  refine W.eq (g2 := F0 m 4 ls []) rfl ?_
  refine lv_aload_n hx hb dX4_init_4 rfl (lv_at hl 0 rfl) ?_
  refine lv_bipush (v := 12) hx hb dX4_init_5 (by decide) ?_
  refine kn_newq (t := 3) (N := 12) C0 hN hw hA rfl hN.2.1 kq_121 (by decide) (by decide) (by decide) ⟨Nat.le_of_ble_eq_true rfl, Nat.le_of_ble_eq_true rfl⟩ dX4_init_7 (fun H hw => ?_)
  refine kn_putF (q0 := 0) (ci := 3) (j := 0) (C := RX4) (TT := TX4) (N := 6) (ty := tyX4 0) C0 hN hw rfl rfl kq_inX4 tyX4 tyX4_ok nmX4 (by decide) rfl kq_148 rfl hin (tyX4_ok 0 (by decide)) rfl rfl (Nat.le_of_ble_eq_true rfl) dX4_init_10 (fun H locs hw => ?_)
  have hw : kn G (kn_A h) [(h, .inr (3, [.ref (h + 1), .null, .int 0, .int 0, .int 0, .int 0])), (h + 1, .inl (ka_r G 3, 12, .inr (.inr (.inr (.inr (fun _ => none))))))] (h + 2) s H locs := hw
  refine lv_aload_n hx hb dX4_init_13 rfl (lv_at hl 0 rfl) ?_
  refine kn_new (ci := 2) (fs := [.null, .null, .int 0]) C0 hN hw hA kq_inX3 tyX3 tyX3_ok kq_122 kq_123 kq_6 rfl (fun z hz => by rcases (show z = 0 ∨ z = 1 ∨ z = 2 by omega) with rfl | rfl | rfl <;> rfl) ⟨Nat.le_of_ble_eq_true rfl, Nat.le_of_ble_eq_true rfl⟩ dX4_init_14 (fun H hw => ?_)
  refine lv_dup hx hb dX4_init_17 rfl ?_
  refine kn_callN (rest := [.ref (h + 2), .ref h]) C0 hN hw (by omega) hl (kn_X3_init l G (h + 2)) rfl (List.mem_of_getElem? (i := 2) rfl) kq_125 kq_6 kq_126 (by decide +kernel) ⟨rfl, rfl, Nat.le_of_ble_eq_true rfl, Nat.le_of_ble_eq_true rfl⟩ (Nat.le_of_ble_eq_true rfl) ⟨Nat.le_of_ble_eq_true rfl, Nat.le_of_ble_eq_true rfl⟩ dX4_init_18 (fun H locs hw => ?_)
  refine kn_putF (q0 := 0) (ci := 3) (j := 1) (C := RX4) (TT := TX4) (N := 6) (ty := tyX4 1) C0 hN hw rfl rfl kq_inX4 tyX4 tyX4_ok nmX4 (by decide) rfl kq_151 rfl hin (tyX4_ok 1 (by decide)) rfl rfl (Nat.le_of_ble_eq_true rfl) dX4_init_21 (fun H locs hw => ?_)
  rw [kn_none (fun q => h + 5 + 5 * q)] at hw
  have hw : kn G (kn_A h) (kn_pj G h 0) (h + 5 + 5 * 0) s H locs := hw
  refine lv_iconst (v := 0) hx hb dX4_init_24 (by decide) ?_
  refine lv_istore_n (lv' := [(1, .int 0), (0, .ref h)]) hx hb dX4_init_25 rfl hl (by decide) rfl (fun ls hl => ?_)
  refine kn_X4_init_26 (l := l) C0 hN hs hA ?_ 12 0 rfl H locs hw ls (lv_sub hl [1, 0] rfl)
  intro H locs hw ls hl
  refine lv_aload_n hx hb dX4_init_51 rfl (lv_at hl 0 rfl) ?_
  refine kn_rcall C0 hN hw hl kq_144 ⟨Nat.le_of_ble_eq_true rfl, Nat.le_of_ble_eq_true rfl⟩ ⟨Nat.le_of_ble_eq_true rfl, Nat.le_of_ble_eq_true rfl⟩ dX4_init_52 (fun H locs hw => ?_)
  have hw : kn G (kn_A h) (kn_pg G h) (h + 5 + 5 * 12) s H locs := hw
  exact kn_ret C0 hs (hw.resize (by omega)) dX4_init_55
def kn_rj (G : ka_G) (h j : Nat) : va_W := [(h, .inr (4, [.ref (h + 1), .int 0, .null, .int 0, .int 0])), (h + 1, .inl (ka_r G 3, 12, .inr (.inr (.inr (.inr (fun q => if q < j then some (h + 2 + 5 * q) else none))))))] ++ (List.range j).flatMap (fun q => kn_wd G (h + 2 + 5 * q))
def kn_rd (G : ka_G) (h : Nat) : va_W := [(h, .inr (4, [.ref (h + 1), .int 0, .ref (h + 2), .int 0, .int 0])), (h + 1, .inl (ka_r G 3, 12, .inr (.inr (.inr (.inr (fun q => if q < 12 then some (h + 2 + 5 * q) else none))))))] ++ (List.range 12).flatMap (fun q => kn_wd G (h + 2 + 5 * q))
def rm_X5_init : Room := { frames := 2, cells := 61, slots := 528, locals := 32 }
set_option maxHeartbeats 4000000 in
set_option maxRecDepth 100000 in
theorem kn_X5_init_15 {p : Program} {l : Launch} {e : Env} {s : State} {m : MethodId} {args : Array Value} {below : List Frame} {meth : Method} {c : Code} {G : ka_G} {h : Nat} {Z : State → Prop} (C0 : ka_C p s m args meth c cX5_init 2 "GlossRows$Reader" none) (hN : kn_N G s) (hs : s.heap.size = h + 1) (hA : ∀ q, s.heap.size ≤ q → kn_A h q)
    (kx : ∀ (H : Heap) (locs : List Loc), kn G (kn_A h) (kn_rj G h 12) (h + 2 + 5 * 12) s H locs → ∀ ls : Array Slot, lv_has ls 2 [(0, .ref h), (1, .int (nI 12))] → W p l e rm_X5_init s m args below meth c H locs (1 + 5 * 12) (12 + 43 * 12) Z (F0 m 40 ls [])) :
    ∀ (n j : Nat), j + n = 12 → ∀ (H : Heap) (locs : List Loc), kn G (kn_A h) (kn_rj G h j) (h + 2 + 5 * j) s H locs → ∀ ls : Array Slot, lv_has ls 2 [(0, .ref h), (1, .int (nI j))] → W p l e rm_X5_init s m args below meth c H locs (1 + 5 * j) (12 + 43 * j) Z (F0 m 15 ls []) := by
  obtain ⟨hx, hb, -, hml, hown, hts, -⟩ := id C0
  intro n
  induction n with
  | zero =>
    intro j hjn H locs hw ls hl
    have hj : j = 12 := by omega
    subst hj
    refine lv_iload_n hx hb dX5_init_15 rfl (lv_at hl 1 rfl) ?_
    refine lv_bipush (v := 12) hx hb dX5_init_16 (by decide) ?_
    refine lv_icmp_ge (tgt := 40) hx hb dX5_init_18 (by decide) (fun hc => ?_) (fun hc => ?_)
    · exact kx H locs hw ls hl
    · exact absurd (nI_le (a := 12) (b := 12) (Nat.le_refl _) (by decide)) hc
  | succ n ih =>
    intro j hjn H locs hw ls hl
    refine lv_iload_n hx hb dX5_init_15 rfl (lv_at hl 1 rfl) ?_
    refine lv_bipush (v := 12) hx hb dX5_init_16 (by decide) ?_
    refine lv_icmp_ge (tgt := 40) hx hb dX5_init_18 (by decide) (fun hc => ?_) (fun hc => ?_)
    · have hj : j = 12 := by
        rcases Nat.lt_or_ge j 12 with q | q
        · exact absurd hc (nI_ge q (by decide))
        · omega
      subst hj
      exact kx H locs hw ls hl
    · have hj : j < 12 := by
        rcases Nat.lt_or_ge j 12 with q | q
        · exact q
        · exact absurd (nI_le (a := 12) (b := j) q (by omega)) hc
      refine lv_aload_n hx hb dX5_init_21 rfl (lv_at hl 0 rfl) ?_
      refine kn_get (q0 := 0) (ci := 4) (j := 0) (C := RX5) (TT := TX5) (N := 5) C0 hN.1 hw rfl rfl kq_inX5 (by decide) rfl kq_96 rfl dX5_init_22 ?_
      refine lv_iload_n hx hb dX5_init_25 rfl (lv_at hl 1 rfl) ?_
      refine kn_new (ci := 6) (fs := [.null, .null, .null, .null, .int 0, .int 0, .int 0]) C0 hN hw hA kq_inX7 tyX7 tyX7_ok kq_50 kq_52 kq_4 rfl (fun z hz => by rcases (show z = 0 ∨ z = 1 ∨ z = 2 ∨ z = 3 ∨ z = 4 ∨ z = 5 ∨ z = 6 by omega) with rfl | rfl | rfl | rfl | rfl | rfl | rfl <;> rfl) ⟨by show _ ≤ 61; omega, by show _ ≤ 528; omega⟩ dX5_init_26 (fun H hw => ?_)
      refine lv_dup hx hb dX5_init_29 rfl ?_
      refine kn_callN (rest := [.ref (h + 2 + 5 * j), .int (nI j), .ref (h + 1)]) C0 hN hw (by omega) hl (kn_X7_init l G (h + 2 + 5 * j)) rfl (List.mem_of_getElem? (i := 1) rfl) kq_54 kq_4 kq_55 (by decide +kernel) ⟨rfl, rfl, Nat.le_of_ble_eq_true rfl, Nat.le_of_ble_eq_true rfl⟩ (Nat.le_of_ble_eq_true rfl) ⟨by show _ ≤ 61; omega, by show _ ≤ 528; omega⟩ dX5_init_30 (fun H locs hw => ?_)
      obtain ⟨qk, hqk⟩ := List.getElem?_of_mem (l := kn_rj G h j ++ kn_wd G (h + 2 + 5 * j)) (a := (h + 2 + 5 * j, .inr (6, [.ref (h + 2 + 5 * j + 1), .ref (h + 2 + 5 * j + 2), .ref (h + 2 + 5 * j + 3), .ref (h + 2 + 5 * j + 4), .int 0, .int 0, .int 0]))) (List.mem_append_right _ (List.mem_of_getElem? (i := 0) rfl))
      refine kn_ast (q0 := 1) (t := 3) (n := 12) (ci := 6) (r := (RX7, TX7, 7)) C0 hN.1 hw rfl rfl hqk rfl (vp_in_nI hj (by decide)) dX5_init_33 (fun H locs hw => ?_)
      rw [nI_clamp (by omega : j < 2 ^ 31)] at hw
      have hw : kn G (kn_A h) (kn_rj G h (j + 1)) (h + 2 + 5 * (j + 1)) s H locs := by
        have e1 := hw
        rw [show (kn_rj G h j ++ kn_wd G (h + 2 + 5 * j)).set 1 (h + 1, .inl (ka_r G 3, 12, .inr (.inr (.inr (.inr (va_up (fun q => if q < j then some (h + 2 + 5 * q) else none) j (some (h + 2 + 5 * j)))))))) = kn_rj G h (j + 1) from by unfold kn_rj; rw [kn_up (fun q => h + 2 + 5 * q)]; simp only [← kn_flat, List.append_assoc]; rfl] at e1
        rw [show h + 2 + 5 * (j + 1) = h + 2 + 5 * j + 1 + 4 from by omega]
        exact e1
      refine lv_iinc (v := nI (j + 1)) (lv' := [(1, .int (nI (j + 1))), (0, .ref h)]) hx hb dX5_init_34 hl (k := 1) rfl (nI_succ j).symm (by decide) rfl (fun ls hl => ?_)
      refine lv_goto (tgt := 15) hx hb dX5_init_37 (by decide) ?_
      refine W.widen (k := 1 + 5 * (j + 1)) (n := 12 + 43 * (j + 1)) (by omega) (by omega) ?_
      exact ih (j + 1) (by omega) H locs hw ls (lv_sub hl [1, 0] rfl)
set_option maxHeartbeats 4000000 in
set_option maxRecDepth 100000 in
theorem kn_X5_init (l : Launch) (G : ka_G) (h : Nat) : kc_n l yX5_init (kw_ yX5_init cX5_init 2 none) rm_X5_init G h (.inr (4, [.null, .int 0, .null, .int 0, .int 0])) (kn_rd G h) 61 528 := by
  refine kn_of "GlossRows$Reader" rfl rfl (by decide) (by decide) ?_
  intro p e s m below meth c C0 hN hin hs H locs hw ls hl
  obtain ⟨hx, hb, -, hml, hown, hts, -⟩ := id C0
  have hA : ∀ q, s.heap.size ≤ q → kn_A h q := fun q h9 => by rw [hs] at h9; exact Nat.le_of_succ_le h9
  refine lv_aload_n hx hb dX5_init_0 rfl (lv_at hl 0 rfl) ?_
  refine W.objInit hx hb hown (hts _ kq_49) (hts _ kq_23) (hts _ kq_24) rfl (hl.1.trans hml.symm) rfl dX5_init_1 (Nat.le_of_ble_eq_true rfl) (Nat.le_of_ble_eq_true rfl) ?_
  refine W.eq (g2 := F0 m 4 ls []) rfl ?_
  refine lv_aload_n hx hb dX5_init_4 rfl (lv_at hl 0 rfl) ?_
  refine lv_bipush (v := 12) hx hb dX5_init_5 (by decide) ?_
  refine kn_newq (t := 3) (N := 12) C0 hN hw hA rfl hN.2.1 kq_50 (by decide) (by decide) (by decide) ⟨Nat.le_of_ble_eq_true rfl, Nat.le_of_ble_eq_true rfl⟩ dX5_init_7 (fun H hw => ?_)
  refine kn_putF (q0 := 0) (ci := 4) (j := 0) (C := RX5) (TT := TX5) (N := 5) (ty := tyX5 0) C0 hN hw rfl rfl kq_inX5 tyX5 tyX5_ok nmX5 (by decide) rfl kq_96 rfl hin (tyX5_ok 0 (by decide)) rfl rfl (Nat.le_of_ble_eq_true rfl) dX5_init_10 (fun H locs hw => ?_)
  rw [kn_none (fun q => h + 2 + 5 * q)] at hw
  have hw : kn G (kn_A h) (kn_rj G h 0) (h + 2 + 5 * 0) s H locs := hw
  refine lv_iconst (v := 0) hx hb dX5_init_13 (by decide) ?_
  refine lv_istore_n (lv' := [(1, .int 0), (0, .ref h)]) hx hb dX5_init_14 rfl hl (by decide) rfl (fun ls hl => ?_)
  refine kn_X5_init_15 (l := l) C0 hN hs hA ?_ 12 0 rfl H locs hw ls (lv_sub hl [1, 0] rfl)
  intro H locs hw ls hl
  refine lv_aload_n hx hb dX5_init_40 rfl (lv_at hl 0 rfl) ?_
  refine lv_aload_n hx hb dX5_init_41 rfl (lv_at hl 0 rfl) ?_
  refine kn_get (q0 := 0) (ci := 4) (j := 0) (C := RX5) (TT := TX5) (N := 5) C0 hN.1 hw rfl rfl kq_inX5 (by decide) rfl kq_96 rfl dX5_init_42 ?_
  refine lv_iconst (v := 0) hx hb dX5_init_45 (by decide) ?_
  refine kn_aald (q0 := 1) (t := 3) (CC := "GlossRows$Word") (q := h + 2) C0 hN.1 hw rfl rfl (show vp_in (nI 0) 12 from vp_in_nI (by decide) (by decide)) rfl dX5_init_46 ?_
  refine kn_put (q0 := 0) (ci := 4) (j := 2) (C := RX5) (TT := TX5) (N := 5) (ty := tyX5 2) C0 hN.1 hw rfl rfl kq_inX5 tyX5 tyX5_ok nmX5 (by decide) rfl kq_101 rfl (tyX5_ok 2 (by decide)) rfl rfl (Nat.le_of_ble_eq_true rfl) dX5_init_47 (fun H locs hw => ?_)
  have hw : kn G (kn_A h) (kn_rd G h) (h + 2 + 5 * 12) s H locs := hw
  exact kn_ret C0 hs (hw.resize (by omega)) dX5_init_50
def kn_hj (G : ka_G) (h j : Nat) : va_W := [(h, .inr (0, [.ref (h + 1), .int 0, .int 0])), (h + 1, .inl (ka_r G 4, 14, .inr (.inr (.inr (.inr (fun q => if q < j then some (h + 2 + 65 * q) else none))))))] ++ (List.range j).flatMap (fun q => kn_pg G (h + 2 + 65 * q))
def rm_X0_init : Room := { frames := 3, cells := 911, slots := 7980, locals := 53 }
set_option maxHeartbeats 4000000 in
set_option maxRecDepth 100000 in
theorem kn_X0_init_15 {p : Program} {l : Launch} {e : Env} {s : State} {m : MethodId} {args : Array Value} {below : List Frame} {meth : Method} {c : Code} {G : ka_G} {h : Nat} {Z : State → Prop} (C0 : ka_C p s m args meth c cX0_init 2 "GlossRows$History" none) (hN : kn_N G s) (hs : s.heap.size = h + 1) (hA : ∀ q, s.heap.size ≤ q → kn_A h q)
    (kx : ∀ (H : Heap) (locs : List Loc), kn G (kn_A h) (kn_hj G h 14) (h + 2 + 65 * 14) s H locs → ∀ ls : Array Slot, lv_has ls 2 [(0, .ref h), (1, .int (nI 14))] → W p l e rm_X0_init s m args below meth c H locs (1 + 65 * 14) (14 + 569 * 14) Z (F0 m 40 ls [])) :
    ∀ (n j : Nat), j + n = 14 → ∀ (H : Heap) (locs : List Loc), kn G (kn_A h) (kn_hj G h j) (h + 2 + 65 * j) s H locs → ∀ ls : Array Slot, lv_has ls 2 [(0, .ref h), (1, .int (nI j))] → W p l e rm_X0_init s m args below meth c H locs (1 + 65 * j) (14 + 569 * j) Z (F0 m 15 ls []) := by
  obtain ⟨hx, hb, -, hml, hown, hts, -⟩ := id C0
  intro n
  induction n with
  | zero =>
    intro j hjn H locs hw ls hl
    have hj : j = 14 := by omega
    subst hj
    refine lv_iload_n hx hb dX0_init_15 rfl (lv_at hl 1 rfl) ?_
    refine lv_bipush (v := 14) hx hb dX0_init_16 (by decide) ?_
    refine lv_icmp_ge (tgt := 40) hx hb dX0_init_18 (by decide) (fun hc => ?_) (fun hc => ?_)
    · exact kx H locs hw ls hl
    · exact absurd (nI_le (a := 14) (b := 14) (Nat.le_refl _) (by decide)) hc
  | succ n ih =>
    intro j hjn H locs hw ls hl
    refine lv_iload_n hx hb dX0_init_15 rfl (lv_at hl 1 rfl) ?_
    refine lv_bipush (v := 14) hx hb dX0_init_16 (by decide) ?_
    refine lv_icmp_ge (tgt := 40) hx hb dX0_init_18 (by decide) (fun hc => ?_) (fun hc => ?_)
    · have hj : j = 14 := by
        rcases Nat.lt_or_ge j 14 with q | q
        · exact absurd hc (nI_ge q (by decide))
        · omega
      subst hj
      exact kx H locs hw ls hl
    · have hj : j < 14 := by
        rcases Nat.lt_or_ge j 14 with q | q
        · exact q
        · exact absurd (nI_le (a := 14) (b := j) q (by omega)) hc
      refine lv_aload_n hx hb dX0_init_21 rfl (lv_at hl 0 rfl) ?_
      refine kn_get (q0 := 0) (ci := 0) (j := 0) (C := RX0) (TT := TX0) (N := 3) C0 hN.1 hw rfl rfl kq_inX0 (by decide) rfl kq_220 rfl dX0_init_22 ?_
      refine lv_iload_n hx hb dX0_init_25 rfl (lv_at hl 1 rfl) ?_
      refine kn_new (ci := 3) (fs := [.null, .null, .int 0, .int 0, .int 0, .int 0]) C0 hN hw hA kq_inX4 tyX4 tyX4_ok kq_217 kq_116 kq_5 rfl (fun z hz => by rcases (show z = 0 ∨ z = 1 ∨ z = 2 ∨ z = 3 ∨ z = 4 ∨ z = 5 by omega) with rfl | rfl | rfl | rfl | rfl | rfl <;> rfl) ⟨by show _ ≤ 911; omega, by show _ ≤ 7980; omega⟩ dX0_init_26 (fun H hw => ?_)
      refine lv_dup hx hb dX0_init_29 rfl ?_
      refine kn_call (rest := [.ref (h + 2 + 65 * j), .int (nI j), .ref (h + 1)]) C0 hN hw (by omega) hl (kn_X4_init l G (h + 2 + 65 * j)) rfl kq_219 kq_118 kq_5 kq_119 (by decide +kernel) ⟨rfl, rfl, Nat.le_of_ble_eq_true rfl, Nat.le_of_ble_eq_true rfl⟩ (Nat.le_of_ble_eq_true rfl) ⟨by show _ ≤ 911; omega, by show _ ≤ 7980; omega⟩ dX0_init_30 (fun H locs hw => ?_)
      obtain ⟨qk, hqk⟩ := List.getElem?_of_mem (l := kn_hj G h j ++ kn_pg G (h + 2 + 65 * j)) (a := (h + 2 + 65 * j, .inr (3, [.ref (h + 2 + 65 * j + 1), .ref (h + 2 + 65 * j + 2), .int 0, .int 30, .int 2, .int 1]))) (List.mem_append_right _ (List.mem_of_getElem? (i := 0) rfl))
      refine kn_ast (q0 := 1) (t := 4) (n := 14) (ci := 3) (r := (RX4, TX4, 6)) C0 hN.1 hw rfl rfl hqk rfl (vp_in_nI hj (by decide)) dX0_init_33 (fun H locs hw => ?_)
      rw [nI_clamp (by omega : j < 2 ^ 31)] at hw
      have hw : kn G (kn_A h) (kn_hj G h (j + 1)) (h + 2 + 65 * (j + 1)) s H locs := by
        have e1 := hw
        rw [show (kn_hj G h j ++ kn_pg G (h + 2 + 65 * j)).set 1 (h + 1, .inl (ka_r G 4, 14, .inr (.inr (.inr (.inr (va_up (fun q => if q < j then some (h + 2 + 65 * q) else none) j (some (h + 2 + 65 * j)))))))) = kn_hj G h (j + 1) from by unfold kn_hj; rw [kn_up (fun q => h + 2 + 65 * q)]; simp only [← kn_flat, List.append_assoc]; rfl] at e1
        rw [show h + 2 + 65 * (j + 1) = h + 2 + 65 * j + 1 + 64 from by omega]
        exact e1
      refine lv_iinc (v := nI (j + 1)) (lv' := [(1, .int (nI (j + 1))), (0, .ref h)]) hx hb dX0_init_34 hl (k := 1) rfl (nI_succ j).symm (by decide) rfl (fun ls hl => ?_)
      refine lv_goto (tgt := 15) hx hb dX0_init_37 (by decide) ?_
      refine W.widen (k := 1 + 65 * (j + 1)) (n := 14 + 569 * (j + 1)) (by omega) (by omega) ?_
      exact ih (j + 1) (by omega) H locs hw ls (lv_sub hl [1, 0] rfl)
set_option maxHeartbeats 4000000 in
set_option maxRecDepth 100000 in
theorem kn_X0_init (l : Launch) (G : ka_G) (h : Nat) : kc_n l yX0_init (kw_ yX0_init cX0_init 2 none) rm_X0_init G h (.inr (0, [.null, .int 0, .int 0])) (kn_hj G h 14) 911 7980 := by
  refine kn_of "GlossRows$History" rfl rfl (by decide) (by decide) ?_
  intro p e s m below meth c C0 hN hin hs H locs hw ls hl
  obtain ⟨hx, hb, -, hml, hown, hts, -⟩ := id C0
  have hA : ∀ q, s.heap.size ≤ q → kn_A h q := fun q h9 => by rw [hs] at h9; exact Nat.le_of_succ_le h9
  refine lv_aload_n hx hb dX0_init_0 rfl (lv_at hl 0 rfl) ?_
  refine W.objInit hx hb hown (hts _ kq_216) (hts _ kq_23) (hts _ kq_24) rfl (hl.1.trans hml.symm) rfl dX0_init_1 (Nat.le_of_ble_eq_true rfl) (Nat.le_of_ble_eq_true rfl) ?_
  refine W.eq (g2 := F0 m 4 ls []) rfl ?_
  refine lv_aload_n hx hb dX0_init_4 rfl (lv_at hl 0 rfl) ?_
  refine lv_bipush (v := 14) hx hb dX0_init_5 (by decide) ?_
  refine kn_newq (t := 4) (N := 14) C0 hN hw hA rfl hN.2.2.1 kq_217 (by decide) (by decide) (by decide) ⟨Nat.le_of_ble_eq_true rfl, Nat.le_of_ble_eq_true rfl⟩ dX0_init_7 (fun H hw => ?_)
  refine kn_putF (q0 := 0) (ci := 0) (j := 0) (C := RX0) (TT := TX0) (N := 3) (ty := tyX0 0) C0 hN hw rfl rfl kq_inX0 tyX0 tyX0_ok nmX0 (by decide) rfl kq_220 rfl hin (tyX0_ok 0 (by decide)) rfl rfl (Nat.le_of_ble_eq_true rfl) dX0_init_10 (fun H locs hw => ?_)
  rw [kn_none (fun q => h + 2 + 65 * q)] at hw
  have hw : kn G (kn_A h) (kn_hj G h 0) (h + 2 + 65 * 0) s H locs := hw
  refine lv_iconst (v := 0) hx hb dX0_init_13 (by decide) ?_
  refine lv_istore_n (lv' := [(1, .int 0), (0, .ref h)]) hx hb dX0_init_14 rfl hl (by decide) rfl (fun ls hl => ?_)
  refine kn_X0_init_15 (l := l) C0 hN hs hA ?_ 14 0 rfl H locs hw ls (lv_sub hl [1, 0] rfl)
  intro H locs hw ls hl
  exact kn_ret C0 hs (hw.resize (by omega)) dX0_init_40
def kn_gX (G : ka_G) (h : Nat) : va_W := kn_tx G (h + 1) ++ kn_rd G (h + 3) ++ kn_pg G (h + 65) ++ kn_pg G (h + 130) ++ kn_ly G (h + 195) ++ kn_hj G (h + 201) 14
def kn_gj (G : ka_G) (h j : Nat) : va_W := [(h, .inr (7, [.ref (h + 1), .ref (h + 3), .ref (h + 65), .ref (h + 130), .ref (h + 195), .ref (h + 201), .ref (h + 1113), .ref (h + 1114)])), (h + 1113, .inl (ka_r G 4, 2, .inr (.inr (.inr (.inr (fun q => if q < j then some (h + 1115 + 65 * q) else none)))))), (h + 1114, .inl (ka_r G 2, 2, .inl (fun _ => 0)))] ++ kn_gX G h ++ (List.range j).flatMap (fun q => kn_pg G (h + 1115 + 65 * q))
def rm_X8_init : Room := { frames := 4, cells := 1244, slots := 10925, locals := 74 }
theorem kn_rot {α : Type} (x y z : α) (X : List α) : (([x] ++ X) ++ [y] ++ [z]).Perm ([x, y, z] ++ X) := by
  have h1 : (X ++ [y, z]).Perm ([y, z] ++ X) := List.perm_append_comm
  simpa using h1
set_option maxHeartbeats 4000000 in
set_option maxRecDepth 100000 in
theorem kn_X8_init_87 {p : Program} {l : Launch} {e : Env} {s : State} {m : MethodId} {args : Array Value} {below : List Frame} {meth : Method} {c : Code} {G : ka_G} {h : Nat} {Z : State → Prop} (C0 : ka_C p s m args meth c cX8_init 2 "GlossRows" none) (hN : kn_N G s) (hs : s.heap.size = h + 1) (hA : ∀ q, s.heap.size ≤ q → kn_A h q)
    (kx : ∀ (H : Heap) (locs : List Loc), kn G (kn_A h) (kn_gj G h 2) (h + 1115 + 65 * 2) s H locs → ∀ ls : Array Slot, lv_has ls 2 [(0, .ref h), (1, .int (nI 2))] → W p l e rm_X8_init s m args below meth c H locs (1114 + 65 * 2) (9787 + 569 * 2) Z (F0 m 111 ls [])) :
    ∀ (n j : Nat), j + n = 2 → ∀ (H : Heap) (locs : List Loc), kn G (kn_A h) (kn_gj G h j) (h + 1115 + 65 * j) s H locs → ∀ ls : Array Slot, lv_has ls 2 [(0, .ref h), (1, .int (nI j))] → W p l e rm_X8_init s m args below meth c H locs (1114 + 65 * j) (9787 + 569 * j) Z (F0 m 87 ls []) := by
  obtain ⟨hx, hb, -, hml, hown, hts, -⟩ := id C0
  intro n
  induction n with
  | zero =>
    intro j hjn H locs hw ls hl
    have hj : j = 2 := by omega
    subst hj
    refine lv_iload_n hx hb dX8_init_87 rfl (lv_at hl 1 rfl) ?_
    refine lv_iconst (v := 2) hx hb dX8_init_88 (by decide) ?_
    refine lv_icmp_ge (tgt := 111) hx hb dX8_init_89 (by decide) (fun hc => ?_) (fun hc => ?_)
    · exact kx H locs hw ls hl
    · exact absurd (nI_le (a := 2) (b := 2) (Nat.le_refl _) (by decide)) hc
  | succ n ih =>
    intro j hjn H locs hw ls hl
    refine lv_iload_n hx hb dX8_init_87 rfl (lv_at hl 1 rfl) ?_
    refine lv_iconst (v := 2) hx hb dX8_init_88 (by decide) ?_
    refine lv_icmp_ge (tgt := 111) hx hb dX8_init_89 (by decide) (fun hc => ?_) (fun hc => ?_)
    · have hj : j = 2 := by
        rcases Nat.lt_or_ge j 2 with q | q
        · exact absurd hc (nI_ge q (by decide))
        · omega
      subst hj
      exact kx H locs hw ls hl
    · have hj : j < 2 := by
        rcases Nat.lt_or_ge j 2 with q | q
        · exact q
        · exact absurd (nI_le (a := 2) (b := j) q (by omega)) hc
      refine lv_aload_n hx hb dX8_init_92 rfl (lv_at hl 0 rfl) ?_
      refine kn_get (q0 := 0) (ci := 7) (j := 6) (C := RX8) (TT := TX8) (N := 8) C0 hN.1 hw rfl rfl kq_inX8 (by decide) rfl kq_237 rfl dX8_init_93 ?_
      refine lv_iload_n hx hb dX8_init_96 rfl (lv_at hl 1 rfl) ?_
      refine kn_new (ci := 3) (fs := [.null, .null, .int 0, .int 0, .int 0, .int 0]) C0 hN hw hA kq_inX4 tyX4 tyX4_ok kq_115 kq_116 kq_5 rfl (fun z hz => by rcases (show z = 0 ∨ z = 1 ∨ z = 2 ∨ z = 3 ∨ z = 4 ∨ z = 5 by omega) with rfl | rfl | rfl | rfl | rfl | rfl <;> rfl) ⟨by show _ ≤ 1244; omega, by show _ ≤ 10925; omega⟩ dX8_init_97 (fun H hw => ?_)
      refine lv_dup hx hb dX8_init_100 rfl ?_
      refine kn_call (rest := [.ref (h + 1115 + 65 * j), .int (nI j), .ref (h + 1113)]) C0 hN hw (by omega) hl (kn_X4_init l G (h + 1115 + 65 * j)) rfl kq_117 kq_118 kq_5 kq_119 (by decide +kernel) ⟨rfl, rfl, Nat.le_of_ble_eq_true rfl, Nat.le_of_ble_eq_true rfl⟩ (Nat.le_of_ble_eq_true rfl) ⟨by show _ ≤ 1244; omega, by show _ ≤ 10925; omega⟩ dX8_init_101 (fun H locs hw => ?_)
      obtain ⟨qk, hqk⟩ := List.getElem?_of_mem (l := kn_gj G h j ++ kn_pg G (h + 1115 + 65 * j)) (a := (h + 1115 + 65 * j, .inr (3, [.ref (h + 1115 + 65 * j + 1), .ref (h + 1115 + 65 * j + 2), .int 0, .int 30, .int 2, .int 1]))) (List.mem_append_right _ (List.mem_of_getElem? (i := 0) rfl))
      refine kn_ast (q0 := 1) (t := 4) (n := 2) (ci := 3) (r := (RX4, TX4, 6)) C0 hN.1 hw rfl rfl hqk rfl (vp_in_nI hj (by decide)) dX8_init_104 (fun H locs hw => ?_)
      rw [nI_clamp (by omega : j < 2 ^ 31)] at hw
      have hw : kn G (kn_A h) (kn_gj G h (j + 1)) (h + 1115 + 65 * (j + 1)) s H locs := by
        have e1 := hw
        rw [show (kn_gj G h j ++ kn_pg G (h + 1115 + 65 * j)).set 1 (h + 1113, .inl (ka_r G 4, 2, .inr (.inr (.inr (.inr (va_up (fun q => if q < j then some (h + 1115 + 65 * q) else none) j (some (h + 1115 + 65 * j)))))))) = kn_gj G h (j + 1) from by unfold kn_gj; rw [kn_up (fun q => h + 1115 + 65 * q)]; simp only [← kn_flat, List.append_assoc]; rfl] at e1
        rw [show h + 1115 + 65 * (j + 1) = h + 1115 + 65 * j + 1 + 64 from by omega]
        exact e1
      refine lv_iinc (v := nI (j + 1)) (lv' := [(1, .int (nI (j + 1))), (0, .ref h)]) hx hb dX8_init_105 hl (k := 1) rfl (nI_succ j).symm (by decide) rfl (fun ls hl => ?_)
      refine lv_goto (tgt := 87) hx hb dX8_init_108 (by decide) ?_
      refine W.widen (k := 1114 + 65 * (j + 1)) (n := 9787 + 569 * (j + 1)) (by omega) (by omega) ?_
      exact ih (j + 1) (by omega) H locs hw ls (lv_sub hl [1, 0] rfl)
set_option maxHeartbeats 4000000 in
set_option maxRecDepth 100000 in
theorem kn_X8_init (l : Launch) (G : ka_G) (h : Nat) : kc_n l yX8_init (kw_ yX8_init cX8_init 2 none) rm_X8_init G h (.inr (7, [.null, .null, .null, .null, .null, .null, .null, .null])) (kn_gj G h 2) 1244 10925 := by
  refine kn_of "GlossRows" rfl rfl (by decide) (by decide) ?_
  intro p e s m below meth c C0 hN hin hs H locs hw ls hl
  obtain ⟨hx, hb, -, hml, hown, hts, -⟩ := id C0
  have hA : ∀ q, s.heap.size ≤ q → kn_A h q := fun q h9 => by rw [hs] at h9; exact Nat.le_of_succ_le h9
  refine lv_aload_n hx hb dX8_init_0 rfl (lv_at hl 0 rfl) ?_
  refine W.objInit hx hb hown (hts _ kq_22) (hts _ kq_23) (hts _ kq_24) rfl (hl.1.trans hml.symm) rfl dX8_init_1 (Nat.le_of_ble_eq_true rfl) (Nat.le_of_ble_eq_true rfl) ?_
  refine W.eq (g2 := F0 m 4 ls []) rfl ?_
  refine lv_aload_n hx hb dX8_init_4 rfl (lv_at hl 0 rfl) ?_
  refine kn_new (ci := 5) (fs := [.null, .int 0]) C0 hN hw hA kq_inX6 tyX6 tyX6_ok kq_25 kq_26 kq_2 rfl (fun z hz => by rcases (show z = 0 ∨ z = 1 by omega) with rfl | rfl <;> rfl) ⟨Nat.le_of_ble_eq_true rfl, Nat.le_of_ble_eq_true rfl⟩ dX8_init_5 (fun H hw => ?_)
  refine lv_dup hx hb dX8_init_8 rfl ?_
  refine kn_callN (rest := [.ref (h + 1), .ref h]) C0 hN hw (by omega) hl (kn_X6_init l G (h + 1)) rfl (List.mem_of_getElem? (i := 0) rfl) kq_28 kq_2 kq_29 (by decide +kernel) ⟨rfl, rfl, Nat.le_of_ble_eq_true rfl, Nat.le_of_ble_eq_true rfl⟩ (Nat.le_of_ble_eq_true rfl) ⟨Nat.le_of_ble_eq_true rfl, Nat.le_of_ble_eq_true rfl⟩ dX8_init_9 (fun H locs hw => ?_)
  replace hw := hw.resize (show _ = h + 3 by omega)
  refine kn_putF (q0 := 0) (ci := 7) (j := 0) (C := RX8) (TT := TX8) (N := 8) (ty := tyX8 0) C0 hN hw rfl rfl kq_inX8 tyX8 tyX8_ok nmX8 (by decide) rfl kq_231 rfl hin (tyX8_ok 0 (by decide)) rfl rfl (Nat.le_of_ble_eq_true rfl) dX8_init_12 (fun H locs hw => ?_)
  have hw : kn G (kn_A h) ([(h, .inr (7, [.ref (h + 1), .null, .null, .null, .null, .null, .null, .null]))] ++ kn_tx G (h + 1)) (h + 3) s H locs := hw
  refine lv_aload_n hx hb dX8_init_15 rfl (lv_at hl 0 rfl) ?_
  refine kn_new (ci := 4) (fs := [.null, .int 0, .null, .int 0, .int 0]) C0 hN hw hA kq_inX5 tyX5 tyX5_ok kq_44 kq_45 kq_3 rfl (fun z hz => by rcases (show z = 0 ∨ z = 1 ∨ z = 2 ∨ z = 3 ∨ z = 4 by omega) with rfl | rfl | rfl | rfl | rfl <;> rfl) ⟨Nat.le_of_ble_eq_true rfl, Nat.le_of_ble_eq_true rfl⟩ dX8_init_16 (fun H hw => ?_)
  refine lv_dup hx hb dX8_init_19 rfl ?_
  refine kn_call (rest := [.ref (h + 3), .ref h]) C0 hN hw (by omega) hl (kn_X5_init l G (h + 3)) rfl kq_46 kq_47 kq_3 kq_48 (by decide +kernel) ⟨rfl, rfl, Nat.le_of_ble_eq_true rfl, Nat.le_of_ble_eq_true rfl⟩ (Nat.le_of_ble_eq_true rfl) ⟨Nat.le_of_ble_eq_true rfl, Nat.le_of_ble_eq_true rfl⟩ dX8_init_20 (fun H locs hw => ?_)
  replace hw := hw.resize (show _ = h + 65 by omega)
  refine kn_putF (q0 := 0) (ci := 7) (j := 1) (C := RX8) (TT := TX8) (N := 8) (ty := tyX8 1) C0 hN hw rfl rfl kq_inX8 tyX8 tyX8_ok nmX8 (by decide) rfl kq_232 rfl hin (tyX8_ok 1 (by decide)) rfl rfl (Nat.le_of_ble_eq_true rfl) dX8_init_23 (fun H locs hw => ?_)
  have hw : kn G (kn_A h) ([(h, .inr (7, [.ref (h + 1), .ref (h + 3), .null, .null, .null, .null, .null, .null]))] ++ kn_tx G (h + 1) ++ kn_rd G (h + 3)) (h + 65) s H locs := hw
  refine lv_aload_n hx hb dX8_init_26 rfl (lv_at hl 0 rfl) ?_
  refine kn_new (ci := 3) (fs := [.null, .null, .int 0, .int 0, .int 0, .int 0]) C0 hN hw hA kq_inX4 tyX4 tyX4_ok kq_115 kq_116 kq_5 rfl (fun z hz => by rcases (show z = 0 ∨ z = 1 ∨ z = 2 ∨ z = 3 ∨ z = 4 ∨ z = 5 by omega) with rfl | rfl | rfl | rfl | rfl | rfl <;> rfl) ⟨Nat.le_of_ble_eq_true rfl, Nat.le_of_ble_eq_true rfl⟩ dX8_init_27 (fun H hw => ?_)
  refine lv_dup hx hb dX8_init_30 rfl ?_
  refine kn_call (rest := [.ref (h + 65), .ref h]) C0 hN hw (by omega) hl (kn_X4_init l G (h + 65)) rfl kq_117 kq_118 kq_5 kq_119 (by decide +kernel) ⟨rfl, rfl, Nat.le_of_ble_eq_true rfl, Nat.le_of_ble_eq_true rfl⟩ (Nat.le_of_ble_eq_true rfl) ⟨Nat.le_of_ble_eq_true rfl, Nat.le_of_ble_eq_true rfl⟩ dX8_init_31 (fun H locs hw => ?_)
  replace hw := hw.resize (show _ = h + 130 by omega)
  refine kn_putF (q0 := 0) (ci := 7) (j := 2) (C := RX8) (TT := TX8) (N := 8) (ty := tyX8 2) C0 hN hw rfl rfl kq_inX8 tyX8 tyX8_ok nmX8 (by decide) rfl kq_233 rfl hin (tyX8_ok 2 (by decide)) rfl rfl (Nat.le_of_ble_eq_true rfl) dX8_init_34 (fun H locs hw => ?_)
  have hw : kn G (kn_A h) ([(h, .inr (7, [.ref (h + 1), .ref (h + 3), .ref (h + 65), .null, .null, .null, .null, .null]))] ++ kn_tx G (h + 1) ++ kn_rd G (h + 3) ++ kn_pg G (h + 65)) (h + 130) s H locs := hw
  refine lv_aload_n hx hb dX8_init_37 rfl (lv_at hl 0 rfl) ?_
  refine kn_new (ci := 3) (fs := [.null, .null, .int 0, .int 0, .int 0, .int 0]) C0 hN hw hA kq_inX4 tyX4 tyX4_ok kq_115 kq_116 kq_5 rfl (fun z hz => by rcases (show z = 0 ∨ z = 1 ∨ z = 2 ∨ z = 3 ∨ z = 4 ∨ z = 5 by omega) with rfl | rfl | rfl | rfl | rfl | rfl <;> rfl) ⟨Nat.le_of_ble_eq_true rfl, Nat.le_of_ble_eq_true rfl⟩ dX8_init_38 (fun H hw => ?_)
  refine lv_dup hx hb dX8_init_41 rfl ?_
  refine kn_call (rest := [.ref (h + 130), .ref h]) C0 hN hw (by omega) hl (kn_X4_init l G (h + 130)) rfl kq_117 kq_118 kq_5 kq_119 (by decide +kernel) ⟨rfl, rfl, Nat.le_of_ble_eq_true rfl, Nat.le_of_ble_eq_true rfl⟩ (Nat.le_of_ble_eq_true rfl) ⟨Nat.le_of_ble_eq_true rfl, Nat.le_of_ble_eq_true rfl⟩ dX8_init_42 (fun H locs hw => ?_)
  replace hw := hw.resize (show _ = h + 195 by omega)
  refine kn_putF (q0 := 0) (ci := 7) (j := 3) (C := RX8) (TT := TX8) (N := 8) (ty := tyX8 3) C0 hN hw rfl rfl kq_inX8 tyX8 tyX8_ok nmX8 (by decide) rfl kq_234 rfl hin (tyX8_ok 3 (by decide)) rfl rfl (Nat.le_of_ble_eq_true rfl) dX8_init_45 (fun H locs hw => ?_)
  have hw : kn G (kn_A h) ([(h, .inr (7, [.ref (h + 1), .ref (h + 3), .ref (h + 65), .ref (h + 130), .null, .null, .null, .null]))] ++ kn_tx G (h + 1) ++ kn_rd G (h + 3) ++ kn_pg G (h + 65) ++ kn_pg G (h + 130)) (h + 195) s H locs := hw
  refine lv_aload_n hx hb dX8_init_48 rfl (lv_at hl 0 rfl) ?_
  refine kn_new (ci := 1) (fs := [.null, .null, .null, .int 0, .int 0, .null, .null]) C0 hN hw hA kq_inX1 tyX1 tyX1_ok kq_178 kq_179 kq_7 rfl (fun z hz => by rcases (show z = 0 ∨ z = 1 ∨ z = 2 ∨ z = 3 ∨ z = 4 ∨ z = 5 ∨ z = 6 by omega) with rfl | rfl | rfl | rfl | rfl | rfl | rfl <;> rfl) ⟨Nat.le_of_ble_eq_true rfl, Nat.le_of_ble_eq_true rfl⟩ dX8_init_49 (fun H hw => ?_)
  refine lv_dup hx hb dX8_init_52 rfl ?_
  refine kn_callN (rest := [.ref (h + 195), .ref h]) C0 hN hw (by omega) hl (kn_X1_init l G (h + 195)) rfl (List.mem_of_getElem? (i := 4) rfl) kq_181 kq_7 kq_182 (by decide +kernel) ⟨rfl, rfl, Nat.le_of_ble_eq_true rfl, Nat.le_of_ble_eq_true rfl⟩ (Nat.le_of_ble_eq_true rfl) ⟨Nat.le_of_ble_eq_true rfl, Nat.le_of_ble_eq_true rfl⟩ dX8_init_53 (fun H locs hw => ?_)
  replace hw := hw.resize (show _ = h + 201 by omega)
  refine kn_putF (q0 := 0) (ci := 7) (j := 4) (C := RX8) (TT := TX8) (N := 8) (ty := tyX8 4) C0 hN hw rfl rfl kq_inX8 tyX8 tyX8_ok nmX8 (by decide) rfl kq_235 rfl hin (tyX8_ok 4 (by decide)) rfl rfl (Nat.le_of_ble_eq_true rfl) dX8_init_56 (fun H locs hw => ?_)
  have hw : kn G (kn_A h) ([(h, .inr (7, [.ref (h + 1), .ref (h + 3), .ref (h + 65), .ref (h + 130), .ref (h + 195), .null, .null, .null]))] ++ kn_tx G (h + 1) ++ kn_rd G (h + 3) ++ kn_pg G (h + 65) ++ kn_pg G (h + 130) ++ kn_ly G (h + 195)) (h + 201) s H locs := hw
  refine lv_aload_n hx hb dX8_init_59 rfl (lv_at hl 0 rfl) ?_
  refine kn_new (ci := 0) (fs := [.null, .int 0, .int 0]) C0 hN hw hA kq_inX0 tyX0 tyX0_ok kq_211 kq_212 kq_8 rfl (fun z hz => by rcases (show z = 0 ∨ z = 1 ∨ z = 2 by omega) with rfl | rfl | rfl <;> rfl) ⟨Nat.le_of_ble_eq_true rfl, Nat.le_of_ble_eq_true rfl⟩ dX8_init_60 (fun H hw => ?_)
  refine lv_dup hx hb dX8_init_63 rfl ?_
  refine kn_call (rest := [.ref (h + 201), .ref h]) C0 hN hw (by omega) hl (kn_X0_init l G (h + 201)) rfl kq_213 kq_214 kq_8 kq_215 (by decide +kernel) ⟨rfl, rfl, Nat.le_of_ble_eq_true rfl, Nat.le_of_ble_eq_true rfl⟩ (Nat.le_of_ble_eq_true rfl) ⟨Nat.le_of_ble_eq_true rfl, Nat.le_of_ble_eq_true rfl⟩ dX8_init_64 (fun H locs hw => ?_)
  replace hw := hw.resize (show _ = h + 1113 by omega)
  refine kn_putF (q0 := 0) (ci := 7) (j := 5) (C := RX8) (TT := TX8) (N := 8) (ty := tyX8 5) C0 hN hw rfl rfl kq_inX8 tyX8 tyX8_ok nmX8 (by decide) rfl kq_236 rfl hin (tyX8_ok 5 (by decide)) rfl rfl (Nat.le_of_ble_eq_true rfl) dX8_init_67 (fun H locs hw => ?_)
  have hw : kn G (kn_A h) ([(h, .inr (7, [.ref (h + 1), .ref (h + 3), .ref (h + 65), .ref (h + 130), .ref (h + 195), .ref (h + 201), .null, .null]))] ++ kn_tx G (h + 1) ++ kn_rd G (h + 3) ++ kn_pg G (h + 65) ++ kn_pg G (h + 130) ++ kn_ly G (h + 195) ++ kn_hj G (h + 201) 14) (h + 1113) s H locs := hw
  refine lv_aload_n hx hb dX8_init_70 rfl (lv_at hl 0 rfl) ?_
  refine lv_iconst (v := 2) hx hb dX8_init_71 (by decide) ?_
  refine kn_newq (t := 4) (N := 2) C0 hN hw hA rfl hN.2.2.1 kq_115 (by decide) (by decide) (by decide) ⟨Nat.le_of_ble_eq_true rfl, Nat.le_of_ble_eq_true rfl⟩ dX8_init_72 (fun H hw => ?_)
  refine kn_putF (q0 := 0) (ci := 7) (j := 6) (C := RX8) (TT := TX8) (N := 8) (ty := tyX8 6) C0 hN hw rfl rfl kq_inX8 tyX8 tyX8_ok nmX8 (by decide) rfl kq_237 rfl hin (tyX8_ok 6 (by decide)) rfl rfl (Nat.le_of_ble_eq_true rfl) dX8_init_75 (fun H locs hw => ?_)
  have hw : kn G (kn_A h) ([(h, .inr (7, [.ref (h + 1), .ref (h + 3), .ref (h + 65), .ref (h + 130), .ref (h + 195), .ref (h + 201), .ref (h + 1113), .null]))] ++ kn_tx G (h + 1) ++ kn_rd G (h + 3) ++ kn_pg G (h + 65) ++ kn_pg G (h + 130) ++ kn_ly G (h + 195) ++ kn_hj G (h + 201) 14 ++ [(h + 1113, .inl (ka_r G 4, 2, .inr (.inr (.inr (.inr (fun _ => none))))))]) (h + 1114) s H locs := hw
  refine lv_aload_n hx hb dX8_init_78 rfl (lv_at hl 0 rfl) ?_
  refine lv_iconst (v := 2) hx hb dX8_init_79 (by decide) ?_
  refine kn_newa (t := 2) (N := 2) (a0 := (2, .inl (fun _ => 0))) C0 hN hw hA rfl rfl (fun h => h) kn_aZ (fun _ => rfl) (by decide) (by decide) (by decide) ⟨Nat.le_of_ble_eq_true rfl, Nat.le_of_ble_eq_true rfl⟩ dX8_init_80 (fun H hw => ?_)
  refine kn_putF (q0 := 0) (ci := 7) (j := 7) (C := RX8) (TT := TX8) (N := 8) (ty := tyX8 7) C0 hN hw rfl rfl kq_inX8 tyX8 tyX8_ok nmX8 (by decide) rfl kq_238 rfl hin (tyX8_ok 7 (by decide)) rfl rfl (Nat.le_of_ble_eq_true rfl) dX8_init_82 (fun H locs hw => ?_)
  have hw : kn G (kn_A h) ([(h, .inr (7, [.ref (h + 1), .ref (h + 3), .ref (h + 65), .ref (h + 130), .ref (h + 195), .ref (h + 201), .ref (h + 1113), .ref (h + 1114)]))] ++ kn_tx G (h + 1) ++ kn_rd G (h + 3) ++ kn_pg G (h + 65) ++ kn_pg G (h + 130) ++ kn_ly G (h + 195) ++ kn_hj G (h + 201) 14 ++ [(h + 1113, .inl (ka_r G 4, 2, .inr (.inr (.inr (.inr (fun _ => none))))))] ++ [(h + 1114, .inl (ka_r G 2, 2, .inl (fun _ => 0)))]) (h + 1115) s H locs := hw
  have hw : kn G (kn_A h) (kn_gj G h 0) (h + 1115 + 65 * 0) s H locs := by
    refine (hw.perm (L' := _) ?_).as rfl
    unfold kn_gj kn_gX
    rw [← kn_none (fun q => h + 1115 + 65 * q)]
    have h1 := kn_rot (h, (.inr (7, [.ref (h + 1), .ref (h + 3), .ref (h + 65), .ref (h + 130), .ref (h + 195), .ref (h + 201), .ref (h + 1113), .ref (h + 1114)]) : va_E)) (h + 1113, (.inl (ka_r G 4, 2, .inr (.inr (.inr (.inr (fun _ => none))))) : va_E)) (h + 1114, (.inl (ka_r G 2, 2, .inl (fun _ => 0)) : va_E)) (kn_tx G (h + 1) ++ kn_rd G (h + 3) ++ kn_pg G (h + 65) ++ kn_pg G (h + 130) ++ kn_ly G (h + 195) ++ kn_hj G (h + 201) 14)
    simpa only [List.append_assoc, List.range_zero, List.flatMap_nil, List.append_nil] using h1
  refine lv_iconst (v := 0) hx hb dX8_init_85 (by decide) ?_
  refine lv_istore_n (lv' := [(1, .int 0), (0, .ref h)]) hx hb dX8_init_86 rfl hl (by decide) rfl (fun ls hl => ?_)
  refine kn_X8_init_87 (l := l) C0 hN hs hA ?_ 2 0 rfl H locs hw ls (lv_sub hl [1, 0] rfl)
  intro H locs hw ls hl
  exact kn_ret C0 hs (hw.resize (by omega)) dX8_init_111
