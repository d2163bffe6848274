/-! ===== the law from its entry ===== -/
theorem kw_ex1 : ∀ q ∈ ka_Ts, Cond.exactly (.string "GlossRows" q.1) "java/lang/String" ∈ flatC (Jvm.Cond.and given_1 narrow_1) := by decide +kernel
theorem kw_ex2 : ∀ q ∈ ka_Ts, Cond.stringRef "GlossRows" q.1 q.2 ∈ tables_1 := by decide +kernel
theorem kw_ex3 : ∀ i, i < 3 → ∀ j, j < 3 → i ≠ j → Cond.not (.castable (ka_E i) (ka_E j)) ∈ flatC (Jvm.Cond.and given_1 narrow_1) := by decide +kernel
theorem kw_ex4 : ∀ w ∈ ka_Tw ++ kn_w, w ∈ tables_1 ∧ w.onTables = true := by decide +kernel
theorem kw_ex5 : Cond.isRef (.static Bundle.tN "UNASSIGNED_STACK" Bundle.steD) ∈ flatC (Jvm.Cond.and given_1 narrow_1) ∧ Cond.isRef (.static Bundle.tN "SUPPRESSED_SENTINEL" Bundle.listD) ∈ flatC (Jvm.Cond.and given_1 narrow_1) := by decide +kernel
theorem kw_ex6 : Cond.laysStatic Bundle.tN "UNASSIGNED_STACK" Bundle.steD ∈ tables_1 ∧ Cond.laysStatic Bundle.tN "SUPPRESSED_SENTINEL" Bundle.listD ∈ tables_1 ∧ Cond.initialized Bundle.tN ∈ tables_1 ∧ Cond.arrayOver (.object "GlossRows$Word") ∈ tables_1 ∧ Cond.arrayOver (.object "GlossRows$Page") ∈ tables_1 := by decide +kernel
theorem kw_tab {w : Cond} (h : w ∈ tables_1) : w ∈ lw_tbl := List.mem_append_right _ h
/-- an array's class, as the tables tell it -/
theorem kw_arr {args : Array Value} {s : State} {ty : FieldType} (h : (Cond.arrayClass ty).before args s = true) (hr : ∀ cA, s.vm.findClass ("[" ++ ty.toString) = some cA → va_RA s cA ty) : ∃ cA, ArrOfT s cA ty ∧ va_RA s cA ty := by
  obtain ⟨cA, kA, comp, h1, h2, h3⟩ := Cond.arrayClass_spec h
  exact ⟨cA, fun n z => ⟨fun k h => (by cases h), kA, h2, comp, h3⟩, hr cA h1⟩
theorem kw_arrO {args : Array Value} {s : State} {C : String} (h : (Cond.arrayOver (.object C)).before args s = true) : ∃ cA, ArrOfT s cA (.object C) ∧ va_RA s cA (.object C) := by
  obtain ⟨comp, cA, kA, h1, h2, h3, h4, h5⟩ := Cond.arrayOver_spec h
  exact ⟨cA, fun n z => ⟨fun k h => (by cases h), kA, h3, comp, h4⟩, kA, comp, h3, h4, h1, h5⟩
set_option maxHeartbeats 4000000 in
set_option maxRecDepth 100000 in
/-- what holds at the law's entry, in the words of the contracts -/
theorem kw_entry {args : Array Value} {s : State} (hts9 : ∀ w ∈ lw_tbl, w.before args s = true) (hgv : (Jvm.Cond.and given_1 narrow_1).before args s = true) : ∃ (D : va_G) (r : Nat → ClassId), (∀ b, kn_N (kn_G D r b) s) ∧ (∀ A : Nat → Prop, (∀ a : Nat, a < s.heap.size → ¬ A a) → ka_T9 A s) ∧ kl_Nc s := by
  have hts : ∀ w ∈ kq_W, w.before args s = true := fun w hw => hts9 w (kq_in hw)
  have hs := flat_of_before _ hgv
  obtain ⟨cX0, iX0, hkX0⟩ := u_known (C := RX0) (T := TX0) (N := 3) (n := 3) hts kq_inX0 (hts _ kq_212)
  obtain ⟨cX1, iX1, hkX1⟩ := u_known (C := RX1) (T := TX1) (N := 7) (n := 7) hts kq_inX1 (hts _ kq_179)
  obtain ⟨cX3, iX3, hkX3⟩ := u_known (C := RX3) (T := TX3) (N := 3) (n := 3) hts kq_inX3 (hts _ kq_123)
  obtain ⟨cX4, iX4, hkX4⟩ := u_known (C := RX4) (T := TX4) (N := 6) (n := 6) hts kq_inX4 (hts _ kq_116)
  obtain ⟨cX5, iX5, hkX5⟩ := u_known (C := RX5) (T := TX5) (N := 5) (n := 5) hts kq_inX5 (hts _ kq_45)
  obtain ⟨cX6, iX6, hkX6⟩ := u_known (C := RX6) (T := TX6) (N := 2) (n := 2) hts kq_inX6 (hts _ kq_26)
  obtain ⟨cX7, iX7, hkX7⟩ := u_known (C := RX7) (T := TX7) (N := 7) (n := 7) hts kq_inX7 (hts _ kq_52)
  obtain ⟨cX8, iX8, hkX8⟩ := u_known (C := RX8) (T := TX8) (N := 8) (n := 8) hts kq_inX8 (hts _ kq_18)
  obtain ⟨aI, hI1, hI2⟩ := kw_arr (hts _ kn_aI) (fun cA h => h)
  obtain ⟨aJ, hJ1, hJ2⟩ := kw_arr (hts _ kn_aJ) (fun cA h => h)
  obtain ⟨aZ, hZ1, hZ2⟩ := kw_arr (hts _ kn_aZ) (fun cA h => h)
  obtain ⟨aW, hW1, hW2⟩ := kw_arrO (hts9 _ (kw_tab kw_ex6.2.2.2.1))
  obtain ⟨aP, hP1, hP2⟩ := kw_arrO (hts9 _ (kw_tab kw_ex6.2.2.2.2))
  refine ⟨(fun k => if k = 0 then cX0 else if k = 1 then cX1 else if k = 2 then cX3 else if k = 3 then cX4 else if k = 4 then cX5 else if k = 5 then cX6 else if k = 6 then cX7 else cX8, fun k => if k = 0 then iX0 else if k = 1 then iX1 else if k = 2 then iX3 else if k = 3 then iX4 else if k = 4 then iX5 else if k = 5 then iX6 else if k = 6 then iX7 else iX8), fun k => if k = 0 then aI else if k = 1 then aJ else if k = 2 then aZ else if k = 3 then aW else aP, fun b => ⟨⟨?_, ?_⟩, va_AO.of (hts9 _ (kw_tab kw_ex6.2.2.2.1)), va_AO.of (hts9 _ (kw_tab kw_ex6.2.2.2.2)), ?_⟩, fun A hA => ⟨?_, ?_, ?_, ?_⟩, ?_⟩
  · intro k q hq
    match k, hq with
    | 0, hq => cases hq; exact hkX0
    | 1, hq => cases hq; exact hkX1
    | 2, hq => cases hq; exact hkX3
    | 3, hq => cases hq; exact hkX4
    | 4, hq => cases hq; exact hkX5
    | 5, hq => cases hq; exact hkX6
    | 6, hq => cases hq; exact hkX7
    | 7, hq => cases hq; exact hkX8
    | k + 8, hq => simp [vwCl] at hq
  · intro k q hq
    match k, hq with
    | 0, hq => cases hq; exact ⟨hI1, hI2⟩
    | 1, hq => cases hq; exact ⟨hJ1, hJ2⟩
    | 2, hq => cases hq; exact ⟨hZ1, hZ2⟩
    | 3, hq => cases hq; exact ⟨hW1, hW2⟩
    | 4, hq => cases hq; exact ⟨hP1, hP2⟩
    | k + 5, hq => simp [ka_tys] at hq
  · intro w hw
    have h := kw_ex4 w (List.mem_append_right _ hw)
    exact va_tabs h.2 rfl (hts9 w (kw_tab h.1))
  · exact vx_Zqof (hts9 _ (kw_tab kw_ex6.1)) (hts9 _ (kw_tab kw_ex6.2.2.1)) (hs _ kw_ex5.1) hA
  · exact vx_Zqof (hts9 _ (kw_tab kw_ex6.2.1)) (hts9 _ (kw_tab kw_ex6.2.2.1)) (hs _ kw_ex5.2) hA
  · intro w hw
    have h := kw_ex4 w (List.mem_append_left _ hw)
    exact va_tabs h.2 rfl (hts9 w (kw_tab h.1))
  · intro q hq
    obtain ⟨a, c, cell, k, h1, -⟩ := Cond.exactly_spec (hs _ (kw_ex1 q hq))
    exact ⟨a, vk_R.same (u := s) rfl (vk_R.of (A := args) (hts9 _ (kw_tab (kw_ex2 q hq))) h1)⟩
  · intro i hi j hj hij
    exact va_Nc.of (hs _ (kw_ex3 i hi j hj hij))
theorem ka_v24 {k : ka_K} (h : ka_v k) : k.1 ≤ 24 := by rcases h with h | h | h <;> omega
set_option maxHeartbeats 4000000 in
set_option maxRecDepth 100000 in
/-- the law comes to its end with true, where its predicate holds of two new objects -/
theorem kl_whole {p : Program} {e : Env} {s : State} {m : MethodId} {below : List Frame} {meth : Method} {c : Code} (l : Launch) (hflags : l.flags = flags0) {b L : Nat} {xs : Nat → Int32} (hL : L ≤ 260) (C9 : lw_At p s m meth c b L xs) (hlaw : kw_L_law kn_σ kn_σ L xs) : W p l e room_1 s m #[Value.ref b] below meth c s.heap [] 0 0 (lw_Z below #[Value.ref b] s) (entryFrame m ([Value.ref b] : List Value).toArray 7) := by
  obtain ⟨hx, hb, hr, hml, hown, hts9, hX, hbl, hlocks, hgv⟩ := id C9
  have hl0 : l.stackTraces = false := by
    unfold Launch.stackTraces
    rw [hflags]
    decide +kernel
  have C0 : ka_C p s m #[.ref b] meth c code 7 "GlossRowsLaw" (some .boolean) := ⟨hx, hb, hr, hml, hown, fun w hw => hts9 w (kq_in hw), hlocks⟩
  have hts := C0.2.2.2.2.2.1
  obtain ⟨D, r, hent, hT9, hNc⟩ := kw_entry hts9 hgv
  obtain ⟨b0, hb0⟩ : ∃ z, z = s.heap.size := ⟨_, rfl⟩
  have hN := hent b0
  have hA : ∀ q, s.heap.size ≤ q → kn_A b0 q := fun q h => by rw [hb0]; exact h
  have hl := lv_entry ([.ref b]) (n := 7) (Nat.le_of_ble_eq_true rfl)
  rw [lg_entry_eq]
  generalize (lg_sl ([.ref b]) ++ List.replicate (7 - (lg_sl ([.ref b])).length) Slot.unset).toArray = ls at hl ⊢
  have hl : lv_has ls 7 [(0, .ref b)] := hl
  suffices body : ∀ (H : Heap), kn (kn_G D r b0) (kn_A b0) [] b0 s H [] → W p l e room_1 s m #[Value.ref b] below meth c H [] 0 0 (lw_Z below #[Value.ref b] s) (F0 m 0 ls []) from body s.heap ⟨hb0.symm, fun k q h => by simp at h, ⟨fun i j p q h => by simp at h, fun k q h => by simp at h⟩, va_S.rf⟩
  intro H hw
  refine kn_new (ci := 7) (fs := [.null, .null, .null, .null, .null, .null, .null, .null]) C0 hN hw hA kq_inX8 tyX8 tyX8_ok kq_17 kq_18 kq_1 rfl (fun z hz => by rcases (show z = 0 ∨ z = 1 ∨ z = 2 ∨ z = 3 ∨ z = 4 ∨ z = 5 ∨ z = 6 ∨ z = 7 by omega) with rfl | rfl | rfl | rfl | rfl | rfl | rfl | rfl <;> rfl) ⟨Nat.le_of_ble_eq_true rfl, Nat.le_of_ble_eq_true rfl⟩ dL_law_0 (fun H hw => ?_)
  refine lv_dup hx hb dL_law_3 rfl ?_
  refine kn_call (rest := [.ref b0]) C0 hN hw (Nat.le_refl _) hl (kn_X8_init l (kn_G D r b0) b0) rfl kq_19 kq_20 kq_1 kq_21 (by decide +kernel) ⟨rfl, rfl, Nat.le_of_ble_eq_true rfl, Nat.le_of_ble_eq_true rfl⟩ (Nat.le_of_ble_eq_true rfl) ⟨Nat.le_of_ble_eq_true rfl, Nat.le_of_ble_eq_true rfl⟩ dL_law_4 (fun H locs hw => ?_)
  replace hw : kn (kn_G D r b0) (kn_A b0) (kn_gj (kn_G D r b0) b0 2) (b0 + 1245) s H locs := hw.resize (show _ = b0 + 1245 by omega)
  refine lv_astore_n (lv' := [(1, .ref b0), (0, .ref b)]) hx hb dL_law_7 rfl hl (by decide) rfl (fun ls hl => ?_)
  refine kn_new (ci := 7) (fs := [.null, .null, .null, .null, .null, .null, .null, .null]) C0 hN hw hA kq_inX8 tyX8 tyX8_ok kq_17 kq_18 kq_1 rfl (fun z hz => by rcases (show z = 0 ∨ z = 1 ∨ z = 2 ∨ z = 3 ∨ z = 4 ∨ z = 5 ∨ z = 6 ∨ z = 7 by omega) with rfl | rfl | rfl | rfl | rfl | rfl | rfl | rfl <;> rfl) ⟨Nat.le_of_ble_eq_true rfl, Nat.le_of_ble_eq_true rfl⟩ dL_law_8 (fun H hw => ?_)
  refine lv_dup hx hb dL_law_11 rfl ?_
  refine kn_call (rest := [.ref (b0 + 1245)]) C0 hN hw (by omega) hl (kn_X8_init l (kn_G D r b0) (b0 + 1245)) rfl kq_19 kq_20 kq_1 kq_21 (by decide +kernel) ⟨rfl, rfl, Nat.le_of_ble_eq_true rfl, Nat.le_of_ble_eq_true rfl⟩ (Nat.le_of_ble_eq_true rfl) ⟨Nat.le_of_ble_eq_true rfl, Nat.le_of_ble_eq_true rfl⟩ dL_law_12 (fun H locs hw => ?_)
  refine lv_astore_n (lv' := [(2, .ref (b0 + 1245)), (1, .ref b0), (0, .ref b)]) hx hb dL_law_15 rfl hl (by decide) rfl (fun ls hl => ?_)
  obtain ⟨hz, hPP, hDD, hSS⟩ := hw
  have hall := kn_P_mem.mp hPP
  have hP1 : ka_P (kn_G D r b0) kn_σ H := fun k hv => kn_class (b := b0) (kn_P_mem.mpr (fun x hx => hall x (List.mem_append_left _ hx))) k hv (ka_v24 hv)
  have hP2 : ka_P (kn_G D r (b0 + 1245)) kn_σ H := fun k hv => kn_class (b := b0 + 1245) (kn_P_mem.mpr (fun x hx => hall x (List.mem_append_right _ hx))) k hv (ka_v24 hv)
  refine va_forget (fun q hq => by rw [← hb0]; exact hSS.2.2 q hq) ?_
  refine W.widen (k := 3700) (n := 6 * 3700) (Nat.le_of_ble_eq_true rfl) (Nat.le_of_ble_eq_true rfl) ?_
  refine km_L_law (cl := 3700) (G1 := kn_G D r b0) (G2 := kn_G D r (b0 + 1245)) hl0 ⟨kn_I, kn_I, ?_, ?_⟩ C0 hN.1 (hent (b0 + 1245)).1 (hT9 _ ?_) hNc ⟨hX, hbl, ?_, ?_, hL⟩ hr hlaw (Nat.le_of_ble_eq_true rfl) hP1 hP2 ⟨hSS.1, fun q h1 h2 => hSS.2.1 q h1 (fun z => ?_), fun l h => by cases h⟩ (lv_sub hl [2, 1, 0] rfl)
  · intro k hv z
    have h1 : b0 + 1245 + kn_off k < b0 + 1245 := z.2
    omega
  · intro k hv z
    have h1 : b0 + 1245 ≤ b0 + kn_off k := z.1
    have := kn_lt hv
    omega
  · intro a ha z
    rcases z with ⟨z, -⟩ | ⟨z, -⟩ <;> omega
  · rintro (⟨z, -⟩ | ⟨z, -⟩) <;> omega
  · rintro q (⟨z, -⟩ | ⟨z, -⟩) <;> omega
  · have z : b0 ≤ q := z
    omega
