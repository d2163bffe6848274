/-! ===== the law's loop ===== -/
section KLL
variable {p : Program} {l : Launch} {e : Env} {R : Room} {s : State} {m : MethodId} {args : Array Value} {below : List Frame} {meth : Method} {c : Code} {H : Heap} {locs : List Loc} {cells slots : Nat} {Q : State → Prop}
variable {cc : ByteArray} {pc : Nat} {ls : Array Slot} {rest : List Value} {G : ka_G} {σ : ka_S} {k : ka_K} {own : String} {nL : Nat} {ret : Option FieldType}
/-- the law's world: the objects, the row of answers, nothing else touched, the first address is the heap's end at the start -/
def kl_W (G : ka_G) (s : State) (σ : ka_S) (o : Int64) (H : Heap) (locs : List Loc) : Prop := ka_P G σ H ∧ kl_O G o H ∧ va_S (ka_A9 G) s.heap H locs ∧ G.2.2.2 < H.size
/-- what the law stands on throughout -/
def kl_C (G : ka_G) (s : State) : Prop := ka_I G ∧ ka_Kn G s ∧ ka_T G s ∧ kl_Nc s ∧ G.2.2.1 = s.heap.size ∧ G.2.2.1 ≤ G.2.2.2
theorem kl_W.low {o : Int64} (hw : kl_W G s σ o H locs) (hC : kl_C G s) : ∀ q : Nat, q < s.heap.size → H[q]? = s.heap[q]? := fun q hq => hw.2.2.1.2.1 q hq (fun z => by have : G.2.2.1 ≤ q := z; rw [hC.2.2.2.2.1] at this; omega)
theorem ka_T.warm9 {U : State} (hT : ka_T G s) (ho : ∀ q : Nat, q < s.heap.size → H[q]? = s.heap[q]?) (hU : U.heap = H) (hW : s.WarmedH U.vm) : ka_T G U := by
  obtain ⟨h1, h2, h3, h4⟩ := hT
  refine ⟨?_, ?_, ka_Tw_warm hW h3, fun q hq => ?_⟩
  · rw [hU]; exact vx_Zq.moved hW.alike (h1.kept (fun a ha _ => ho a ha))
  · rw [hU]; exact vx_Zq.moved hW.alike (h2.kept (fun a ha _ => ho a ha))
  · obtain ⟨sa, h⟩ := h4 q hq
    exact ⟨sa, vk_R.warm hW h⟩
variable {y : MethodName} {bytes : ByteArray} {mL idx n : Nat} {rt : Option FieldType} {rm : Room} {As : List Value}
theorem kl_Vi {Qp : Int32 → ka_S → Prop} {o : Int64} {lv : List (Nat × Value)} (C0 : ka_C p s m args meth c cc nL own ret) (hC : kl_C G s) (hw : kl_W G s σ o H locs) (hl : lv_has ls nL lv) (hM : kc_i l y (kw_ y bytes mL rt) rm G (.ref (ka_a G k) :: As) σ Qp) (kd : kd_V y bytes mL rt n) (hlink : Cond.methodLink own idx y ∈ kq_W) (hv : ka_v k) {ci : Nat} {q : vw_C} {fs : List Value} (he : ka_c G σ k = .inr (ci, fs)) (hc : vwCl[ci]? = some q) (hCC : q.1 = y.cls)
    (hrm : rm.cells = 0 ∧ rm.slots = 0 ∧ rm.frames + 1 ≤ R.frames ∧ 8 + (mL + 11) + rm.locals ≤ R.locals) (hn : As.length = n) (hW : (rest.map fun v => v.category).sum ≤ 8) (hdg : decode cc pc = .ok (.invokevirtual idx, 3)) (hf : cells ≤ R.cells ∧ slots ≤ R.slots)
    (kk : ∀ (r : Int32) (σ1 : ka_S) (H1 : Heap) (locs1 : List Loc), Qp r σ1 → kl_W G s σ1 o H1 locs1 → W p l e R s m args below meth c H1 locs1 cells slots Q (F0 m (pc + 3) ls (.int r :: rest))) : W p l e R s m args below meth c H locs cells slots Q (F0 m pc ls (As.reverse ++ .ref (ka_a G k) :: rest)) := by
  obtain ⟨hP, hO, hS, hz⟩ := hw
  obtain ⟨hI, hK, hT, hN, hb0, hQ⟩ := hC
  refine va_forget (fun q hq => by rw [← hb0]; exact hS.2.2 q hq) ?_
  refine kr_Vi C0 hK hP (va_S.rf (A := ka_A G)) hl hM kd hlink hv he hc hCC hrm hn hW hdg hf (fun r σ1 H1 locs1 hq hP1 hS1 => ?_)
  refine kk r σ1 H1 locs1 hq ⟨hP1, hO.kept (hS1.2.1 _ hz (fun z => z.2 rfl)), ⟨Nat.le_trans hS.1 hS1.1, fun q h1 h2 => ?_, fun x hx => (hS1.2.2 x hx).1⟩, Nat.lt_of_lt_of_le hz hS1.1⟩
  rw [hS1.2.1 q (Nat.lt_of_lt_of_le h1 hS.1) (fun z => h2 z.1)]
  exact hS.2.1 q h1 h2
theorem kl_Si {Qp : Int32 → ka_S → Int64 → Prop} {o : Int64} {c1 s1 : Nat} {hh : List (Nat × Nat × Nat × Nat)} {lv : List (Nat × Value)} (C0 : ka_C p s m args meth c cc nL own ret) (hC : kl_C G s) (hw : kl_W G s σ o H locs) (hl : lv_has ls nL lv) (hM : kc_L l y (kw_W y bytes mL hh) rm c1 s1 G As σ o Qp) (hlink : Cond.methodLink own idx y ∈ kq_W) (hst : Cond.static y ∈ kq_W) (hini : Cond.initialized y.cls ∈ kq_W) (hcode : Cond.codeWith y bytes mL (some .int) hh ∈ kq_W)
    (hd : y.cls ≠ "java/lang/invoke/MethodHandle" ∧ y.cls ≠ "java/lang/invoke/VarHandle" ∧ (parseMethodDescriptor y.desc).map (fun d => d.parameters.length) = some n)
    (hrm : rm.cells = c1 ∧ rm.slots = s1 ∧ rm.frames + 1 ≤ R.frames ∧ 8 + (mL + 11) + rm.locals ≤ R.locals) (hn : As.length = n) (hW : (rest.map fun v => v.category).sum ≤ 8) (hdg : decode cc pc = .ok (.invokestatic idx, 3)) (hf : cells + c1 ≤ R.cells ∧ slots + s1 ≤ R.slots)
    (kk : ∀ (r : Int32) (σ1 : ka_S) (o1 : Int64) (H1 : Heap) (locs1 : List Loc), Qp r σ1 o1 → kl_W G s σ1 o1 H1 locs1 → W p l e R s m args below meth c H1 locs1 (cells + c1) (slots + s1) Q (F0 m (pc + 3) ls (.int r :: rest))) : W p l e R s m args below meth c H locs cells slots Q (F0 m pc ls (As.reverse ++ rest)) := by
  have low := hw.low hC
  obtain ⟨hP, hO, hS, hz⟩ := hw
  obtain ⟨hI, hK, hT, hN, hb0, hQ⟩ := hC
  have hts := C0.2.2.2.2.2.1
  refine va_calli (vx_runSW C0.fix hM (vx_cwSW (Ts := kq_W) n hts ?_ rfl hrm.1 hrm.2.1 hd hrm.2.2) ⟨kl_blind, fun U hU hW9 => ⟨rfl, ⟨⟨by rw [hU]; exact hP, va_K.moved hW9.alike hK⟩, hT.warm9 low hU hW9⟩, by rw [hU]; exact hO, fun i hi j hj hij => va_Nc.moved hW9.alike (hN i hi j hj hij), by rw [hU]; exact Nat.le_trans (Nat.le_of_eq hb0) hS.1, by rw [hU]; exact hz⟩⟩ rfl hn hl.1 rfl (lv_room hW) hdg hf) hS (fun q _ h => h) (fun q h => h)
    (fun r u t H1 locs1 ht hvm hq hB hzz hk1 hS1 => kk r u.1 u.2 H1 locs1 hq ⟨by rw [← ht]; exact hB.1.1, by rw [← ht]; exact hB.2, hS1, Nat.lt_of_lt_of_le hz hzz⟩)
  intro w hw
  simp only [va_wsS, List.mem_append, List.mem_cons, List.mem_nil_iff, or_false] at hw
  rcases hw with (rfl | rfl | rfl) | rfl | h
  · exact ⟨hlink, kq_good hlink⟩
  · exact ⟨hst, kq_good hst⟩
  · exact ⟨hini, kq_good hini⟩
  · exact ⟨hcode, kq_good hcode⟩
  · exact ⟨h, kq_good h⟩
/-- the answer is read out of its row -/
theorem kl_lald {o : Int64} (C0 : ka_C p s m args meth c cc nL own ret) (hC : kl_C G s) (hw : kl_W G s σ o H locs) (hdg : decode cc pc = .ok (.laload, 1)) (kk : W p l e R s m args below meth c H locs cells slots Q (F0 m (pc + 1) ls (.long o :: rest))) : W p l e R s m args below meth c H locs cells slots Q (F0 m pc ls (.int 0 :: .ref G.2.2.2 :: rest)) :=
  va_lald C0.1 C0.2.1 hC.2.1 (va_P1 hw.2.1) 0 1 rfl rfl (vp_in_nI (n := 0) (N := 1) (by decide) (by decide)) hdg kk
theorem kl_ge {c : Nat} {i L : Nat} (h : i + 5 ≤ L) (hL : L ≤ 2560) (hc : c < 5) : vp_in (nI i + nI c) L ∧ (nI i + nI c).toNatClampNeg = i + c := by
  rw [nI_add]
  exact ⟨vp_in_nI (by omega) (by omega), nI_clamp (by omega)⟩
end KLL
theorem kl_ini : Cond.initialized "GlossRowsLaw" ∈ kq_W := kq_0
theorem kl_L_append : Cond.codeWith yL_append cL_append 4 (some .int) [(0, 9, 12, 13), (0, 9, 15, 15)] ∈ kq_W := kq_of 418 (by decide +kernel) rfl
theorem kl_L_load : Cond.codeWith yL_load cL_load 3 (some .int) [(0, 8, 11, 15)] ∈ kq_W := kq_of 515 (by decide +kernel) rfl
theorem kl_L_about : Cond.codeWith yL_about cL_about 4 (some .int) [(0, 9, 12, 13)] ∈ kq_W := kq_of 532 (by decide +kernel) rfl
theorem kl_L_word : Cond.codeWith yL_word cL_word 5 (some .int) [(0, 10, 13, 28), (0, 10, 17, 13)] ∈ kq_W := kq_of 564 (by decide +kernel) rfl
theorem kl_L_part : Cond.codeWith yL_part cL_part 6 (some .int) [(0, 12, 15, 28), (0, 12, 19, 13)] ∈ kq_W := kq_of 599 (by decide +kernel) rfl
theorem kl_L_letter : Cond.codeWith yL_letter cL_letter 7 (some .int) [(0, 14, 17, 28), (0, 14, 21, 13)] ∈ kq_W := kq_of 619 (by decide +kernel) rfl
theorem kl_L_entry : Cond.codeWith yL_entry cL_entry 6 (some .int) [(0, 12, 15, 28), (0, 12, 19, 13)] ∈ kq_W := kq_of 634 (by decide +kernel) rfl
theorem kl_L_row : Cond.codeWith yL_row cL_row 5 (some .int) [(0, 10, 13, 28), (0, 10, 17, 13)] ∈ kq_W := kq_of 646 (by decide +kernel) rfl
theorem kl_L_at : Cond.codeWith yL_at cL_at 5 (some .int) [(0, 10, 13, 28), (0, 10, 17, 13)] ∈ kq_W := kq_of 683 (by decide +kernel) rfl
theorem kl_L_insert : Cond.codeWith yL_insert cL_insert 4 (some .int) [(0, 9, 12, 28), (0, 9, 15, 15)] ∈ kq_W := kq_of 704 (by decide +kernel) rfl
theorem kl_L_remove : Cond.codeWith yL_remove cL_remove 4 (some .int) [(0, 9, 12, 28)] ∈ kq_W := kq_of 713 (by decide +kernel) rfl
theorem kl_L_end : Cond.codeWith yL_end cL_end 4 (some .int) [(0, 9, 12, 28)] ∈ kq_W := kq_of 724 (by decide +kernel) rfl
theorem kl_L_join : Cond.codeWith yL_join cL_join 4 (some .int) [(0, 9, 12, 28)] ∈ kq_W := kq_of 731 (by decide +kernel) rfl
theorem kl_L_setFree : Cond.codeWith yL_setFree cL_setFree 4 (some .int) [(0, 9, 12, 28), (0, 9, 15, 15)] ∈ kq_W := kq_of 742 (by decide +kernel) rfl
theorem kl_L_setGloss : Cond.codeWith yL_setGloss cL_setGloss 5 (some .int) [(0, 10, 13, 28), (0, 10, 17, 15)] ∈ kq_W := kq_of 759 (by decide +kernel) rfl
theorem kl_L_set : Cond.codeWith yL_set cL_set 5 (some .int) [(0, 10, 13, 13)] ∈ kq_W := kq_of 777 (by decide +kernel) rfl
theorem kl_L_learn : Cond.codeWith yL_learn cL_learn 5 (some .int) [(0, 10, 13, 28), (0, 10, 17, 15)] ∈ kq_W := kq_of 792 (by decide +kernel) rfl
theorem kl_L_forget : Cond.codeWith yL_forget cL_forget 4 (some .int) [(0, 9, 12, 28)] ∈ kq_W := kq_of 823 (by decide +kernel) rfl
theorem kl_L_undo : Cond.codeWith yL_undo cL_undo 3 (some .int) [(0, 8, 11, 15)] ∈ kq_W := kq_of 834 (by decide +kernel) rfl
theorem kl_L_gap : Cond.codeWith yL_gap cL_gap 4 (some .int) [(0, 9, 12, 13)] ∈ kq_W := kq_of 846 (by decide +kernel) rfl
theorem kl_L_widthFor : Cond.codeWith yL_widthFor cL_widthFor 4 (some .int) [(0, 9, 12, 13)] ∈ kq_W := kq_of 857 (by decide +kernel) rfl
theorem kl_L_rowsWith : Cond.codeWith yL_rowsWith cL_rowsWith 5 (some .int) [(0, 10, 13, 13)] ∈ kq_W := kq_of 865 (by decide +kernel) rfl
theorem kl_L_runScript : Cond.codeWith yL_runScript cL_runScript 6 (some .int) [(0, 11, 14, 13)] ∈ kq_W := kq_of 873 (by decide +kernel) rfl
theorem kl_L_simulate : Cond.codeWith yL_simulate cL_simulate 6 (some .int) [(0, 11, 14, 13)] ∈ kq_W := kq_of 907 (by decide +kernel) rfl
theorem kl_L_save : Cond.codeWith yL_save cL_save 4 (some .int) [(0, 9, 12, 28)] ∈ kq_W := kq_of 926 (by decide +kernel) rfl
theorem kl_L_restore : Cond.codeWith yL_restore cL_restore 4 (some .int) [(0, 9, 12, 28), (0, 9, 15, 15)] ∈ kq_W := kq_of 938 (by decide +kernel) rfl
def kl_c0 (σ : ka_S) (xs : Nat → Int32) (i : Nat) (o : Int64) (K : ka_S → Int64 → Prop) : Prop := kw_L_append σ (xs (i + 1)) o (fun r2 σ1 o3 =>
  kw_X9_append σ1 (xs (i + 1)) (fun r5 σ4 =>
  kw_X9_thrown σ4 (fun r7 σ6 =>
  (r7 = r2 → (r2 = (0 : Int32) → (o3 = (r5).toInt64 → K σ6 o3) ∧
      (¬ o3 = (r5).toInt64 → False)) ∧
    (¬ r2 = (0 : Int32) → K σ6 o3)) ∧
  (¬ r7 = r2 → False))))
set_option maxHeartbeats 4000000 in
set_option maxRecDepth 100000 in
theorem kl_t0 {p : Program} {l : Launch} {e : Env} {s : State} {m : MethodId} {below : List Frame} {meth : Method} {c : Code} {b L : Nat} {xs : Nat → Int32} {Z : State → Prop} {G : ka_G} (hl0 : l.stackTraces = false) (C0 : ka_C p s m #[.ref b] meth c cL_law 7 "GlossRowsLaw" (some .boolean)) (hC : kl_C G s) (hX : va_X b L xs s s.heap) (hbl : b < s.heap.size) (hL : L ≤ 2560) {i cells slots : Nat} (hi : i + 5 ≤ L) (hcl : cells + 2 ≤ 601024) (hsl : slots + 12 ≤ 7293034) {K : ka_S → Int64 → Prop}
    (kx : ∀ (σ : ka_S) (o : Int64) (H : Heap) (locs : List Loc), K σ o → kl_W G s σ o H locs → ∀ ls : Array Slot, lv_has ls 7 [(0, .ref b), (1, .ref (ka_a G (22, 0, 0))), (2, .ref (ka_a G (25, 0, 0))), (3, .ref G.2.2.2), (4, .int (nI i))] → W p l e room_1 s m #[.ref b] below meth c H locs (cells + 2) (slots + 12) Z (F0 m 1961 ls []))
    {σ : ka_S} {o : Int64} {H : Heap} {locs : List Loc} {ls : Array Slot} (hq : kl_c0 σ xs i o K) (hw : kl_W G s σ o H locs) (hl : lv_has ls 7 [(0, .ref b), (1, .ref (ka_a G (22, 0, 0))), (2, .ref (ka_a G (25, 0, 0))), (3, .ref G.2.2.2), (4, .int (nI i))]) : W p l e room_1 s m #[.ref b] below meth c H locs cells slots Z (F0 m 176 ls []) := by
  obtain ⟨hx, hb, -, hml, hown, hts, -⟩ := id C0
  have hbA : ¬ ka_A9 G b := fun z => by have : G.2.2.1 ≤ b := z; rw [hC.2.2.2.2.1] at this; omega
  have hin1 := kl_ge (c := 1) hi hL (by decide)
  have hin2 := kl_ge (c := 2) hi hL (by decide)
  have hin3 := kl_ge (c := 3) hi hL (by decide)
  have hin4 := kl_ge (c := 4) hi hL (by decide)
  unfold kl_c0 at hq
  refine lv_aload_n hx hb dL_law_176 rfl (lv_at hl 1 rfl) ?_
  refine lv_aload_n hx hb dL_law_177 rfl (lv_at hl 0 rfl) ?_
  refine lv_iload hx hb dL_law_178 (lv_at hl 4 rfl) ?_
  refine lv_iconst (v := 1) hx hb dL_law_180 (by decide) ?_
  refine lv_iadd hx hb dL_law_181 ?_
  refine va_sld hx hb hX hbl hbA hw.2.2.1 hin1.1 dL_law_182 ?_
  rw [show (nI i + 1).toNatClampNeg = i + 1 from hin1.2]
  refine lv_aload_n hx hb dL_law_183 rfl (lv_at hl 3 rfl) ?_
  refine kl_Si (n := 3) (As := [.ref (ka_a G (22, 0, 0)), .int (xs (i + 1)), .ref G.2.2.2]) (rest := []) C0 hC hw hl (km_L_append l hl0 hC.1 hC.2.2.2.2.2 hq) kq_416 kq_417 kl_ini kl_L_append (by decide +kernel) ⟨rfl, rfl, Nat.le_of_ble_eq_true rfl, Nat.le_of_ble_eq_true rfl⟩ rfl (Nat.le_of_ble_eq_true rfl) dL_law_184 ⟨by show _ ≤ 601024; omega, by show _ ≤ 7293034; omega⟩ (fun r2 σ1 o3 H locs hq hw => ?_)
  refine lv_istore (lv' := [(5, .int r2), (0, .ref b), (1, .ref (ka_a G (22, 0, 0))), (2, .ref (ka_a G (25, 0, 0))), (3, .ref G.2.2.2), (4, .int (nI i))]) hx hb dL_law_187 hl (by decide) rfl (fun ls hl => ?_)
  refine lv_aload_n hx hb dL_law_189 rfl (lv_at hl 3 rfl) ?_
  refine lv_aload_n hx hb dL_law_190 rfl (lv_at hl 1 rfl) ?_
  refine lv_iload hx hb dL_law_191 (lv_at hl 5 rfl) ?_
  refine lv_iconst (v := 1) hx hb dL_law_193 (by decide) ?_
  refine lv_iadd hx hb dL_law_194 ?_
  refine va_sld hx hb hX hbl hbA hw.2.2.1 hin1.1 dL_law_195 ?_
  rw [show (nI i + 1).toNatClampNeg = i + 1 from hin1.2]
  refine kl_Vi (k := (25, 0, 0)) (As := [.int (xs (i + 1))]) (rest := []) C0 hC hw hl (km_X9_append l hC.1 hq) kd_X9_append kq_1026 (kv_s (by decide) (by decide)) rfl rfl rfl ⟨rfl, rfl, Nat.le_of_ble_eq_true rfl, Nat.le_of_ble_eq_true rfl⟩ rfl (Nat.le_of_ble_eq_true rfl) dL_law_196 ⟨by show _ ≤ 601024; omega, by show _ ≤ 7293034; omega⟩ (fun r5 σ4 H locs hq hw => ?_)
  refine lv_istore (lv' := [(6, .int r5), (5, .int r2), (0, .ref b), (1, .ref (ka_a G (22, 0, 0))), (2, .ref (ka_a G (25, 0, 0))), (3, .ref G.2.2.2), (4, .int (nI i))]) hx hb dL_law_199 hl (by decide) rfl (fun ls hl => ?_)
  refine lv_aload_n hx hb dL_law_201 rfl (lv_at hl 4 rfl) ?_
  refine kl_Vi (k := (25, 0, 0)) (As := []) (rest := []) C0 hC hw hl (km_X9_thrown l hC.1 hq) kd_X9_thrown kq_1022 (kv_s (by decide) (by decide)) rfl rfl rfl ⟨rfl, rfl, Nat.le_of_ble_eq_true rfl, Nat.le_of_ble_eq_true rfl⟩ rfl (Nat.le_of_ble_eq_true rfl) dL_law_202 ⟨by show _ ≤ 601024; omega, by show _ ≤ 7293034; omega⟩ (fun r7 σ6 H locs hq hw => ?_)
  refine lv_iload hx hb dL_law_205 (lv_at hl 1 rfl) ?_
  refine lv_icmp_eq (tgt := 212) hx hb dL_law_207 (by decide) (fun hc => ?_) (fun hc => ?_)
  · have hq := hq.1 hc
    refine lv_iload hx hb dL_law_212 (lv_at hl 1 rfl) ?_
    refine lv_if_ne (tgt := 229) hx hb dL_law_214 (by decide) (fun hc => ?_) (fun hc => ?_)
    · have hq := hq.2 hc
      refine lv_goto (tgt := 1961) hx hb dL_law_229 (by decide) ?_
      exact W.widen (k := cells + 2) (n := slots + 12) (by omega) (by omega) (kx σ6 o3 H locs hq hw ls (lv_sub hl [2, 3, 4, 5, 6] rfl))
    · have hq := hq.1 hc
      refine lv_aload_n hx hb dL_law_217 rfl (lv_at hl 5 rfl) ?_
      refine lv_iconst (v := 0) hx hb dL_law_218 (by decide) ?_
      refine kl_lald C0 hC hw dL_law_219 ?_
      refine lv_iload hx hb dL_law_220 (lv_at hl 0 rfl) ?_
      refine lv_i2l hx hb dL_law_222 rfl ?_
      refine kr_ceq (tgt := 229) C0 dL_law_223 dL_law_224 (by decide) (fun hc => ?_) (fun hc => ?_)
      · have hq := hq.1 hc
        refine lv_goto (tgt := 1961) hx hb dL_law_229 (by decide) ?_
        exact W.widen (k := cells + 2) (n := slots + 12) (by omega) (by omega) (kx σ6 o3 H locs hq hw ls (lv_sub hl [2, 3, 4, 5, 6] rfl))
      · have hq := hq.2 hc
        refine lv_iconst (v := 0) hx hb dL_law_227 (by decide) ?_
        exact hq.elim
  · have hq := hq.2 hc
    refine lv_iconst (v := 0) hx hb dL_law_210 (by decide) ?_
    exact hq.elim
def kl_c1 (σ : ka_S) (xs : Nat → Int32) (i : Nat) (o : Int64) (K : ka_S → Int64 → Prop) : Prop := kw_X8_clearText σ (fun r2 σ1 =>
  kw_X9_clearText σ1 (fun r4 σ3 =>
  (r2 = r4 → K σ3 o) ∧
  (¬ r2 = r4 → False)))
set_option maxHeartbeats 4000000 in
set_option maxRecDepth 100000 in
theorem kl_t1 {p : Program} {l : Launch} {e : Env} {s : State} {m : MethodId} {below : List Frame} {meth : Method} {c : Code} {b L : Nat} {xs : Nat → Int32} {Z : State → Prop} {G : ka_G} (hl0 : l.stackTraces = false) (C0 : ka_C p s m #[.ref b] meth c cL_law 7 "GlossRowsLaw" (some .boolean)) (hC : kl_C G s) (hX : va_X b L xs s s.heap) (hbl : b < s.heap.size) (hL : L ≤ 2560) {i cells slots : Nat} (hi : i + 5 ≤ L) (hcl : cells + 2 ≤ 601024) (hsl : slots + 12 ≤ 7293034) {K : ka_S → Int64 → Prop}
    (kx : ∀ (σ : ka_S) (o : Int64) (H : Heap) (locs : List Loc), K σ o → kl_W G s σ o H locs → ∀ ls : Array Slot, lv_has ls 7 [(0, .ref b), (1, .ref (ka_a G (22, 0, 0))), (2, .ref (ka_a G (25, 0, 0))), (3, .ref G.2.2.2), (4, .int (nI i))] → W p l e room_1 s m #[.ref b] below meth c H locs (cells + 2) (slots + 12) Z (F0 m 1961 ls []))
    {σ : ka_S} {o : Int64} {H : Heap} {locs : List Loc} {ls : Array Slot} (hq : kl_c1 σ xs i o K) (hw : kl_W G s σ o H locs) (hl : lv_has ls 7 [(0, .ref b), (1, .ref (ka_a G (22, 0, 0))), (2, .ref (ka_a G (25, 0, 0))), (3, .ref G.2.2.2), (4, .int (nI i))]) : W p l e room_1 s m #[.ref b] below meth c H locs cells slots Z (F0 m 232 ls []) := by
  obtain ⟨hx, hb, -, hml, hown, hts, -⟩ := id C0
  have hbA : ¬ ka_A9 G b := fun z => by have : G.2.2.1 ≤ b := z; rw [hC.2.2.2.2.1] at this; omega
  have hin1 := kl_ge (c := 1) hi hL (by decide)
  have hin2 := kl_ge (c := 2) hi hL (by decide)
  have hin3 := kl_ge (c := 3) hi hL (by decide)
  have hin4 := kl_ge (c := 4) hi hL (by decide)
  unfold kl_c1 at hq
  refine lv_aload_n hx hb dL_law_232 rfl (lv_at hl 1 rfl) ?_
  refine kl_Vi (k := (22, 0, 0)) (As := []) (rest := []) C0 hC hw hl (km_X8_clearText l hC.1 hq) kd_X8_clearText kq_258 (kv_s (by decide) (by decide)) rfl rfl rfl ⟨rfl, rfl, Nat.le_of_ble_eq_true rfl, Nat.le_of_ble_eq_true rfl⟩ rfl (Nat.le_of_ble_eq_true rfl) dL_law_233 ⟨by show _ ≤ 601024; omega, by show _ ≤ 7293034; omega⟩ (fun r2 σ1 H locs hq hw => ?_)
  refine lv_aload_n hx hb dL_law_236 rfl (lv_at hl 2 rfl) ?_
  refine kl_Vi (k := (25, 0, 0)) (As := []) (rest := [.int r2]) C0 hC hw hl (km_X9_clearText l hC.1 hq) kd_X9_clearText kq_1038 (kv_s (by decide) (by decide)) rfl rfl rfl ⟨rfl, rfl, Nat.le_of_ble_eq_true rfl, Nat.le_of_ble_eq_true rfl⟩ rfl (Nat.le_of_ble_eq_true rfl) dL_law_237 ⟨by show _ ≤ 601024; omega, by show _ ≤ 7293034; omega⟩ (fun r4 σ3 H locs hq hw => ?_)
  refine lv_icmp_eq (tgt := 1961) hx hb dL_law_240 (by decide) (fun hc => ?_) (fun hc => ?_)
  · have hq := hq.1 hc
    exact W.widen (k := cells + 2) (n := slots + 12) (by omega) (by omega) (kx σ3 o H locs hq hw ls (lv_sub hl [0, 1, 2, 3, 4] rfl))
  · have hq := hq.2 hc
    refine lv_iconst (v := 0) hx hb dL_law_243 (by decide) ?_
    exact hq.elim
def kl_c2 (σ : ka_S) (xs : Nat → Int32) (i : Nat) (o : Int64) (K : ka_S → Int64 → Prop) : Prop := kw_X8_errorPosition σ (fun r2 σ1 =>
  kw_X9_errorPosition σ1 (fun r4 σ3 =>
  (r2 = r4 → K σ3 o) ∧
  (¬ r2 = r4 → False)))
set_option maxHeartbeats 4000000 in
set_option maxRecDepth 100000 in
theorem kl_t2 {p : Program} {l : Launch} {e : Env} {s : State} {m : MethodId} {below : List Frame} {meth : Method} {c : Code} {b L : Nat} {xs : Nat → Int32} {Z : State → Prop} {G : ka_G} (hl0 : l.stackTraces = false) (C0 : ka_C p s m #[.ref b] meth c cL_law 7 "GlossRowsLaw" (some .boolean)) (hC : kl_C G s) (hX : va_X b L xs s s.heap) (hbl : b < s.heap.size) (hL : L ≤ 2560) {i cells slots : Nat} (hi : i + 5 ≤ L) (hcl : cells + 2 ≤ 601024) (hsl : slots + 12 ≤ 7293034) {K : ka_S → Int64 → Prop}
    (kx : ∀ (σ : ka_S) (o : Int64) (H : Heap) (locs : List Loc), K σ o → kl_W G s σ o H locs → ∀ ls : Array Slot, lv_has ls 7 [(0, .ref b), (1, .ref (ka_a G (22, 0, 0))), (2, .ref (ka_a G (25, 0, 0))), (3, .ref G.2.2.2), (4, .int (nI i))] → W p l e room_1 s m #[.ref b] below meth c H locs (cells + 2) (slots + 12) Z (F0 m 1961 ls []))
    {σ : ka_S} {o : Int64} {H : Heap} {locs : List Loc} {ls : Array Slot} (hq : kl_c2 σ xs i o K) (hw : kl_W G s σ o H locs) (hl : lv_has ls 7 [(0, .ref b), (1, .ref (ka_a G (22, 0, 0))), (2, .ref (ka_a G (25, 0, 0))), (3, .ref G.2.2.2), (4, .int (nI i))]) : W p l e room_1 s m #[.ref b] below meth c H locs cells slots Z (F0 m 245 ls []) := by
  obtain ⟨hx, hb, -, hml, hown, hts, -⟩ := id C0
  have hbA : ¬ ka_A9 G b := fun z => by have : G.2.2.1 ≤ b := z; rw [hC.2.2.2.2.1] at this; omega
  have hin1 := kl_ge (c := 1) hi hL (by decide)
  have hin2 := kl_ge (c := 2) hi hL (by decide)
  have hin3 := kl_ge (c := 3) hi hL (by decide)
  have hin4 := kl_ge (c := 4) hi hL (by decide)
  unfold kl_c2 at hq
  refine lv_aload_n hx hb dL_law_245 rfl (lv_at hl 1 rfl) ?_
  refine kl_Vi (k := (22, 0, 0)) (As := []) (rest := []) C0 hC hw hl (km_X8_errorPosition l hC.1 hq) kd_X8_errorPosition kq_262 (kv_s (by decide) (by decide)) rfl rfl rfl ⟨rfl, rfl, Nat.le_of_ble_eq_true rfl, Nat.le_of_ble_eq_true rfl⟩ rfl (Nat.le_of_ble_eq_true rfl) dL_law_246 ⟨by show _ ≤ 601024; omega, by show _ ≤ 7293034; omega⟩ (fun r2 σ1 H locs hq hw => ?_)
  refine lv_aload_n hx hb dL_law_249 rfl (lv_at hl 2 rfl) ?_
  refine kl_Vi (k := (25, 0, 0)) (As := []) (rest := [.int r2]) C0 hC hw hl (km_X9_errorPosition l hC.1 hq) kd_X9_errorPosition kq_1042 (kv_s (by decide) (by decide)) rfl rfl rfl ⟨rfl, rfl, Nat.le_of_ble_eq_true rfl, Nat.le_of_ble_eq_true rfl⟩ rfl (Nat.le_of_ble_eq_true rfl) dL_law_250 ⟨by show _ ≤ 601024; omega, by show _ ≤ 7293034; omega⟩ (fun r4 σ3 H locs hq hw => ?_)
  refine lv_icmp_eq (tgt := 1961) hx hb dL_law_253 (by decide) (fun hc => ?_) (fun hc => ?_)
  · have hq := hq.1 hc
    exact W.widen (k := cells + 2) (n := slots + 12) (by omega) (by omega) (kx σ3 o H locs hq hw ls (lv_sub hl [0, 1, 2, 3, 4] rfl))
  · have hq := hq.2 hc
    refine lv_iconst (v := 0) hx hb dL_law_256 (by decide) ?_
    exact hq.elim
def kl_c3 (σ : ka_S) (xs : Nat → Int32) (i : Nat) (o : Int64) (K : ka_S → Int64 → Prop) : Prop := kw_L_load σ o (fun r2 σ1 o3 =>
  kw_X9_load σ1 (fun r5 σ4 =>
  kw_X9_thrown σ4 (fun r7 σ6 =>
  (r7 = r2 → (r2 = (0 : Int32) → (o3 = (r5).toInt64 → K σ6 o3) ∧
      (¬ o3 = (r5).toInt64 → False)) ∧
    (¬ r2 = (0 : Int32) → K σ6 o3)) ∧
  (¬ r7 = r2 → False))))
set_option maxHeartbeats 4000000 in
set_option maxRecDepth 100000 in
theorem kl_t3 {p : Program} {l : Launch} {e : Env} {s : State} {m : MethodId} {below : List Frame} {meth : Method} {c : Code} {b L : Nat} {xs : Nat → Int32} {Z : State → Prop} {G : ka_G} (hl0 : l.stackTraces = false) (C0 : ka_C p s m #[.ref b] meth c cL_law 7 "GlossRowsLaw" (some .boolean)) (hC : kl_C G s) (hX : va_X b L xs s s.heap) (hbl : b < s.heap.size) (hL : L ≤ 2560) {i cells slots : Nat} (hi : i + 5 ≤ L) (hcl : cells + 2 ≤ 601024) (hsl : slots + 12 ≤ 7293034) {K : ka_S → Int64 → Prop}
    (kx : ∀ (σ : ka_S) (o : Int64) (H : Heap) (locs : List Loc), K σ o → kl_W G s σ o H locs → ∀ ls : Array Slot, lv_has ls 7 [(0, .ref b), (1, .ref (ka_a G (22, 0, 0))), (2, .ref (ka_a G (25, 0, 0))), (3, .ref G.2.2.2), (4, .int (nI i))] → W p l e room_1 s m #[.ref b] below meth c H locs (cells + 2) (slots + 12) Z (F0 m 1961 ls []))
    {σ : ka_S} {o : Int64} {H : Heap} {locs : List Loc} {ls : Array Slot} (hq : kl_c3 σ xs i o K) (hw : kl_W G s σ o H locs) (hl : lv_has ls 7 [(0, .ref b), (1, .ref (ka_a G (22, 0, 0))), (2, .ref (ka_a G (25, 0, 0))), (3, .ref G.2.2.2), (4, .int (nI i))]) : W p l e room_1 s m #[.ref b] below meth c H locs cells slots Z (F0 m 258 ls []) := by
  obtain ⟨hx, hb, -, hml, hown, hts, -⟩ := id C0
  have hbA : ¬ ka_A9 G b := fun z => by have : G.2.2.1 ≤ b := z; rw [hC.2.2.2.2.1] at this; omega
  have hin1 := kl_ge (c := 1) hi hL (by decide)
  have hin2 := kl_ge (c := 2) hi hL (by decide)
  have hin3 := kl_ge (c := 3) hi hL (by decide)
  have hin4 := kl_ge (c := 4) hi hL (by decide)
  unfold kl_c3 at hq
  refine lv_aload_n hx hb dL_law_258 rfl (lv_at hl 1 rfl) ?_
  refine lv_aload_n hx hb dL_law_259 rfl (lv_at hl 3 rfl) ?_
  refine kl_Si (n := 2) (As := [.ref (ka_a G (22, 0, 0)), .ref G.2.2.2]) (rest := []) C0 hC hw hl (km_L_load l hl0 hC.1 hC.2.2.2.2.2 hq) kq_513 kq_514 kl_ini kl_L_load (by decide +kernel) ⟨rfl, rfl, Nat.le_of_ble_eq_true rfl, Nat.le_of_ble_eq_true rfl⟩ rfl (Nat.le_of_ble_eq_true rfl) dL_law_260 ⟨by show _ ≤ 601024; omega, by show _ ≤ 7293034; omega⟩ (fun r2 σ1 o3 H locs hq hw => ?_)
  refine lv_istore (lv' := [(5, .int r2), (0, .ref b), (1, .ref (ka_a G (22, 0, 0))), (2, .ref (ka_a G (25, 0, 0))), (3, .ref G.2.2.2), (4, .int (nI i))]) hx hb dL_law_263 hl (by decide) rfl (fun ls hl => ?_)
  refine lv_aload_n hx hb dL_law_265 rfl (lv_at hl 3 rfl) ?_
  refine kl_Vi (k := (25, 0, 0)) (As := []) (rest := []) C0 hC hw hl (km_X9_load l hC.1 hq) kd_X9_load kq_1069 (kv_s (by decide) (by decide)) rfl rfl rfl ⟨rfl, rfl, Nat.le_of_ble_eq_true rfl, Nat.le_of_ble_eq_true rfl⟩ rfl (Nat.le_of_ble_eq_true rfl) dL_law_266 ⟨by show _ ≤ 601024; omega, by show _ ≤ 7293034; omega⟩ (fun r5 σ4 H locs hq hw => ?_)
  refine lv_istore (lv' := [(6, .int r5), (5, .int r2), (0, .ref b), (1, .ref (ka_a G (22, 0, 0))), (2, .ref (ka_a G (25, 0, 0))), (3, .ref G.2.2.2), (4, .int (nI i))]) hx hb dL_law_269 hl (by decide) rfl (fun ls hl => ?_)
  refine lv_aload_n hx hb dL_law_271 rfl (lv_at hl 4 rfl) ?_
  refine kl_Vi (k := (25, 0, 0)) (As := []) (rest := []) C0 hC hw hl (km_X9_thrown l hC.1 hq) kd_X9_thrown kq_1022 (kv_s (by decide) (by decide)) rfl rfl rfl ⟨rfl, rfl, Nat.le_of_ble_eq_true rfl, Nat.le_of_ble_eq_true rfl⟩ rfl (Nat.le_of_ble_eq_true rfl) dL_law_272 ⟨by show _ ≤ 601024; omega, by show _ ≤ 7293034; omega⟩ (fun r7 σ6 H locs hq hw => ?_)
  refine lv_iload hx hb dL_law_275 (lv_at hl 1 rfl) ?_
  refine lv_icmp_eq (tgt := 282) hx hb dL_law_277 (by decide) (fun hc => ?_) (fun hc => ?_)
  · have hq := hq.1 hc
    refine lv_iload hx hb dL_law_282 (lv_at hl 1 rfl) ?_
    refine lv_if_ne (tgt := 299) hx hb dL_law_284 (by decide) (fun hc => ?_) (fun hc => ?_)
    · have hq := hq.2 hc
      refine lv_goto (tgt := 1961) hx hb dL_law_299 (by decide) ?_
      exact W.widen (k := cells + 2) (n := slots + 12) (by omega) (by omega) (kx σ6 o3 H locs hq hw ls (lv_sub hl [2, 3, 4, 5, 6] rfl))
    · have hq := hq.1 hc
      refine lv_aload_n hx hb dL_law_287 rfl (lv_at hl 5 rfl) ?_
      refine lv_iconst (v := 0) hx hb dL_law_288 (by decide) ?_
      refine kl_lald C0 hC hw dL_law_289 ?_
      refine lv_iload hx hb dL_law_290 (lv_at hl 0 rfl) ?_
      refine lv_i2l hx hb dL_law_292 rfl ?_
      refine kr_ceq (tgt := 299) C0 dL_law_293 dL_law_294 (by decide) (fun hc => ?_) (fun hc => ?_)
      · have hq := hq.1 hc
        refine lv_goto (tgt := 1961) hx hb dL_law_299 (by decide) ?_
        exact W.widen (k := cells + 2) (n := slots + 12) (by omega) (by omega) (kx σ6 o3 H locs hq hw ls (lv_sub hl [2, 3, 4, 5, 6] rfl))
      · have hq := hq.2 hc
        refine lv_iconst (v := 0) hx hb dL_law_297 (by decide) ?_
        exact hq.elim
  · have hq := hq.2 hc
    refine lv_iconst (v := 0) hx hb dL_law_280 (by decide) ?_
    exact hq.elim
def kl_c4 (σ : ka_S) (xs : Nat → Int32) (i : Nat) (o : Int64) (K : ka_S → Int64 → Prop) : Prop := kw_L_about σ (xs (i + 1)) o (fun r2 σ1 o3 =>
  kw_X9_about σ1 (xs (i + 1)) (fun r5 σ4 =>
  kw_X9_thrown σ4 (fun r7 σ6 =>
  (r7 = r2 → (r2 = (0 : Int32) → (o3 = (r5).toInt64 → K σ6 o3) ∧
      (¬ o3 = (r5).toInt64 → False)) ∧
    (¬ r2 = (0 : Int32) → K σ6 o3)) ∧
  (¬ r7 = r2 → False))))
set_option maxHeartbeats 4000000 in
set_option maxRecDepth 100000 in
theorem kl_t4 {p : Program} {l : Launch} {e : Env} {s : State} {m : MethodId} {below : List Frame} {meth : Method} {c : Code} {b L : Nat} {xs : Nat → Int32} {Z : State → Prop} {G : ka_G} (hl0 : l.stackTraces = false) (C0 : ka_C p s m #[.ref b] meth c cL_law 7 "GlossRowsLaw" (some .boolean)) (hC : kl_C G s) (hX : va_X b L xs s s.heap) (hbl : b < s.heap.size) (hL : L ≤ 2560) {i cells slots : Nat} (hi : i + 5 ≤ L) (hcl : cells + 2 ≤ 601024) (hsl : slots + 12 ≤ 7293034) {K : ka_S → Int64 → Prop}
    (kx : ∀ (σ : ka_S) (o : Int64) (H : Heap) (locs : List Loc), K σ o → kl_W G s σ o H locs → ∀ ls : Array Slot, lv_has ls 7 [(0, .ref b), (1, .ref (ka_a G (22, 0, 0))), (2, .ref (ka_a G (25, 0, 0))), (3, .ref G.2.2.2), (4, .int (nI i))] → W p l e room_1 s m #[.ref b] below meth c H locs (cells + 2) (slots + 12) Z (F0 m 1961 ls []))
    {σ : ka_S} {o : Int64} {H : Heap} {locs : List Loc} {ls : Array Slot} (hq : kl_c4 σ xs i o K) (hw : kl_W G s σ o H locs) (hl : lv_has ls 7 [(0, .ref b), (1, .ref (ka_a G (22, 0, 0))), (2, .ref (ka_a G (25, 0, 0))), (3, .ref G.2.2.2), (4, .int (nI i))]) : W p l e room_1 s m #[.ref b] below meth c H locs cells slots Z (F0 m 302 ls []) := by
  obtain ⟨hx, hb, -, hml, hown, hts, -⟩ := id C0
  have hbA : ¬ ka_A9 G b := fun z => by have : G.2.2.1 ≤ b := z; rw [hC.2.2.2.2.1] at this; omega
  have hin1 := kl_ge (c := 1) hi hL (by decide)
  have hin2 := kl_ge (c := 2) hi hL (by decide)
  have hin3 := kl_ge (c := 3) hi hL (by decide)
  have hin4 := kl_ge (c := 4) hi hL (by decide)
  unfold kl_c4 at hq
  refine lv_aload_n hx hb dL_law_302 rfl (lv_at hl 1 rfl) ?_
  refine lv_aload_n hx hb dL_law_303 rfl (lv_at hl 0 rfl) ?_
  refine lv_iload hx hb dL_law_304 (lv_at hl 4 rfl) ?_
  refine lv_iconst (v := 1) hx hb dL_law_306 (by decide) ?_
  refine lv_iadd hx hb dL_law_307 ?_
  refine va_sld hx hb hX hbl hbA hw.2.2.1 hin1.1 dL_law_308 ?_
  rw [show (nI i + 1).toNatClampNeg = i + 1 from hin1.2]
  refine lv_aload_n hx hb dL_law_309 rfl (lv_at hl 3 rfl) ?_
  refine kl_Si (n := 3) (As := [.ref (ka_a G (22, 0, 0)), .int (xs (i + 1)), .ref G.2.2.2]) (rest := []) C0 hC hw hl (km_L_about l hl0 hC.1 hC.2.2.2.2.2 hq) kq_530 kq_531 kl_ini kl_L_about (by decide +kernel) ⟨rfl, rfl, Nat.le_of_ble_eq_true rfl, Nat.le_of_ble_eq_true rfl⟩ rfl (Nat.le_of_ble_eq_true rfl) dL_law_310 ⟨by show _ ≤ 601024; omega, by show _ ≤ 7293034; omega⟩ (fun r2 σ1 o3 H locs hq hw => ?_)
  refine lv_istore (lv' := [(5, .int r2), (0, .ref b), (1, .ref (ka_a G (22, 0, 0))), (2, .ref (ka_a G (25, 0, 0))), (3, .ref G.2.2.2), (4, .int (nI i))]) hx hb dL_law_313 hl (by decide) rfl (fun ls hl => ?_)
  refine lv_aload_n hx hb dL_law_315 rfl (lv_at hl 3 rfl) ?_
  refine lv_aload_n hx hb dL_law_316 rfl (lv_at hl 1 rfl) ?_
  refine lv_iload hx hb dL_law_317 (lv_at hl 5 rfl) ?_
  refine lv_iconst (v := 1) hx hb dL_law_319 (by decide) ?_
  refine lv_iadd hx hb dL_law_320 ?_
  refine va_sld hx hb hX hbl hbA hw.2.2.1 hin1.1 dL_law_321 ?_
  rw [show (nI i + 1).toNatClampNeg = i + 1 from hin1.2]
  refine kl_Vi (k := (25, 0, 0)) (As := [.int (xs (i + 1))]) (rest := []) C0 hC hw hl (km_X9_about l hC.1 hq) kd_X9_about kq_1083 (kv_s (by decide) (by decide)) rfl rfl rfl ⟨rfl, rfl, Nat.le_of_ble_eq_true rfl, Nat.le_of_ble_eq_true rfl⟩ rfl (Nat.le_of_ble_eq_true rfl) dL_law_322 ⟨by show _ ≤ 601024; omega, by show _ ≤ 7293034; omega⟩ (fun r5 σ4 H locs hq hw => ?_)
  refine lv_istore (lv' := [(6, .int r5), (5, .int r2), (0, .ref b), (1, .ref (ka_a G (22, 0, 0))), (2, .ref (ka_a G (25, 0, 0))), (3, .ref G.2.2.2), (4, .int (nI i))]) hx hb dL_law_325 hl (by decide) rfl (fun ls hl => ?_)
  refine lv_aload_n hx hb dL_law_327 rfl (lv_at hl 4 rfl) ?_
  refine kl_Vi (k := (25, 0, 0)) (As := []) (rest := []) C0 hC hw hl (km_X9_thrown l hC.1 hq) kd_X9_thrown kq_1022 (kv_s (by decide) (by decide)) rfl rfl rfl ⟨rfl, rfl, Nat.le_of_ble_eq_true rfl, Nat.le_of_ble_eq_true rfl⟩ rfl (Nat.le_of_ble_eq_true rfl) dL_law_328 ⟨by show _ ≤ 601024; omega, by show _ ≤ 7293034; omega⟩ (fun r7 σ6 H locs hq hw => ?_)
  refine lv_iload hx hb dL_law_331 (lv_at hl 1 rfl) ?_
  refine lv_icmp_eq (tgt := 338) hx hb dL_law_333 (by decide) (fun hc => ?_) (fun hc => ?_)
  · have hq := hq.1 hc
    refine lv_iload hx hb dL_law_338 (lv_at hl 1 rfl) ?_
    refine lv_if_ne (tgt := 355) hx hb dL_law_340 (by decide) (fun hc => ?_) (fun hc => ?_)
    · have hq := hq.2 hc
      refine lv_goto (tgt := 1961) hx hb dL_law_355 (by decide) ?_
      exact W.widen (k := cells + 2) (n := slots + 12) (by omega) (by omega) (kx σ6 o3 H locs hq hw ls (lv_sub hl [2, 3, 4, 5, 6] rfl))
    · have hq := hq.1 hc
      refine lv_aload_n hx hb dL_law_343 rfl (lv_at hl 5 rfl) ?_
      refine lv_iconst (v := 0) hx hb dL_law_344 (by decide) ?_
      refine kl_lald C0 hC hw dL_law_345 ?_
      refine lv_iload hx hb dL_law_346 (lv_at hl 0 rfl) ?_
      refine lv_i2l hx hb dL_law_348 rfl ?_
      refine kr_ceq (tgt := 355) C0 dL_law_349 dL_law_350 (by decide) (fun hc => ?_) (fun hc => ?_)
      · have hq := hq.1 hc
        refine lv_goto (tgt := 1961) hx hb dL_law_355 (by decide) ?_
        exact W.widen (k := cells + 2) (n := slots + 12) (by omega) (by omega) (kx σ6 o3 H locs hq hw ls (lv_sub hl [2, 3, 4, 5, 6] rfl))
      · have hq := hq.2 hc
        refine lv_iconst (v := 0) hx hb dL_law_353 (by decide) ?_
        exact hq.elim
  · have hq := hq.2 hc
    refine lv_iconst (v := 0) hx hb dL_law_336 (by decide) ?_
    exact hq.elim
def kl_c5 (σ : ka_S) (xs : Nat → Int32) (i : Nat) (o : Int64) (K : ka_S → Int64 → Prop) : Prop := kw_L_word σ (xs (i + 1)) (xs (i + 2)) o (fun r2 σ1 o3 =>
  kw_X9_word σ1 (xs (i + 1)) (xs (i + 2)) (fun r5 σ4 =>
  kw_X9_thrown σ4 (fun r7 σ6 =>
  (r7 = r2 → (r2 = (0 : Int32) → (o3 = (r5).toInt64 → K σ6 o3) ∧
      (¬ o3 = (r5).toInt64 → False)) ∧
    (¬ r2 = (0 : Int32) → K σ6 o3)) ∧
  (¬ r7 = r2 → False))))
set_option maxHeartbeats 4000000 in
set_option maxRecDepth 100000 in
theorem kl_t5 {p : Program} {l : Launch} {e : Env} {s : State} {m : MethodId} {below : List Frame} {meth : Method} {c : Code} {b L : Nat} {xs : Nat → Int32} {Z : State → Prop} {G : ka_G} (hl0 : l.stackTraces = false) (C0 : ka_C p s m #[.ref b] meth c cL_law 7 "GlossRowsLaw" (some .boolean)) (hC : kl_C G s) (hX : va_X b L xs s s.heap) (hbl : b < s.heap.size) (hL : L ≤ 2560) {i cells slots : Nat} (hi : i + 5 ≤ L) (hcl : cells + 2 ≤ 601024) (hsl : slots + 12 ≤ 7293034) {K : ka_S → Int64 → Prop}
    (kx : ∀ (σ : ka_S) (o : Int64) (H : Heap) (locs : List Loc), K σ o → kl_W G s σ o H locs → ∀ ls : Array Slot, lv_has ls 7 [(0, .ref b), (1, .ref (ka_a G (22, 0, 0))), (2, .ref (ka_a G (25, 0, 0))), (3, .ref G.2.2.2), (4, .int (nI i))] → W p l e room_1 s m #[.ref b] below meth c H locs (cells + 2) (slots + 12) Z (F0 m 1961 ls []))
    {σ : ka_S} {o : Int64} {H : Heap} {locs : List Loc} {ls : Array Slot} (hq : kl_c5 σ xs i o K) (hw : kl_W G s σ o H locs) (hl : lv_has ls 7 [(0, .ref b), (1, .ref (ka_a G (22, 0, 0))), (2, .ref (ka_a G (25, 0, 0))), (3, .ref G.2.2.2), (4, .int (nI i))]) : W p l e room_1 s m #[.ref b] below meth c H locs cells slots Z (F0 m 358 ls []) := by
  obtain ⟨hx, hb, -, hml, hown, hts, -⟩ := id C0
  have hbA : ¬ ka_A9 G b := fun z => by have : G.2.2.1 ≤ b := z; rw [hC.2.2.2.2.1] at this; omega
  have hin1 := kl_ge (c := 1) hi hL (by decide)
  have hin2 := kl_ge (c := 2) hi hL (by decide)
  have hin3 := kl_ge (c := 3) hi hL (by decide)
  have hin4 := kl_ge (c := 4) hi hL (by decide)
  unfold kl_c5 at hq
  refine lv_aload_n hx hb dL_law_358 rfl (lv_at hl 1 rfl) ?_
  refine lv_aload_n hx hb dL_law_359 rfl (lv_at hl 0 rfl) ?_
  refine lv_iload hx hb dL_law_360 (lv_at hl 4 rfl) ?_
  refine lv_iconst (v := 1) hx hb dL_law_362 (by decide) ?_
  refine lv_iadd hx hb dL_law_363 ?_
  refine va_sld hx hb hX hbl hbA hw.2.2.1 hin1.1 dL_law_364 ?_
  rw [show (nI i + 1).toNatClampNeg = i + 1 from hin1.2]
  refine lv_aload_n hx hb dL_law_365 rfl (lv_at hl 0 rfl) ?_
  refine lv_iload hx hb dL_law_366 (lv_at hl 4 rfl) ?_
  refine lv_iconst (v := 2) hx hb dL_law_368 (by decide) ?_
  refine lv_iadd hx hb dL_law_369 ?_
  refine va_sld hx hb hX hbl hbA hw.2.2.1 hin2.1 dL_law_370 ?_
  rw [show (nI i + 2).toNatClampNeg = i + 2 from hin2.2]
  refine lv_aload_n hx hb dL_law_371 rfl (lv_at hl 3 rfl) ?_
  refine kl_Si (n := 4) (As := [.ref (ka_a G (22, 0, 0)), .int (xs (i + 1)), .int (xs (i + 2)), .ref G.2.2.2]) (rest := []) C0 hC hw hl (km_L_word l hl0 hC.1 hC.2.2.2.2.2 hq) kq_562 kq_563 kl_ini kl_L_word (by decide +kernel) ⟨rfl, rfl, Nat.le_of_ble_eq_true rfl, Nat.le_of_ble_eq_true rfl⟩ rfl (Nat.le_of_ble_eq_true rfl) dL_law_372 ⟨by show _ ≤ 601024; omega, by show _ ≤ 7293034; omega⟩ (fun r2 σ1 o3 H locs hq hw => ?_)
  refine lv_istore (lv' := [(5, .int r2), (0, .ref b), (1, .ref (ka_a G (22, 0, 0))), (2, .ref (ka_a G (25, 0, 0))), (3, .ref G.2.2.2), (4, .int (nI i))]) hx hb dL_law_375 hl (by decide) rfl (fun ls hl => ?_)
  refine lv_aload_n hx hb dL_law_377 rfl (lv_at hl 3 rfl) ?_
  refine lv_aload_n hx hb dL_law_378 rfl (lv_at hl 1 rfl) ?_
  refine lv_iload hx hb dL_law_379 (lv_at hl 5 rfl) ?_
  refine lv_iconst (v := 1) hx hb dL_law_381 (by decide) ?_
  refine lv_iadd hx hb dL_law_382 ?_
  refine va_sld hx hb hX hbl hbA hw.2.2.1 hin1.1 dL_law_383 ?_
  rw [show (nI i + 1).toNatClampNeg = i + 1 from hin1.2]
  refine lv_aload_n hx hb dL_law_384 rfl (lv_at hl 1 rfl) ?_
  refine lv_iload hx hb dL_law_385 (lv_at hl 5 rfl) ?_
  refine lv_iconst (v := 2) hx hb dL_law_387 (by decide) ?_
  refine lv_iadd hx hb dL_law_388 ?_
  refine va_sld hx hb hX hbl hbA hw.2.2.1 hin2.1 dL_law_389 ?_
  rw [show (nI i + 2).toNatClampNeg = i + 2 from hin2.2]
  refine kl_Vi (k := (25, 0, 0)) (As := [.int (xs (i + 1)), .int (xs (i + 2))]) (rest := []) C0 hC hw hl (km_X9_word l hC.1 hq) kd_X9_word kq_1134 (kv_s (by decide) (by decide)) rfl rfl rfl ⟨rfl, rfl, Nat.le_of_ble_eq_true rfl, Nat.le_of_ble_eq_true rfl⟩ rfl (Nat.le_of_ble_eq_true rfl) dL_law_390 ⟨by show _ ≤ 601024; omega, by show _ ≤ 7293034; omega⟩ (fun r5 σ4 H locs hq hw => ?_)
  refine lv_istore (lv' := [(6, .int r5), (5, .int r2), (0, .ref b), (1, .ref (ka_a G (22, 0, 0))), (2, .ref (ka_a G (25, 0, 0))), (3, .ref G.2.2.2), (4, .int (nI i))]) hx hb dL_law_393 hl (by decide) rfl (fun ls hl => ?_)
  refine lv_aload_n hx hb dL_law_395 rfl (lv_at hl 4 rfl) ?_
  refine kl_Vi (k := (25, 0, 0)) (As := []) (rest := []) C0 hC hw hl (km_X9_thrown l hC.1 hq) kd_X9_thrown kq_1022 (kv_s (by decide) (by decide)) rfl rfl rfl ⟨rfl, rfl, Nat.le_of_ble_eq_true rfl, Nat.le_of_ble_eq_true rfl⟩ rfl (Nat.le_of_ble_eq_true rfl) dL_law_396 ⟨by show _ ≤ 601024; omega, by show _ ≤ 7293034; omega⟩ (fun r7 σ6 H locs hq hw => ?_)
  refine lv_iload hx hb dL_law_399 (lv_at hl 1 rfl) ?_
  refine lv_icmp_eq (tgt := 406) hx hb dL_law_401 (by decide) (fun hc => ?_) (fun hc => ?_)
  · have hq := hq.1 hc
    refine lv_iload hx hb dL_law_406 (lv_at hl 1 rfl) ?_
    refine lv_if_ne (tgt := 423) hx hb dL_law_408 (by decide) (fun hc => ?_) (fun hc => ?_)
    · have hq := hq.2 hc
      refine lv_goto (tgt := 1961) hx hb dL_law_423 (by decide) ?_
      exact W.widen (k := cells + 2) (n := slots + 12) (by omega) (by omega) (kx σ6 o3 H locs hq hw ls (lv_sub hl [2, 3, 4, 5, 6] rfl))
    · have hq := hq.1 hc
      refine lv_aload_n hx hb dL_law_411 rfl (lv_at hl 5 rfl) ?_
      refine lv_iconst (v := 0) hx hb dL_law_412 (by decide) ?_
      refine kl_lald C0 hC hw dL_law_413 ?_
      refine lv_iload hx hb dL_law_414 (lv_at hl 0 rfl) ?_
      refine lv_i2l hx hb dL_law_416 rfl ?_
      refine kr_ceq (tgt := 423) C0 dL_law_417 dL_law_418 (by decide) (fun hc => ?_) (fun hc => ?_)
      · have hq := hq.1 hc
        refine lv_goto (tgt := 1961) hx hb dL_law_423 (by decide) ?_
        exact W.widen (k := cells + 2) (n := slots + 12) (by omega) (by omega) (kx σ6 o3 H locs hq hw ls (lv_sub hl [2, 3, 4, 5, 6] rfl))
      · have hq := hq.2 hc
        refine lv_iconst (v := 0) hx hb dL_law_421 (by decide) ?_
        exact hq.elim
  · have hq := hq.2 hc
    refine lv_iconst (v := 0) hx hb dL_law_404 (by decide) ?_
    exact hq.elim
def kl_c6 (σ : ka_S) (xs : Nat → Int32) (i : Nat) (o : Int64) (K : ka_S → Int64 → Prop) : Prop := kw_L_part σ (xs (i + 1)) (xs (i + 2)) (xs (i + 3)) o (fun r2 σ1 o3 =>
  kw_X9_part σ1 (xs (i + 1)) (xs (i + 2)) (xs (i + 3)) (fun r5 σ4 =>
  kw_X9_thrown σ4 (fun r7 σ6 =>
  (r7 = r2 → (r2 = (0 : Int32) → (o3 = (r5).toInt64 → K σ6 o3) ∧
      (¬ o3 = (r5).toInt64 → False)) ∧
    (¬ r2 = (0 : Int32) → K σ6 o3)) ∧
  (¬ r7 = r2 → False))))
set_option maxHeartbeats 4000000 in
set_option maxRecDepth 100000 in
theorem kl_t6 {p : Program} {l : Launch} {e : Env} {s : State} {m : MethodId} {below : List Frame} {meth : Method} {c : Code} {b L : Nat} {xs : Nat → Int32} {Z : State → Prop} {G : ka_G} (hl0 : l.stackTraces = false) (C0 : ka_C p s m #[.ref b] meth c cL_law 7 "GlossRowsLaw" (some .boolean)) (hC : kl_C G s) (hX : va_X b L xs s s.heap) (hbl : b < s.heap.size) (hL : L ≤ 2560) {i cells slots : Nat} (hi : i + 5 ≤ L) (hcl : cells + 2 ≤ 601024) (hsl : slots + 12 ≤ 7293034) {K : ka_S → Int64 → Prop}
    (kx : ∀ (σ : ka_S) (o : Int64) (H : Heap) (locs : List Loc), K σ o → kl_W G s σ o H locs → ∀ ls : Array Slot, lv_has ls 7 [(0, .ref b), (1, .ref (ka_a G (22, 0, 0))), (2, .ref (ka_a G (25, 0, 0))), (3, .ref G.2.2.2), (4, .int (nI i))] → W p l e room_1 s m #[.ref b] below meth c H locs (cells + 2) (slots + 12) Z (F0 m 1961 ls []))
    {σ : ka_S} {o : Int64} {H : Heap} {locs : List Loc} {ls : Array Slot} (hq : kl_c6 σ xs i o K) (hw : kl_W G s σ o H locs) (hl : lv_has ls 7 [(0, .ref b), (1, .ref (ka_a G (22, 0, 0))), (2, .ref (ka_a G (25, 0, 0))), (3, .ref G.2.2.2), (4, .int (nI i))]) : W p l e room_1 s m #[.ref b] below meth c H locs cells slots Z (F0 m 426 ls []) := by
  obtain ⟨hx, hb, -, hml, hown, hts, -⟩ := id C0
  have hbA : ¬ ka_A9 G b := fun z => by have : G.2.2.1 ≤ b := z; rw [hC.2.2.2.2.1] at this; omega
  have hin1 := kl_ge (c := 1) hi hL (by decide)
  have hin2 := kl_ge (c := 2) hi hL (by decide)
  have hin3 := kl_ge (c := 3) hi hL (by decide)
  have hin4 := kl_ge (c := 4) hi hL (by decide)
  unfold kl_c6 at hq
  refine lv_aload_n hx hb dL_law_426 rfl (lv_at hl 1 rfl) ?_
  refine lv_aload_n hx hb dL_law_427 rfl (lv_at hl 0 rfl) ?_
  refine lv_iload hx hb dL_law_428 (lv_at hl 4 rfl) ?_
  refine lv_iconst (v := 1) hx hb dL_law_430 (by decide) ?_
  refine lv_iadd hx hb dL_law_431 ?_
  refine va_sld hx hb hX hbl hbA hw.2.2.1 hin1.1 dL_law_432 ?_
  rw [show (nI i + 1).toNatClampNeg = i + 1 from hin1.2]
  refine lv_aload_n hx hb dL_law_433 rfl (lv_at hl 0 rfl) ?_
  refine lv_iload hx hb dL_law_434 (lv_at hl 4 rfl) ?_
  refine lv_iconst (v := 2) hx hb dL_law_436 (by decide) ?_
  refine lv_iadd hx hb dL_law_437 ?_
  refine va_sld hx hb hX hbl hbA hw.2.2.1 hin2.1 dL_law_438 ?_
  rw [show (nI i + 2).toNatClampNeg = i + 2 from hin2.2]
  refine lv_aload_n hx hb dL_law_439 rfl (lv_at hl 0 rfl) ?_
  refine lv_iload hx hb dL_law_440 (lv_at hl 4 rfl) ?_
  refine lv_iconst (v := 3) hx hb dL_law_442 (by decide) ?_
  refine lv_iadd hx hb dL_law_443 ?_
  refine va_sld hx hb hX hbl hbA hw.2.2.1 hin3.1 dL_law_444 ?_
  rw [show (nI i + 3).toNatClampNeg = i + 3 from hin3.2]
  refine lv_aload_n hx hb dL_law_445 rfl (lv_at hl 3 rfl) ?_
  refine kl_Si (n := 5) (As := [.ref (ka_a G (22, 0, 0)), .int (xs (i + 1)), .int (xs (i + 2)), .int (xs (i + 3)), .ref G.2.2.2]) (rest := []) C0 hC hw hl (km_L_part l hl0 hC.1 hC.2.2.2.2.2 hq) kq_597 kq_598 kl_ini kl_L_part (by decide +kernel) ⟨rfl, rfl, Nat.le_of_ble_eq_true rfl, Nat.le_of_ble_eq_true rfl⟩ rfl (Nat.le_of_ble_eq_true rfl) dL_law_446 ⟨by show _ ≤ 601024; omega, by show _ ≤ 7293034; omega⟩ (fun r2 σ1 o3 H locs hq hw => ?_)
  refine lv_istore (lv' := [(5, .int r2), (0, .ref b), (1, .ref (ka_a G (22, 0, 0))), (2, .ref (ka_a G (25, 0, 0))), (3, .ref G.2.2.2), (4, .int (nI i))]) hx hb dL_law_449 hl (by decide) rfl (fun ls hl => ?_)
  refine lv_aload_n hx hb dL_law_451 rfl (lv_at hl 3 rfl) ?_
  refine lv_aload_n hx hb dL_law_452 rfl (lv_at hl 1 rfl) ?_
  refine lv_iload hx hb dL_law_453 (lv_at hl 5 rfl) ?_
  refine lv_iconst (v := 1) hx hb dL_law_455 (by decide) ?_
  refine lv_iadd hx hb dL_law_456 ?_
  refine va_sld hx hb hX hbl hbA hw.2.2.1 hin1.1 dL_law_457 ?_
  rw [show (nI i + 1).toNatClampNeg = i + 1 from hin1.2]
  refine lv_aload_n hx hb dL_law_458 rfl (lv_at hl 1 rfl) ?_
  refine lv_iload hx hb dL_law_459 (lv_at hl 5 rfl) ?_
  refine lv_iconst (v := 2) hx hb dL_law_461 (by decide) ?_
  refine lv_iadd hx hb dL_law_462 ?_
  refine va_sld hx hb hX hbl hbA hw.2.2.1 hin2.1 dL_law_463 ?_
  rw [show (nI i + 2).toNatClampNeg = i + 2 from hin2.2]
  refine lv_aload_n hx hb dL_law_464 rfl (lv_at hl 1 rfl) ?_
  refine lv_iload hx hb dL_law_465 (lv_at hl 5 rfl) ?_
  refine lv_iconst (v := 3) hx hb dL_law_467 (by decide) ?_
  refine lv_iadd hx hb dL_law_468 ?_
  refine va_sld hx hb hX hbl hbA hw.2.2.1 hin3.1 dL_law_469 ?_
  rw [show (nI i + 3).toNatClampNeg = i + 3 from hin3.2]
  refine kl_Vi (k := (25, 0, 0)) (As := [.int (xs (i + 1)), .int (xs (i + 2)), .int (xs (i + 3))]) (rest := []) C0 hC hw hl (km_X9_part l hC.1 hq) kd_X9_part kq_1146 (kv_s (by decide) (by decide)) rfl rfl rfl ⟨rfl, rfl, Nat.le_of_ble_eq_true rfl, Nat.le_of_ble_eq_true rfl⟩ rfl (Nat.le_of_ble_eq_true rfl) dL_law_470 ⟨by show _ ≤ 601024; omega, by show _ ≤ 7293034; omega⟩ (fun r5 σ4 H locs hq hw => ?_)
  refine lv_istore (lv' := [(6, .int r5), (5, .int r2), (0, .ref b), (1, .ref (ka_a G (22, 0, 0))), (2, .ref (ka_a G (25, 0, 0))), (3, .ref G.2.2.2), (4, .int (nI i))]) hx hb dL_law_473 hl (by decide) rfl (fun ls hl => ?_)
  refine lv_aload_n hx hb dL_law_475 rfl (lv_at hl 4 rfl) ?_
  refine kl_Vi (k := (25, 0, 0)) (As := []) (rest := []) C0 hC hw hl (km_X9_thrown l hC.1 hq) kd_X9_thrown kq_1022 (kv_s (by decide) (by decide)) rfl rfl rfl ⟨rfl, rfl, Nat.le_of_ble_eq_true rfl, Nat.le_of_ble_eq_true rfl⟩ rfl (Nat.le_of_ble_eq_true rfl) dL_law_476 ⟨by show _ ≤ 601024; omega, by show _ ≤ 7293034; omega⟩ (fun r7 σ6 H locs hq hw => ?_)
  refine lv_iload hx hb dL_law_479 (lv_at hl 1 rfl) ?_
  refine lv_icmp_eq (tgt := 486) hx hb dL_law_481 (by decide) (fun hc => ?_) (fun hc => ?_)
  · have hq := hq.1 hc
    refine lv_iload hx hb dL_law_486 (lv_at hl 1 rfl) ?_
    refine lv_if_ne (tgt := 503) hx hb dL_law_488 (by decide) (fun hc => ?_) (fun hc => ?_)
    · have hq := hq.2 hc
      refine lv_goto (tgt := 1961) hx hb dL_law_503 (by decide) ?_
      exact W.widen (k := cells + 2) (n := slots + 12) (by omega) (by omega) (kx σ6 o3 H locs hq hw ls (lv_sub hl [2, 3, 4, 5, 6] rfl))
    · have hq := hq.1 hc
      refine lv_aload_n hx hb dL_law_491 rfl (lv_at hl 5 rfl) ?_
      refine lv_iconst (v := 0) hx hb dL_law_492 (by decide) ?_
      refine kl_lald C0 hC hw dL_law_493 ?_
      refine lv_iload hx hb dL_law_494 (lv_at hl 0 rfl) ?_
      refine lv_i2l hx hb dL_law_496 rfl ?_
      refine kr_ceq (tgt := 503) C0 dL_law_497 dL_law_498 (by decide) (fun hc => ?_) (fun hc => ?_)
      · have hq := hq.1 hc
        refine lv_goto (tgt := 1961) hx hb dL_law_503 (by decide) ?_
        exact W.widen (k := cells + 2) (n := slots + 12) (by omega) (by omega) (kx σ6 o3 H locs hq hw ls (lv_sub hl [2, 3, 4, 5, 6] rfl))
      · have hq := hq.2 hc
        refine lv_iconst (v := 0) hx hb dL_law_501 (by decide) ?_
        exact hq.elim
  · have hq := hq.2 hc
    refine lv_iconst (v := 0) hx hb dL_law_484 (by decide) ?_
    exact hq.elim
def kl_c7 (σ : ka_S) (xs : Nat → Int32) (i : Nat) (o : Int64) (K : ka_S → Int64 → Prop) : Prop := ((xs (i + 3)) = (0 : Int32) → kw_L_letter σ (xs (i + 1)) (xs (i + 2)) (0 : Int32) (xs (i + 4)) o (fun r2 σ1 o3 =>
    ((xs (i + 3)) = (0 : Int32) → kw_X9_letter σ1 (xs (i + 1)) (xs (i + 2)) (0 : Int32) (xs (i + 4)) (fun r5 σ4 =>
      kw_X9_thrown σ4 (fun r7 σ6 =>
      (r7 = r2 → (r2 = (0 : Int32) → (o3 = (r5).toInt64 → K σ6 o3) ∧
          (¬ o3 = (r5).toInt64 → False)) ∧
        (¬ r2 = (0 : Int32) → K σ6 o3)) ∧
      (¬ r7 = r2 → False)))) ∧
    (¬ (xs (i + 3)) = (0 : Int32) → kw_X9_letter σ1 (xs (i + 1)) (xs (i + 2)) (1 : Int32) (xs (i + 4)) (fun r9 σ8 =>
      kw_X9_thrown σ8 (fun r11 σ10 =>
      (r11 = r2 → (r2 = (0 : Int32) → (o3 = (r9).toInt64 → K σ10 o3) ∧
          (¬ o3 = (r9).toInt64 → False)) ∧
        (¬ r2 = (0 : Int32) → K σ10 o3)) ∧
      (¬ r11 = r2 → False)))))) ∧
  (¬ (xs (i + 3)) = (0 : Int32) → kw_L_letter σ (xs (i + 1)) (xs (i + 2)) (1 : Int32) (xs (i + 4)) o (fun r13 σ12 o14 =>
    ((xs (i + 3)) = (0 : Int32) → kw_X9_letter σ12 (xs (i + 1)) (xs (i + 2)) (0 : Int32) (xs (i + 4)) (fun r16 σ15 =>
      kw_X9_thrown σ15 (fun r18 σ17 =>
      (r18 = r13 → (r13 = (0 : Int32) → (o14 = (r16).toInt64 → K σ17 o14) ∧
          (¬ o14 = (r16).toInt64 → False)) ∧
        (¬ r13 = (0 : Int32) → K σ17 o14)) ∧
      (¬ r18 = r13 → False)))) ∧
    (¬ (xs (i + 3)) = (0 : Int32) → kw_X9_letter σ12 (xs (i + 1)) (xs (i + 2)) (1 : Int32) (xs (i + 4)) (fun r20 σ19 =>
      kw_X9_thrown σ19 (fun r22 σ21 =>
      (r22 = r13 → (r13 = (0 : Int32) → (o14 = (r20).toInt64 → K σ21 o14) ∧
          (¬ o14 = (r20).toInt64 → False)) ∧
        (¬ r13 = (0 : Int32) → K σ21 o14)) ∧
      (¬ r22 = r13 → False))))))
set_option maxHeartbeats 4000000 in
set_option maxRecDepth 100000 in
theorem kl_t7 {p : Program} {l : Launch} {e : Env} {s : State} {m : MethodId} {below : List Frame} {meth : Method} {c : Code} {b L : Nat} {xs : Nat → Int32} {Z : State → Prop} {G : ka_G} (hl0 : l.stackTraces = false) (C0 : ka_C p s m #[.ref b] meth c cL_law 7 "GlossRowsLaw" (some .boolean)) (hC : kl_C G s) (hX : va_X b L xs s s.heap) (hbl : b < s.heap.size) (hL : L ≤ 2560) {i cells slots : Nat} (hi : i + 5 ≤ L) (hcl : cells + 2 ≤ 601024) (hsl : slots + 12 ≤ 7293034) {K : ka_S → Int64 → Prop}
    (kx : ∀ (σ : ka_S) (o : Int64) (H : Heap) (locs : List Loc), K σ o → kl_W G s σ o H locs → ∀ ls : Array Slot, lv_has ls 7 [(0, .ref b), (1, .ref (ka_a G (22, 0, 0))), (2, .ref (ka_a G (25, 0, 0))), (3, .ref G.2.2.2), (4, .int (nI i))] → W p l e room_1 s m #[.ref b] below meth c H locs (cells + 2) (slots + 12) Z (F0 m 1961 ls []))
    {σ : ka_S} {o : Int64} {H : Heap} {locs : List Loc} {ls : Array Slot} (hq : kl_c7 σ xs i o K) (hw : kl_W G s σ o H locs) (hl : lv_has ls 7 [(0, .ref b), (1, .ref (ka_a G (22, 0, 0))), (2, .ref (ka_a G (25, 0, 0))), (3, .ref G.2.2.2), (4, .int (nI i))]) : W p l e room_1 s m #[.ref b] below meth c H locs cells slots Z (F0 m 506 ls []) := by
  obtain ⟨hx, hb, -, hml, hown, hts, -⟩ := id C0
  have hbA : ¬ ka_A9 G b := fun z => by have : G.2.2.1 ≤ b := z; rw [hC.2.2.2.2.1] at this; omega
  have hin1 := kl_ge (c := 1) hi hL (by decide)
  have hin2 := kl_ge (c := 2) hi hL (by decide)
  have hin3 := kl_ge (c := 3) hi hL (by decide)
  have hin4 := kl_ge (c := 4) hi hL (by decide)
  unfold kl_c7 at hq
  refine lv_aload_n hx hb dL_law_506 rfl (lv_at hl 1 rfl) ?_
  refine lv_aload_n hx hb dL_law_507 rfl (lv_at hl 0 rfl) ?_
  refine lv_iload hx hb dL_law_508 (lv_at hl 4 rfl) ?_
  refine lv_iconst (v := 1) hx hb dL_law_510 (by decide) ?_
  refine lv_iadd hx hb dL_law_511 ?_
  refine va_sld hx hb hX hbl hbA hw.2.2.1 hin1.1 dL_law_512 ?_
  rw [show (nI i + 1).toNatClampNeg = i + 1 from hin1.2]
  refine lv_aload_n hx hb dL_law_513 rfl (lv_at hl 0 rfl) ?_
  refine lv_iload hx hb dL_law_514 (lv_at hl 4 rfl) ?_
  refine lv_iconst (v := 2) hx hb dL_law_516 (by decide) ?_
  refine lv_iadd hx hb dL_law_517 ?_
  refine va_sld hx hb hX hbl hbA hw.2.2.1 hin2.1 dL_law_518 ?_
  rw [show (nI i + 2).toNatClampNeg = i + 2 from hin2.2]
  refine lv_aload_n hx hb dL_law_519 rfl (lv_at hl 0 rfl) ?_
  refine lv_iload hx hb dL_law_520 (lv_at hl 4 rfl) ?_
  refine lv_iconst (v := 3) hx hb dL_law_522 (by decide) ?_
  refine lv_iadd hx hb dL_law_523 ?_
  refine va_sld hx hb hX hbl hbA hw.2.2.1 hin3.1 dL_law_524 ?_
  rw [show (nI i + 3).toNatClampNeg = i + 3 from hin3.2]
  refine lv_if_eq (tgt := 532) hx hb dL_law_525 (by decide) (fun hc => ?_) (fun hc => ?_)
  · have hq := hq.1 hc
    refine lv_iconst (v := 0) hx hb dL_law_532 (by decide) ?_
    refine lv_aload_n hx hb dL_law_533 rfl (lv_at hl 0 rfl) ?_
    refine lv_iload hx hb dL_law_534 (lv_at hl 4 rfl) ?_
    refine lv_iconst (v := 4) hx hb dL_law_536 (by decide) ?_
    refine lv_iadd hx hb dL_law_537 ?_
    refine va_sld hx hb hX hbl hbA hw.2.2.1 hin4.1 dL_law_538 ?_
    rw [show (nI i + 4).toNatClampNeg = i + 4 from hin4.2]
    refine lv_aload_n hx hb dL_law_539 rfl (lv_at hl 3 rfl) ?_
    refine kl_Si (n := 6) (As := [.ref (ka_a G (22, 0, 0)), .int (xs (i + 1)), .int (xs (i + 2)), .int 0, .int (xs (i + 4)), .ref G.2.2.2]) (rest := []) C0 hC hw hl (km_L_letter l hl0 hC.1 hC.2.2.2.2.2 hq) kq_617 kq_618 kl_ini kl_L_letter (by decide +kernel) ⟨rfl, rfl, Nat.le_of_ble_eq_true rfl, Nat.le_of_ble_eq_true rfl⟩ rfl (Nat.le_of_ble_eq_true rfl) dL_law_540 ⟨by show _ ≤ 601024; omega, by show _ ≤ 7293034; omega⟩ (fun r2 σ1 o3 H locs hq hw => ?_)
    refine lv_istore (lv' := [(5, .int r2), (0, .ref b), (1, .ref (ka_a G (22, 0, 0))), (2, .ref (ka_a G (25, 0, 0))), (3, .ref G.2.2.2), (4, .int (nI i))]) hx hb dL_law_543 hl (by decide) rfl (fun ls hl => ?_)
    refine lv_aload_n hx hb dL_law_545 rfl (lv_at hl 3 rfl) ?_
    refine lv_aload_n hx hb dL_law_546 rfl (lv_at hl 1 rfl) ?_
    refine lv_iload hx hb dL_law_547 (lv_at hl 5 rfl) ?_
    refine lv_iconst (v := 1) hx hb dL_law_549 (by decide) ?_
    refine lv_iadd hx hb dL_law_550 ?_
    refine va_sld hx hb hX hbl hbA hw.2.2.1 hin1.1 dL_law_551 ?_
    rw [show (nI i + 1).toNatClampNeg = i + 1 from hin1.2]
    refine lv_aload_n hx hb dL_law_552 rfl (lv_at hl 1 rfl) ?_
    refine lv_iload hx hb dL_law_553 (lv_at hl 5 rfl) ?_
    refine lv_iconst (v := 2) hx hb dL_law_555 (by decide) ?_
    refine lv_iadd hx hb dL_law_556 ?_
    refine va_sld hx hb hX hbl hbA hw.2.2.1 hin2.1 dL_law_557 ?_
    rw [show (nI i + 2).toNatClampNeg = i + 2 from hin2.2]
    refine lv_aload_n hx hb dL_law_558 rfl (lv_at hl 1 rfl) ?_
    refine lv_iload hx hb dL_law_559 (lv_at hl 5 rfl) ?_
    refine lv_iconst (v := 3) hx hb dL_law_561 (by decide) ?_
    refine lv_iadd hx hb dL_law_562 ?_
    refine va_sld hx hb hX hbl hbA hw.2.2.1 hin3.1 dL_law_563 ?_
    rw [show (nI i + 3).toNatClampNeg = i + 3 from hin3.2]
    refine lv_if_eq (tgt := 571) hx hb dL_law_564 (by decide) (fun hc => ?_) (fun hc => ?_)
    · have hq := hq.1 hc
      refine lv_iconst (v := 0) hx hb dL_law_571 (by decide) ?_
      refine lv_aload_n hx hb dL_law_572 rfl (lv_at hl 1 rfl) ?_
      refine lv_iload hx hb dL_law_573 (lv_at hl 5 rfl) ?_
      refine lv_iconst (v := 4) hx hb dL_law_575 (by decide) ?_
      refine lv_iadd hx hb dL_law_576 ?_
      refine va_sld hx hb hX hbl hbA hw.2.2.1 hin4.1 dL_law_577 ?_
      rw [show (nI i + 4).toNatClampNeg = i + 4 from hin4.2]
      refine kl_Vi (k := (25, 0, 0)) (As := [.int (xs (i + 1)), .int (xs (i + 2)), .int 0, .int (xs (i + 4))]) (rest := []) C0 hC hw hl (km_X9_letter l hC.1 hq) kd_X9_letter kq_1161 (kv_s (by decide) (by decide)) rfl rfl rfl ⟨rfl, rfl, Nat.le_of_ble_eq_true rfl, Nat.le_of_ble_eq_true rfl⟩ rfl (Nat.le_of_ble_eq_true rfl) dL_law_578 ⟨by show _ ≤ 601024; omega, by show _ ≤ 7293034; omega⟩ (fun r5 σ4 H locs hq hw => ?_)
      refine lv_istore (lv' := [(6, .int r5), (5, .int r2), (0, .ref b), (1, .ref (ka_a G (22, 0, 0))), (2, .ref (ka_a G (25, 0, 0))), (3, .ref G.2.2.2), (4, .int (nI i))]) hx hb dL_law_581 hl (by decide) rfl (fun ls hl => ?_)
      refine lv_aload_n hx hb dL_law_583 rfl (lv_at hl 4 rfl) ?_
      refine kl_Vi (k := (25, 0, 0)) (As := []) (rest := []) C0 hC hw hl (km_X9_thrown l hC.1 hq) kd_X9_thrown kq_1022 (kv_s (by decide) (by decide)) rfl rfl rfl ⟨rfl, rfl, Nat.le_of_ble_eq_true rfl, Nat.le_of_ble_eq_true rfl⟩ rfl (Nat.le_of_ble_eq_true rfl) dL_law_584 ⟨by show _ ≤ 601024; omega, by show _ ≤ 7293034; omega⟩ (fun r7 σ6 H locs hq hw => ?_)
      refine lv_iload hx hb dL_law_587 (lv_at hl 1 rfl) ?_
      refine lv_icmp_eq (tgt := 594) hx hb dL_law_589 (by decide) (fun hc => ?_) (fun hc => ?_)
      · have hq := hq.1 hc
        refine lv_iload hx hb dL_law_594 (lv_at hl 1 rfl) ?_
        refine lv_if_ne (tgt := 611) hx hb dL_law_596 (by decide) (fun hc => ?_) (fun hc => ?_)
        · have hq := hq.2 hc
          refine lv_goto (tgt := 1961) hx hb dL_law_611 (by decide) ?_
          exact W.widen (k := cells + 2) (n := slots + 12) (by omega) (by omega) (kx σ6 o3 H locs hq hw ls (lv_sub hl [2, 3, 4, 5, 6] rfl))
        · have hq := hq.1 hc
          refine lv_aload_n hx hb dL_law_599 rfl (lv_at hl 5 rfl) ?_
          refine lv_iconst (v := 0) hx hb dL_law_600 (by decide) ?_
          refine kl_lald C0 hC hw dL_law_601 ?_
          refine lv_iload hx hb dL_law_602 (lv_at hl 0 rfl) ?_
          refine lv_i2l hx hb dL_law_604 rfl ?_
          refine kr_ceq (tgt := 611) C0 dL_law_605 dL_law_606 (by decide) (fun hc => ?_) (fun hc => ?_)
          · have hq := hq.1 hc
            refine lv_goto (tgt := 1961) hx hb dL_law_611 (by decide) ?_
            exact W.widen (k := cells + 2) (n := slots + 12) (by omega) (by omega) (kx σ6 o3 H locs hq hw ls (lv_sub hl [2, 3, 4, 5, 6] rfl))
          · have hq := hq.2 hc
            refine lv_iconst (v := 0) hx hb dL_law_609 (by decide) ?_
            exact hq.elim
      · have hq := hq.2 hc
        refine lv_iconst (v := 0) hx hb dL_law_592 (by decide) ?_
        exact hq.elim
    · have hq := hq.2 hc
      refine lv_iconst (v := 1) hx hb dL_law_567 (by decide) ?_
      refine lv_goto (tgt := 572) hx hb dL_law_568 (by decide) ?_
      refine lv_aload_n hx hb dL_law_572 rfl (lv_at hl 1 rfl) ?_
      refine lv_iload hx hb dL_law_573 (lv_at hl 5 rfl) ?_
      refine lv_iconst (v := 4) hx hb dL_law_575 (by decide) ?_
      refine lv_iadd hx hb dL_law_576 ?_
      refine va_sld hx hb hX hbl hbA hw.2.2.1 hin4.1 dL_law_577 ?_
      rw [show (nI i + 4).toNatClampNeg = i + 4 from hin4.2]
      refine kl_Vi (k := (25, 0, 0)) (As := [.int (xs (i + 1)), .int (xs (i + 2)), .int 1, .int (xs (i + 4))]) (rest := []) C0 hC hw hl (km_X9_letter l hC.1 hq) kd_X9_letter kq_1161 (kv_s (by decide) (by decide)) rfl rfl rfl ⟨rfl, rfl, Nat.le_of_ble_eq_true rfl, Nat.le_of_ble_eq_true rfl⟩ rfl (Nat.le_of_ble_eq_true rfl) dL_law_578 ⟨by show _ ≤ 601024; omega, by show _ ≤ 7293034; omega⟩ (fun r9 σ8 H locs hq hw => ?_)
      refine lv_istore (lv' := [(6, .int r9), (5, .int r2), (0, .ref b), (1, .ref (ka_a G (22, 0, 0))), (2, .ref (ka_a G (25, 0, 0))), (3, .ref G.2.2.2), (4, .int (nI i))]) hx hb dL_law_581 hl (by decide) rfl (fun ls hl => ?_)
      refine lv_aload_n hx hb dL_law_583 rfl (lv_at hl 4 rfl) ?_
      refine kl_Vi (k := (25, 0, 0)) (As := []) (rest := []) C0 hC hw hl (km_X9_thrown l hC.1 hq) kd_X9_thrown kq_1022 (kv_s (by decide) (by decide)) rfl rfl rfl ⟨rfl, rfl, Nat.le_of_ble_eq_true rfl, Nat.le_of_ble_eq_true rfl⟩ rfl (Nat.le_of_ble_eq_true rfl) dL_law_584 ⟨by show _ ≤ 601024; omega, by show _ ≤ 7293034; omega⟩ (fun r11 σ10 H locs hq hw => ?_)
      refine lv_iload hx hb dL_law_587 (lv_at hl 1 rfl) ?_
      refine lv_icmp_eq (tgt := 594) hx hb dL_law_589 (by decide) (fun hc => ?_) (fun hc => ?_)
      · have hq := hq.1 hc
        refine lv_iload hx hb dL_law_594 (lv_at hl 1 rfl) ?_
        refine lv_if_ne (tgt := 611) hx hb dL_law_596 (by decide) (fun hc => ?_) (fun hc => ?_)
        · have hq := hq.2 hc
          refine lv_goto (tgt := 1961) hx hb dL_law_611 (by decide) ?_
          exact W.widen (k := cells + 2) (n := slots + 12) (by omega) (by omega) (kx σ10 o3 H locs hq hw ls (lv_sub hl [2, 3, 4, 5, 6] rfl))
        · have hq := hq.1 hc
          refine lv_aload_n hx hb dL_law_599 rfl (lv_at hl 5 rfl) ?_
          refine lv_iconst (v := 0) hx hb dL_law_600 (by decide) ?_
          refine kl_lald C0 hC hw dL_law_601 ?_
          refine lv_iload hx hb dL_law_602 (lv_at hl 0 rfl) ?_
          refine lv_i2l hx hb dL_law_604 rfl ?_
          refine kr_ceq (tgt := 611) C0 dL_law_605 dL_law_606 (by decide) (fun hc => ?_) (fun hc => ?_)
          · have hq := hq.1 hc
            refine lv_goto (tgt := 1961) hx hb dL_law_611 (by decide) ?_
            exact W.widen (k := cells + 2) (n := slots + 12) (by omega) (by omega) (kx σ10 o3 H locs hq hw ls (lv_sub hl [2, 3, 4, 5, 6] rfl))
          · have hq := hq.2 hc
            refine lv_iconst (v := 0) hx hb dL_law_609 (by decide) ?_
            exact hq.elim
      · have hq := hq.2 hc
        refine lv_iconst (v := 0) hx hb dL_law_592 (by decide) ?_
        exact hq.elim
  · have hq := hq.2 hc
    refine lv_iconst (v := 1) hx hb dL_law_528 (by decide) ?_
    refine lv_goto (tgt := 533) hx hb dL_law_529 (by decide) ?_
    refine lv_aload_n hx hb dL_law_533 rfl (lv_at hl 0 rfl) ?_
    refine lv_iload hx hb dL_law_534 (lv_at hl 4 rfl) ?_
    refine lv_iconst (v := 4) hx hb dL_law_536 (by decide) ?_
    refine lv_iadd hx hb dL_law_537 ?_
    refine va_sld hx hb hX hbl hbA hw.2.2.1 hin4.1 dL_law_538 ?_
    rw [show (nI i + 4).toNatClampNeg = i + 4 from hin4.2]
    refine lv_aload_n hx hb dL_law_539 rfl (lv_at hl 3 rfl) ?_
    refine kl_Si (n := 6) (As := [.ref (ka_a G (22, 0, 0)), .int (xs (i + 1)), .int (xs (i + 2)), .int 1, .int (xs (i + 4)), .ref G.2.2.2]) (rest := []) C0 hC hw hl (km_L_letter l hl0 hC.1 hC.2.2.2.2.2 hq) kq_617 kq_618 kl_ini kl_L_letter (by decide +kernel) ⟨rfl, rfl, Nat.le_of_ble_eq_true rfl, Nat.le_of_ble_eq_true rfl⟩ rfl (Nat.le_of_ble_eq_true rfl) dL_law_540 ⟨by show _ ≤ 601024; omega, by show _ ≤ 7293034; omega⟩ (fun r13 σ12 o14 H locs hq hw => ?_)
    refine lv_istore (lv' := [(5, .int r13), (0, .ref b), (1, .ref (ka_a G (22, 0, 0))), (2, .ref (ka_a G (25, 0, 0))), (3, .ref G.2.2.2), (4, .int (nI i))]) hx hb dL_law_543 hl (by decide) rfl (fun ls hl => ?_)
    refine lv_aload_n hx hb dL_law_545 rfl (lv_at hl 3 rfl) ?_
    refine lv_aload_n hx hb dL_law_546 rfl (lv_at hl 1 rfl) ?_
    refine lv_iload hx hb dL_law_547 (lv_at hl 5 rfl) ?_
    refine lv_iconst (v := 1) hx hb dL_law_549 (by decide) ?_
    refine lv_iadd hx hb dL_law_550 ?_
    refine va_sld hx hb hX hbl hbA hw.2.2.1 hin1.1 dL_law_551 ?_
    rw [show (nI i + 1).toNatClampNeg = i + 1 from hin1.2]
    refine lv_aload_n hx hb dL_law_552 rfl (lv_at hl 1 rfl) ?_
    refine lv_iload hx hb dL_law_553 (lv_at hl 5 rfl) ?_
    refine lv_iconst (v := 2) hx hb dL_law_555 (by decide) ?_
    refine lv_iadd hx hb dL_law_556 ?_
    refine va_sld hx hb hX hbl hbA hw.2.2.1 hin2.1 dL_law_557 ?_
    rw [show (nI i + 2).toNatClampNeg = i + 2 from hin2.2]
    refine lv_aload_n hx hb dL_law_558 rfl (lv_at hl 1 rfl) ?_
    refine lv_iload hx hb dL_law_559 (lv_at hl 5 rfl) ?_
    refine lv_iconst (v := 3) hx hb dL_law_561 (by decide) ?_
    refine lv_iadd hx hb dL_law_562 ?_
    refine va_sld hx hb hX hbl hbA hw.2.2.1 hin3.1 dL_law_563 ?_
    rw [show (nI i + 3).toNatClampNeg = i + 3 from hin3.2]
    refine lv_if_eq (tgt := 571) hx hb dL_law_564 (by decide) (fun hc => ?_) (fun hc => ?_)
    · have hq := hq.1 hc
      refine lv_iconst (v := 0) hx hb dL_law_571 (by decide) ?_
      refine lv_aload_n hx hb dL_law_572 rfl (lv_at hl 1 rfl) ?_
      refine lv_iload hx hb dL_law_573 (lv_at hl 5 rfl) ?_
      refine lv_iconst (v := 4) hx hb dL_law_575 (by decide) ?_
      refine lv_iadd hx hb dL_law_576 ?_
      refine va_sld hx hb hX hbl hbA hw.2.2.1 hin4.1 dL_law_577 ?_
      rw [show (nI i + 4).toNatClampNeg = i + 4 from hin4.2]
      refine kl_Vi (k := (25, 0, 0)) (As := [.int (xs (i + 1)), .int (xs (i + 2)), .int 0, .int (xs (i + 4))]) (rest := []) C0 hC hw hl (km_X9_letter l hC.1 hq) kd_X9_letter kq_1161 (kv_s (by decide) (by decide)) rfl rfl rfl ⟨rfl, rfl, Nat.le_of_ble_eq_true rfl, Nat.le_of_ble_eq_true rfl⟩ rfl (Nat.le_of_ble_eq_true rfl) dL_law_578 ⟨by show _ ≤ 601024; omega, by show _ ≤ 7293034; omega⟩ (fun r16 σ15 H locs hq hw => ?_)
      refine lv_istore (lv' := [(6, .int r16), (5, .int r13), (0, .ref b), (1, .ref (ka_a G (22, 0, 0))), (2, .ref (ka_a G (25, 0, 0))), (3, .ref G.2.2.2), (4, .int (nI i))]) hx hb dL_law_581 hl (by decide) rfl (fun ls hl => ?_)
      refine lv_aload_n hx hb dL_law_583 rfl (lv_at hl 4 rfl) ?_
      refine kl_Vi (k := (25, 0, 0)) (As := []) (rest := []) C0 hC hw hl (km_X9_thrown l hC.1 hq) kd_X9_thrown kq_1022 (kv_s (by decide) (by decide)) rfl rfl rfl ⟨rfl, rfl, Nat.le_of_ble_eq_true rfl, Nat.le_of_ble_eq_true rfl⟩ rfl (Nat.le_of_ble_eq_true rfl) dL_law_584 ⟨by show _ ≤ 601024; omega, by show _ ≤ 7293034; omega⟩ (fun r18 σ17 H locs hq hw => ?_)
      refine lv_iload hx hb dL_law_587 (lv_at hl 1 rfl) ?_
      refine lv_icmp_eq (tgt := 594) hx hb dL_law_589 (by decide) (fun hc => ?_) (fun hc => ?_)
      · have hq := hq.1 hc
        refine lv_iload hx hb dL_law_594 (lv_at hl 1 rfl) ?_
        refine lv_if_ne (tgt := 611) hx hb dL_law_596 (by decide) (fun hc => ?_) (fun hc => ?_)
        · have hq := hq.2 hc
          refine lv_goto (tgt := 1961) hx hb dL_law_611 (by decide) ?_
          exact W.widen (k := cells + 2) (n := slots + 12) (by omega) (by omega) (kx σ17 o14 H locs hq hw ls (lv_sub hl [2, 3, 4, 5, 6] rfl))
        · have hq := hq.1 hc
          refine lv_aload_n hx hb dL_law_599 rfl (lv_at hl 5 rfl) ?_
          refine lv_iconst (v := 0) hx hb dL_law_600 (by decide) ?_
          refine kl_lald C0 hC hw dL_law_601 ?_
          refine lv_iload hx hb dL_law_602 (lv_at hl 0 rfl) ?_
          refine lv_i2l hx hb dL_law_604 rfl ?_
          refine kr_ceq (tgt := 611) C0 dL_law_605 dL_law_606 (by decide) (fun hc => ?_) (fun hc => ?_)
          · have hq := hq.1 hc
            refine lv_goto (tgt := 1961) hx hb dL_law_611 (by decide) ?_
            exact W.widen (k := cells + 2) (n := slots + 12) (by omega) (by omega) (kx σ17 o14 H locs hq hw ls (lv_sub hl [2, 3, 4, 5, 6] rfl))
          · have hq := hq.2 hc
            refine lv_iconst (v := 0) hx hb dL_law_609 (by decide) ?_
            exact hq.elim
      · have hq := hq.2 hc
        refine lv_iconst (v := 0) hx hb dL_law_592 (by decide) ?_
        exact hq.elim
    · have hq := hq.2 hc
      refine lv_iconst (v := 1) hx hb dL_law_567 (by decide) ?_
      refine lv_goto (tgt := 572) hx hb dL_law_568 (by decide) ?_
      refine lv_aload_n hx hb dL_law_572 rfl (lv_at hl 1 rfl) ?_
      refine lv_iload hx hb dL_law_573 (lv_at hl 5 rfl) ?_
      refine lv_iconst (v := 4) hx hb dL_law_575 (by decide) ?_
      refine lv_iadd hx hb dL_law_576 ?_
      refine va_sld hx hb hX hbl hbA hw.2.2.1 hin4.1 dL_law_577 ?_
      rw [show (nI i + 4).toNatClampNeg = i + 4 from hin4.2]
      refine kl_Vi (k := (25, 0, 0)) (As := [.int (xs (i + 1)), .int (xs (i + 2)), .int 1, .int (xs (i + 4))]) (rest := []) C0 hC hw hl (km_X9_letter l hC.1 hq) kd_X9_letter kq_1161 (kv_s (by decide) (by decide)) rfl rfl rfl ⟨rfl, rfl, Nat.le_of_ble_eq_true rfl, Nat.le_of_ble_eq_true rfl⟩ rfl (Nat.le_of_ble_eq_true rfl) dL_law_578 ⟨by show _ ≤ 601024; omega, by show _ ≤ 7293034; omega⟩ (fun r20 σ19 H locs hq hw => ?_)
      refine lv_istore (lv' := [(6, .int r20), (5, .int r13), (0, .ref b), (1, .ref (ka_a G (22, 0, 0))), (2, .ref (ka_a G (25, 0, 0))), (3, .ref G.2.2.2), (4, .int (nI i))]) hx hb dL_law_581 hl (by decide) rfl (fun ls hl => ?_)
      refine lv_aload_n hx hb dL_law_583 rfl (lv_at hl 4 rfl) ?_
      refine kl_Vi (k := (25, 0, 0)) (As := []) (rest := []) C0 hC hw hl (km_X9_thrown l hC.1 hq) kd_X9_thrown kq_1022 (kv_s (by decide) (by decide)) rfl rfl rfl ⟨rfl, rfl, Nat.le_of_ble_eq_true rfl, Nat.le_of_ble_eq_true rfl⟩ rfl (Nat.le_of_ble_eq_true rfl) dL_law_584 ⟨by show _ ≤ 601024; omega, by show _ ≤ 7293034; omega⟩ (fun r22 σ21 H locs hq hw => ?_)
      refine lv_iload hx hb dL_law_587 (lv_at hl 1 rfl) ?_
      refine lv_icmp_eq (tgt := 594) hx hb dL_law_589 (by decide) (fun hc => ?_) (fun hc => ?_)
      · have hq := hq.1 hc
        refine lv_iload hx hb dL_law_594 (lv_at hl 1 rfl) ?_
        refine lv_if_ne (tgt := 611) hx hb dL_law_596 (by decide) (fun hc => ?_) (fun hc => ?_)
        · have hq := hq.2 hc
          refine lv_goto (tgt := 1961) hx hb dL_law_611 (by decide) ?_
          exact W.widen (k := cells + 2) (n := slots + 12) (by omega) (by omega) (kx σ21 o14 H locs hq hw ls (lv_sub hl [2, 3, 4, 5, 6] rfl))
        · have hq := hq.1 hc
          refine lv_aload_n hx hb dL_law_599 rfl (lv_at hl 5 rfl) ?_
          refine lv_iconst (v := 0) hx hb dL_law_600 (by decide) ?_
          refine kl_lald C0 hC hw dL_law_601 ?_
          refine lv_iload hx hb dL_law_602 (lv_at hl 0 rfl) ?_
          refine lv_i2l hx hb dL_law_604 rfl ?_
          refine kr_ceq (tgt := 611) C0 dL_law_605 dL_law_606 (by decide) (fun hc => ?_) (fun hc => ?_)
          · have hq := hq.1 hc
            refine lv_goto (tgt := 1961) hx hb dL_law_611 (by decide) ?_
            exact W.widen (k := cells + 2) (n := slots + 12) (by omega) (by omega) (kx σ21 o14 H locs hq hw ls (lv_sub hl [2, 3, 4, 5, 6] rfl))
          · have hq := hq.2 hc
            refine lv_iconst (v := 0) hx hb dL_law_609 (by decide) ?_
            exact hq.elim
      · have hq := hq.2 hc
        refine lv_iconst (v := 0) hx hb dL_law_592 (by decide) ?_
        exact hq.elim
def kl_c8 (σ : ka_S) (xs : Nat → Int32) (i : Nat) (o : Int64) (K : ka_S → Int64 → Prop) : Prop := ((xs (i + 2)) = (0 : Int32) → kw_L_entry σ (xs (i + 1)) (0 : Int32) (xs (i + 3)) o (fun r2 σ1 o3 =>
    ((xs (i + 2)) = (0 : Int32) → kw_X9_entry σ1 (xs (i + 1)) (0 : Int32) (xs (i + 3)) (fun r5 σ4 =>
      kw_X9_thrown σ4 (fun r7 σ6 =>
      (r7 = r2 → (r2 = (0 : Int32) → (o3 = (r5).toInt64 → K σ6 o3) ∧
          (¬ o3 = (r5).toInt64 → False)) ∧
        (¬ r2 = (0 : Int32) → K σ6 o3)) ∧
      (¬ r7 = r2 → False)))) ∧
    (¬ (xs (i + 2)) = (0 : Int32) → kw_X9_entry σ1 (xs (i + 1)) (1 : Int32) (xs (i + 3)) (fun r9 σ8 =>
      kw_X9_thrown σ8 (fun r11 σ10 =>
      (r11 = r2 → (r2 = (0 : Int32) → (o3 = (r9).toInt64 → K σ10 o3) ∧
          (¬ o3 = (r9).toInt64 → False)) ∧
        (¬ r2 = (0 : Int32) → K σ10 o3)) ∧
      (¬ r11 = r2 → False)))))) ∧
  (¬ (xs (i + 2)) = (0 : Int32) → kw_L_entry σ (xs (i + 1)) (1 : Int32) (xs (i + 3)) o (fun r13 σ12 o14 =>
    ((xs (i + 2)) = (0 : Int32) → kw_X9_entry σ12 (xs (i + 1)) (0 : Int32) (xs (i + 3)) (fun r16 σ15 =>
      kw_X9_thrown σ15 (fun r18 σ17 =>
      (r18 = r13 → (r13 = (0 : Int32) → (o14 = (r16).toInt64 → K σ17 o14) ∧
          (¬ o14 = (r16).toInt64 → False)) ∧
        (¬ r13 = (0 : Int32) → K σ17 o14)) ∧
      (¬ r18 = r13 → False)))) ∧
    (¬ (xs (i + 2)) = (0 : Int32) → kw_X9_entry σ12 (xs (i + 1)) (1 : Int32) (xs (i + 3)) (fun r20 σ19 =>
      kw_X9_thrown σ19 (fun r22 σ21 =>
      (r22 = r13 → (r13 = (0 : Int32) → (o14 = (r20).toInt64 → K σ21 o14) ∧
          (¬ o14 = (r20).toInt64 → False)) ∧
        (¬ r13 = (0 : Int32) → K σ21 o14)) ∧
      (¬ r22 = r13 → False))))))
set_option maxHeartbeats 4000000 in
set_option maxRecDepth 100000 in
theorem kl_t8 {p : Program} {l : Launch} {e : Env} {s : State} {m : MethodId} {below : List Frame} {meth : Method} {c : Code} {b L : Nat} {xs : Nat → Int32} {Z : State → Prop} {G : ka_G} (hl0 : l.stackTraces = false) (C0 : ka_C p s m #[.ref b] meth c cL_law 7 "GlossRowsLaw" (some .boolean)) (hC : kl_C G s) (hX : va_X b L xs s s.heap) (hbl : b < s.heap.size) (hL : L ≤ 2560) {i cells slots : Nat} (hi : i + 5 ≤ L) (hcl : cells + 2 ≤ 601024) (hsl : slots + 12 ≤ 7293034) {K : ka_S → Int64 → Prop}
    (kx : ∀ (σ : ka_S) (o : Int64) (H : Heap) (locs : List Loc), K σ o → kl_W G s σ o H locs → ∀ ls : Array Slot, lv_has ls 7 [(0, .ref b), (1, .ref (ka_a G (22, 0, 0))), (2, .ref (ka_a G (25, 0, 0))), (3, .ref G.2.2.2), (4, .int (nI i))] → W p l e room_1 s m #[.ref b] below meth c H locs (cells + 2) (slots + 12) Z (F0 m 1961 ls []))
    {σ : ka_S} {o : Int64} {H : Heap} {locs : List Loc} {ls : Array Slot} (hq : kl_c8 σ xs i o K) (hw : kl_W G s σ o H locs) (hl : lv_has ls 7 [(0, .ref b), (1, .ref (ka_a G (22, 0, 0))), (2, .ref (ka_a G (25, 0, 0))), (3, .ref G.2.2.2), (4, .int (nI i))]) : W p l e room_1 s m #[.ref b] below meth c H locs cells slots Z (F0 m 614 ls []) := by
  obtain ⟨hx, hb, -, hml, hown, hts, -⟩ := id C0
  have hbA : ¬ ka_A9 G b := fun z => by have : G.2.2.1 ≤ b := z; rw [hC.2.2.2.2.1] at this; omega
  have hin1 := kl_ge (c := 1) hi hL (by decide)
  have hin2 := kl_ge (c := 2) hi hL (by decide)
  have hin3 := kl_ge (c := 3) hi hL (by decide)
  have hin4 := kl_ge (c := 4) hi hL (by decide)
  unfold kl_c8 at hq
  refine lv_aload_n hx hb dL_law_614 rfl (lv_at hl 1 rfl) ?_
  refine lv_aload_n hx hb dL_law_615 rfl (lv_at hl 0 rfl) ?_
  refine lv_iload hx hb dL_law_616 (lv_at hl 4 rfl) ?_
  refine lv_iconst (v := 1) hx hb dL_law_618 (by decide) ?_
  refine lv_iadd hx hb dL_law_619 ?_
  refine va_sld hx hb hX hbl hbA hw.2.2.1 hin1.1 dL_law_620 ?_
  rw [show (nI i + 1).toNatClampNeg = i + 1 from hin1.2]
  refine lv_aload_n hx hb dL_law_621 rfl (lv_at hl 0 rfl) ?_
  refine lv_iload hx hb dL_law_622 (lv_at hl 4 rfl) ?_
  refine lv_iconst (v := 2) hx hb dL_law_624 (by decide) ?_
  refine lv_iadd hx hb dL_law_625 ?_
  refine va_sld hx hb hX hbl hbA hw.2.2.1 hin2.1 dL_law_626 ?_
  rw [show (nI i + 2).toNatClampNeg = i + 2 from hin2.2]
  refine lv_if_eq (tgt := 634) hx hb dL_law_627 (by decide) (fun hc => ?_) (fun hc => ?_)
  · have hq := hq.1 hc
    refine lv_iconst (v := 0) hx hb dL_law_634 (by decide) ?_
    refine lv_aload_n hx hb dL_law_635 rfl (lv_at hl 0 rfl) ?_
    refine lv_iload hx hb dL_law_636 (lv_at hl 4 rfl) ?_
    refine lv_iconst (v := 3) hx hb dL_law_638 (by decide) ?_
    refine lv_iadd hx hb dL_law_639 ?_
    refine va_sld hx hb hX hbl hbA hw.2.2.1 hin3.1 dL_law_640 ?_
    rw [show (nI i + 3).toNatClampNeg = i + 3 from hin3.2]
    refine lv_aload_n hx hb dL_law_641 rfl (lv_at hl 3 rfl) ?_
    refine kl_Si (n := 5) (As := [.ref (ka_a G (22, 0, 0)), .int (xs (i + 1)), .int 0, .int (xs (i + 3)), .ref G.2.2.2]) (rest := []) C0 hC hw hl (km_L_entry l hl0 hC.1 hC.2.2.2.2.2 hq) kq_632 kq_633 kl_ini kl_L_entry (by decide +kernel) ⟨rfl, rfl, Nat.le_of_ble_eq_true rfl, Nat.le_of_ble_eq_true rfl⟩ rfl (Nat.le_of_ble_eq_true rfl) dL_law_642 ⟨by show _ ≤ 601024; omega, by show _ ≤ 7293034; omega⟩ (fun r2 σ1 o3 H locs hq hw => ?_)
    refine lv_istore (lv' := [(5, .int r2), (0, .ref b), (1, .ref (ka_a G (22, 0, 0))), (2, .ref (ka_a G (25, 0, 0))), (3, .ref G.2.2.2), (4, .int (nI i))]) hx hb dL_law_645 hl (by decide) rfl (fun ls hl => ?_)
    refine lv_aload_n hx hb dL_law_647 rfl (lv_at hl 3 rfl) ?_
    refine lv_aload_n hx hb dL_law_648 rfl (lv_at hl 1 rfl) ?_
    refine lv_iload hx hb dL_law_649 (lv_at hl 5 rfl) ?_
    refine lv_iconst (v := 1) hx hb dL_law_651 (by decide) ?_
    refine lv_iadd hx hb dL_law_652 ?_
    refine va_sld hx hb hX hbl hbA hw.2.2.1 hin1.1 dL_law_653 ?_
    rw [show (nI i + 1).toNatClampNeg = i + 1 from hin1.2]
    refine lv_aload_n hx hb dL_law_654 rfl (lv_at hl 1 rfl) ?_
    refine lv_iload hx hb dL_law_655 (lv_at hl 5 rfl) ?_
    refine lv_iconst (v := 2) hx hb dL_law_657 (by decide) ?_
    refine lv_iadd hx hb dL_law_658 ?_
    refine va_sld hx hb hX hbl hbA hw.2.2.1 hin2.1 dL_law_659 ?_
    rw [show (nI i + 2).toNatClampNeg = i + 2 from hin2.2]
    refine lv_if_eq (tgt := 667) hx hb dL_law_660 (by decide) (fun hc => ?_) (fun hc => ?_)
    · have hq := hq.1 hc
      refine lv_iconst (v := 0) hx hb dL_law_667 (by decide) ?_
      refine lv_aload_n hx hb dL_law_668 rfl (lv_at hl 1 rfl) ?_
      refine lv_iload hx hb dL_law_669 (lv_at hl 5 rfl) ?_
      refine lv_iconst (v := 3) hx hb dL_law_671 (by decide) ?_
      refine lv_iadd hx hb dL_law_672 ?_
      refine va_sld hx hb hX hbl hbA hw.2.2.1 hin3.1 dL_law_673 ?_
      rw [show (nI i + 3).toNatClampNeg = i + 3 from hin3.2]
      refine kl_Vi (k := (25, 0, 0)) (As := [.int (xs (i + 1)), .int 0, .int (xs (i + 3))]) (rest := []) C0 hC hw hl (km_X9_entry l hC.1 hq) kd_X9_entry kq_1168 (kv_s (by decide) (by decide)) rfl rfl rfl ⟨rfl, rfl, Nat.le_of_ble_eq_true rfl, Nat.le_of_ble_eq_true rfl⟩ rfl (Nat.le_of_ble_eq_true rfl) dL_law_674 ⟨by show _ ≤ 601024; omega, by show _ ≤ 7293034; omega⟩ (fun r5 σ4 H locs hq hw => ?_)
      refine lv_istore (lv' := [(6, .int r5), (5, .int r2), (0, .ref b), (1, .ref (ka_a G (22, 0, 0))), (2, .ref (ka_a G (25, 0, 0))), (3, .ref G.2.2.2), (4, .int (nI i))]) hx hb dL_law_677 hl (by decide) rfl (fun ls hl => ?_)
      refine lv_aload_n hx hb dL_law_679 rfl (lv_at hl 4 rfl) ?_
      refine kl_Vi (k := (25, 0, 0)) (As := []) (rest := []) C0 hC hw hl (km_X9_thrown l hC.1 hq) kd_X9_thrown kq_1022 (kv_s (by decide) (by decide)) rfl rfl rfl ⟨rfl, rfl, Nat.le_of_ble_eq_true rfl, Nat.le_of_ble_eq_true rfl⟩ rfl (Nat.le_of_ble_eq_true rfl) dL_law_680 ⟨by show _ ≤ 601024; omega, by show _ ≤ 7293034; omega⟩ (fun r7 σ6 H locs hq hw => ?_)
      refine lv_iload hx hb dL_law_683 (lv_at hl 1 rfl) ?_
      refine lv_icmp_eq (tgt := 690) hx hb dL_law_685 (by decide) (fun hc => ?_) (fun hc => ?_)
      · have hq := hq.1 hc
        refine lv_iload hx hb dL_law_690 (lv_at hl 1 rfl) ?_
        refine lv_if_ne (tgt := 707) hx hb dL_law_692 (by decide) (fun hc => ?_) (fun hc => ?_)
        · have hq := hq.2 hc
          refine lv_goto (tgt := 1961) hx hb dL_law_707 (by decide) ?_
          exact W.widen (k := cells + 2) (n := slots + 12) (by omega) (by omega) (kx σ6 o3 H locs hq hw ls (lv_sub hl [2, 3, 4, 5, 6] rfl))
        · have hq := hq.1 hc
          refine lv_aload_n hx hb dL_law_695 rfl (lv_at hl 5 rfl) ?_
          refine lv_iconst (v := 0) hx hb dL_law_696 (by decide) ?_
          refine kl_lald C0 hC hw dL_law_697 ?_
          refine lv_iload hx hb dL_law_698 (lv_at hl 0 rfl) ?_
          refine lv_i2l hx hb dL_law_700 rfl ?_
          refine kr_ceq (tgt := 707) C0 dL_law_701 dL_law_702 (by decide) (fun hc => ?_) (fun hc => ?_)
          · have hq := hq.1 hc
            refine lv_goto (tgt := 1961) hx hb dL_law_707 (by decide) ?_
            exact W.widen (k := cells + 2) (n := slots + 12) (by omega) (by omega) (kx σ6 o3 H locs hq hw ls (lv_sub hl [2, 3, 4, 5, 6] rfl))
          · have hq := hq.2 hc
            refine lv_iconst (v := 0) hx hb dL_law_705 (by decide) ?_
            exact hq.elim
      · have hq := hq.2 hc
        refine lv_iconst (v := 0) hx hb dL_law_688 (by decide) ?_
        exact hq.elim
    · have hq := hq.2 hc
      refine lv_iconst (v := 1) hx hb dL_law_663 (by decide) ?_
      refine lv_goto (tgt := 668) hx hb dL_law_664 (by decide) ?_
      refine lv_aload_n hx hb dL_law_668 rfl (lv_at hl 1 rfl) ?_
      refine lv_iload hx hb dL_law_669 (lv_at hl 5 rfl) ?_
      refine lv_iconst (v := 3) hx hb dL_law_671 (by decide) ?_
      refine lv_iadd hx hb dL_law_672 ?_
      refine va_sld hx hb hX hbl hbA hw.2.2.1 hin3.1 dL_law_673 ?_
      rw [show (nI i + 3).toNatClampNeg = i + 3 from hin3.2]
      refine kl_Vi (k := (25, 0, 0)) (As := [.int (xs (i + 1)), .int 1, .int (xs (i + 3))]) (rest := []) C0 hC hw hl (km_X9_entry l hC.1 hq) kd_X9_entry kq_1168 (kv_s (by decide) (by decide)) rfl rfl rfl ⟨rfl, rfl, Nat.le_of_ble_eq_true rfl, Nat.le_of_ble_eq_true rfl⟩ rfl (Nat.le_of_ble_eq_true rfl) dL_law_674 ⟨by show _ ≤ 601024; omega, by show _ ≤ 7293034; omega⟩ (fun r9 σ8 H locs hq hw => ?_)
      refine lv_istore (lv' := [(6, .int r9), (5, .int r2), (0, .ref b), (1, .ref (ka_a G (22, 0, 0))), (2, .ref (ka_a G (25, 0, 0))), (3, .ref G.2.2.2), (4, .int (nI i))]) hx hb dL_law_677 hl (by decide) rfl (fun ls hl => ?_)
      refine lv_aload_n hx hb dL_law_679 rfl (lv_at hl 4 rfl) ?_
      refine kl_Vi (k := (25, 0, 0)) (As := []) (rest := []) C0 hC hw hl (km_X9_thrown l hC.1 hq) kd_X9_thrown kq_1022 (kv_s (by decide) (by decide)) rfl rfl rfl ⟨rfl, rfl, Nat.le_of_ble_eq_true rfl, Nat.le_of_ble_eq_true rfl⟩ rfl (Nat.le_of_ble_eq_true rfl) dL_law_680 ⟨by show _ ≤ 601024; omega, by show _ ≤ 7293034; omega⟩ (fun r11 σ10 H locs hq hw => ?_)
      refine lv_iload hx hb dL_law_683 (lv_at hl 1 rfl) ?_
      refine lv_icmp_eq (tgt := 690) hx hb dL_law_685 (by decide) (fun hc => ?_) (fun hc => ?_)
      · have hq := hq.1 hc
        refine lv_iload hx hb dL_law_690 (lv_at hl 1 rfl) ?_
        refine lv_if_ne (tgt := 707) hx hb dL_law_692 (by decide) (fun hc => ?_) (fun hc => ?_)
        · have hq := hq.2 hc
          refine lv_goto (tgt := 1961) hx hb dL_law_707 (by decide) ?_
          exact W.widen (k := cells + 2) (n := slots + 12) (by omega) (by omega) (kx σ10 o3 H locs hq hw ls (lv_sub hl [2, 3, 4, 5, 6] rfl))
        · have hq := hq.1 hc
          refine lv_aload_n hx hb dL_law_695 rfl (lv_at hl 5 rfl) ?_
          refine lv_iconst (v := 0) hx hb dL_law_696 (by decide) ?_
          refine kl_lald C0 hC hw dL_law_697 ?_
          refine lv_iload hx hb dL_law_698 (lv_at hl 0 rfl) ?_
          refine lv_i2l hx hb dL_law_700 rfl ?_
          refine kr_ceq (tgt := 707) C0 dL_law_701 dL_law_702 (by decide) (fun hc => ?_) (fun hc => ?_)
          · have hq := hq.1 hc
            refine lv_goto (tgt := 1961) hx hb dL_law_707 (by decide) ?_
            exact W.widen (k := cells + 2) (n := slots + 12) (by omega) (by omega) (kx σ10 o3 H locs hq hw ls (lv_sub hl [2, 3, 4, 5, 6] rfl))
          · have hq := hq.2 hc
            refine lv_iconst (v := 0) hx hb dL_law_705 (by decide) ?_
            exact hq.elim
      · have hq := hq.2 hc
        refine lv_iconst (v := 0) hx hb dL_law_688 (by decide) ?_
        exact hq.elim
  · have hq := hq.2 hc
    refine lv_iconst (v := 1) hx hb dL_law_630 (by decide) ?_
    refine lv_goto (tgt := 635) hx hb dL_law_631 (by decide) ?_
    refine lv_aload_n hx hb dL_law_635 rfl (lv_at hl 0 rfl) ?_
    refine lv_iload hx hb dL_law_636 (lv_at hl 4 rfl) ?_
    refine lv_iconst (v := 3) hx hb dL_law_638 (by decide) ?_
    refine lv_iadd hx hb dL_law_639 ?_
    refine va_sld hx hb hX hbl hbA hw.2.2.1 hin3.1 dL_law_640 ?_
    rw [show (nI i + 3).toNatClampNeg = i + 3 from hin3.2]
    refine lv_aload_n hx hb dL_law_641 rfl (lv_at hl 3 rfl) ?_
    refine kl_Si (n := 5) (As := [.ref (ka_a G (22, 0, 0)), .int (xs (i + 1)), .int 1, .int (xs (i + 3)), .ref G.2.2.2]) (rest := []) C0 hC hw hl (km_L_entry l hl0 hC.1 hC.2.2.2.2.2 hq) kq_632 kq_633 kl_ini kl_L_entry (by decide +kernel) ⟨rfl, rfl, Nat.le_of_ble_eq_true rfl, Nat.le_of_ble_eq_true rfl⟩ rfl (Nat.le_of_ble_eq_true rfl) dL_law_642 ⟨by show _ ≤ 601024; omega, by show _ ≤ 7293034; omega⟩ (fun r13 σ12 o14 H locs hq hw => ?_)
    refine lv_istore (lv' := [(5, .int r13), (0, .ref b), (1, .ref (ka_a G (22, 0, 0))), (2, .ref (ka_a G (25, 0, 0))), (3, .ref G.2.2.2), (4, .int (nI i))]) hx hb dL_law_645 hl (by decide) rfl (fun ls hl => ?_)
    refine lv_aload_n hx hb dL_law_647 rfl (lv_at hl 3 rfl) ?_
    refine lv_aload_n hx hb dL_law_648 rfl (lv_at hl 1 rfl) ?_
    refine lv_iload hx hb dL_law_649 (lv_at hl 5 rfl) ?_
    refine lv_iconst (v := 1) hx hb dL_law_651 (by decide) ?_
    refine lv_iadd hx hb dL_law_652 ?_
    refine va_sld hx hb hX hbl hbA hw.2.2.1 hin1.1 dL_law_653 ?_
    rw [show (nI i + 1).toNatClampNeg = i + 1 from hin1.2]
    refine lv_aload_n hx hb dL_law_654 rfl (lv_at hl 1 rfl) ?_
    refine lv_iload hx hb dL_law_655 (lv_at hl 5 rfl) ?_
    refine lv_iconst (v := 2) hx hb dL_law_657 (by decide) ?_
    refine lv_iadd hx hb dL_law_658 ?_
    refine va_sld hx hb hX hbl hbA hw.2.2.1 hin2.1 dL_law_659 ?_
    rw [show (nI i + 2).toNatClampNeg = i + 2 from hin2.2]
    refine lv_if_eq (tgt := 667) hx hb dL_law_660 (by decide) (fun hc => ?_) (fun hc => ?_)
    · have hq := hq.1 hc
      refine lv_iconst (v := 0) hx hb dL_law_667 (by decide) ?_
      refine lv_aload_n hx hb dL_law_668 rfl (lv_at hl 1 rfl) ?_
      refine lv_iload hx hb dL_law_669 (lv_at hl 5 rfl) ?_
      refine lv_iconst (v := 3) hx hb dL_law_671 (by decide) ?_
      refine lv_iadd hx hb dL_law_672 ?_
      refine va_sld hx hb hX hbl hbA hw.2.2.1 hin3.1 dL_law_673 ?_
      rw [show (nI i + 3).toNatClampNeg = i + 3 from hin3.2]
      refine kl_Vi (k := (25, 0, 0)) (As := [.int (xs (i + 1)), .int 0, .int (xs (i + 3))]) (rest := []) C0 hC hw hl (km_X9_entry l hC.1 hq) kd_X9_entry kq_1168 (kv_s (by decide) (by decide)) rfl rfl rfl ⟨rfl, rfl, Nat.le_of_ble_eq_true rfl, Nat.le_of_ble_eq_true rfl⟩ rfl (Nat.le_of_ble_eq_true rfl) dL_law_674 ⟨by show _ ≤ 601024; omega, by show _ ≤ 7293034; omega⟩ (fun r16 σ15 H locs hq hw => ?_)
      refine lv_istore (lv' := [(6, .int r16), (5, .int r13), (0, .ref b), (1, .ref (ka_a G (22, 0, 0))), (2, .ref (ka_a G (25, 0, 0))), (3, .ref G.2.2.2), (4, .int (nI i))]) hx hb dL_law_677 hl (by decide) rfl (fun ls hl => ?_)
      refine lv_aload_n hx hb dL_law_679 rfl (lv_at hl 4 rfl) ?_
      refine kl_Vi (k := (25, 0, 0)) (As := []) (rest := []) C0 hC hw hl (km_X9_thrown l hC.1 hq) kd_X9_thrown kq_1022 (kv_s (by decide) (by decide)) rfl rfl rfl ⟨rfl, rfl, Nat.le_of_ble_eq_true rfl, Nat.le_of_ble_eq_true rfl⟩ rfl (Nat.le_of_ble_eq_true rfl) dL_law_680 ⟨by show _ ≤ 601024; omega, by show _ ≤ 7293034; omega⟩ (fun r18 σ17 H locs hq hw => ?_)
      refine lv_iload hx hb dL_law_683 (lv_at hl 1 rfl) ?_
      refine lv_icmp_eq (tgt := 690) hx hb dL_law_685 (by decide) (fun hc => ?_) (fun hc => ?_)
      · have hq := hq.1 hc
        refine lv_iload hx hb dL_law_690 (lv_at hl 1 rfl) ?_
        refine lv_if_ne (tgt := 707) hx hb dL_law_692 (by decide) (fun hc => ?_) (fun hc => ?_)
        · have hq := hq.2 hc
          refine lv_goto (tgt := 1961) hx hb dL_law_707 (by decide) ?_
          exact W.widen (k := cells + 2) (n := slots + 12) (by omega) (by omega) (kx σ17 o14 H locs hq hw ls (lv_sub hl [2, 3, 4, 5, 6] rfl))
        · have hq := hq.1 hc
          refine lv_aload_n hx hb dL_law_695 rfl (lv_at hl 5 rfl) ?_
          refine lv_iconst (v := 0) hx hb dL_law_696 (by decide) ?_
          refine kl_lald C0 hC hw dL_law_697 ?_
          refine lv_iload hx hb dL_law_698 (lv_at hl 0 rfl) ?_
          refine lv_i2l hx hb dL_law_700 rfl ?_
          refine kr_ceq (tgt := 707) C0 dL_law_701 dL_law_702 (by decide) (fun hc => ?_) (fun hc => ?_)
          · have hq := hq.1 hc
            refine lv_goto (tgt := 1961) hx hb dL_law_707 (by decide) ?_
            exact W.widen (k := cells + 2) (n := slots + 12) (by omega) (by omega) (kx σ17 o14 H locs hq hw ls (lv_sub hl [2, 3, 4, 5, 6] rfl))
          · have hq := hq.2 hc
            refine lv_iconst (v := 0) hx hb dL_law_705 (by decide) ?_
            exact hq.elim
      · have hq := hq.2 hc
        refine lv_iconst (v := 0) hx hb dL_law_688 (by decide) ?_
        exact hq.elim
    · have hq := hq.2 hc
      refine lv_iconst (v := 1) hx hb dL_law_663 (by decide) ?_
      refine lv_goto (tgt := 668) hx hb dL_law_664 (by decide) ?_
      refine lv_aload_n hx hb dL_law_668 rfl (lv_at hl 1 rfl) ?_
      refine lv_iload hx hb dL_law_669 (lv_at hl 5 rfl) ?_
      refine lv_iconst (v := 3) hx hb dL_law_671 (by decide) ?_
      refine lv_iadd hx hb dL_law_672 ?_
      refine va_sld hx hb hX hbl hbA hw.2.2.1 hin3.1 dL_law_673 ?_
      rw [show (nI i + 3).toNatClampNeg = i + 3 from hin3.2]
      refine kl_Vi (k := (25, 0, 0)) (As := [.int (xs (i + 1)), .int 1, .int (xs (i + 3))]) (rest := []) C0 hC hw hl (km_X9_entry l hC.1 hq) kd_X9_entry kq_1168 (kv_s (by decide) (by decide)) rfl rfl rfl ⟨rfl, rfl, Nat.le_of_ble_eq_true rfl, Nat.le_of_ble_eq_true rfl⟩ rfl (Nat.le_of_ble_eq_true rfl) dL_law_674 ⟨by show _ ≤ 601024; omega, by show _ ≤ 7293034; omega⟩ (fun r20 σ19 H locs hq hw => ?_)
      refine lv_istore (lv' := [(6, .int r20), (5, .int r13), (0, .ref b), (1, .ref (ka_a G (22, 0, 0))), (2, .ref (ka_a G (25, 0, 0))), (3, .ref G.2.2.2), (4, .int (nI i))]) hx hb dL_law_677 hl (by decide) rfl (fun ls hl => ?_)
      refine lv_aload_n hx hb dL_law_679 rfl (lv_at hl 4 rfl) ?_
      refine kl_Vi (k := (25, 0, 0)) (As := []) (rest := []) C0 hC hw hl (km_X9_thrown l hC.1 hq) kd_X9_thrown kq_1022 (kv_s (by decide) (by decide)) rfl rfl rfl ⟨rfl, rfl, Nat.le_of_ble_eq_true rfl, Nat.le_of_ble_eq_true rfl⟩ rfl (Nat.le_of_ble_eq_true rfl) dL_law_680 ⟨by show _ ≤ 601024; omega, by show _ ≤ 7293034; omega⟩ (fun r22 σ21 H locs hq hw => ?_)
      refine lv_iload hx hb dL_law_683 (lv_at hl 1 rfl) ?_
      refine lv_icmp_eq (tgt := 690) hx hb dL_law_685 (by decide) (fun hc => ?_) (fun hc => ?_)
      · have hq := hq.1 hc
        refine lv_iload hx hb dL_law_690 (lv_at hl 1 rfl) ?_
        refine lv_if_ne (tgt := 707) hx hb dL_law_692 (by decide) (fun hc => ?_) (fun hc => ?_)
        · have hq := hq.2 hc
          refine lv_goto (tgt := 1961) hx hb dL_law_707 (by decide) ?_
          exact W.widen (k := cells + 2) (n := slots + 12) (by omega) (by omega) (kx σ21 o14 H locs hq hw ls (lv_sub hl [2, 3, 4, 5, 6] rfl))
        · have hq := hq.1 hc
          refine lv_aload_n hx hb dL_law_695 rfl (lv_at hl 5 rfl) ?_
          refine lv_iconst (v := 0) hx hb dL_law_696 (by decide) ?_
          refine kl_lald C0 hC hw dL_law_697 ?_
          refine lv_iload hx hb dL_law_698 (lv_at hl 0 rfl) ?_
          refine lv_i2l hx hb dL_law_700 rfl ?_
          refine kr_ceq (tgt := 707) C0 dL_law_701 dL_law_702 (by decide) (fun hc => ?_) (fun hc => ?_)
          · have hq := hq.1 hc
            refine lv_goto (tgt := 1961) hx hb dL_law_707 (by decide) ?_
            exact W.widen (k := cells + 2) (n := slots + 12) (by omega) (by omega) (kx σ21 o14 H locs hq hw ls (lv_sub hl [2, 3, 4, 5, 6] rfl))
          · have hq := hq.2 hc
            refine lv_iconst (v := 0) hx hb dL_law_705 (by decide) ?_
            exact hq.elim
      · have hq := hq.2 hc
        refine lv_iconst (v := 0) hx hb dL_law_688 (by decide) ?_
        exact hq.elim
def kl_c9 (σ : ka_S) (xs : Nat → Int32) (i : Nat) (o : Int64) (K : ka_S → Int64 → Prop) : Prop := kw_L_row σ (xs (i + 1)) (xs (i + 2)) o (fun r2 σ1 o3 =>
  kw_X9_row σ1 (xs (i + 1)) (xs (i + 2)) (fun r5 σ4 =>
  kw_X9_thrown σ4 (fun r7 σ6 =>
  (r7 = r2 → (r2 = (0 : Int32) → (o3 = (r5).toInt64 → K σ6 o3) ∧
      (¬ o3 = (r5).toInt64 → False)) ∧
    (¬ r2 = (0 : Int32) → K σ6 o3)) ∧
  (¬ r7 = r2 → False))))
set_option maxHeartbeats 4000000 in
set_option maxRecDepth 100000 in
theorem kl_t9 {p : Program} {l : Launch} {e : Env} {s : State} {m : MethodId} {below : List Frame} {meth : Method} {c : Code} {b L : Nat} {xs : Nat → Int32} {Z : State → Prop} {G : ka_G} (hl0 : l.stackTraces = false) (C0 : ka_C p s m #[.ref b] meth c cL_law 7 "GlossRowsLaw" (some .boolean)) (hC : kl_C G s) (hX : va_X b L xs s s.heap) (hbl : b < s.heap.size) (hL : L ≤ 2560) {i cells slots : Nat} (hi : i + 5 ≤ L) (hcl : cells + 2 ≤ 601024) (hsl : slots + 12 ≤ 7293034) {K : ka_S → Int64 → Prop}
    (kx : ∀ (σ : ka_S) (o : Int64) (H : Heap) (locs : List Loc), K σ o → kl_W G s σ o H locs → ∀ ls : Array Slot, lv_has ls 7 [(0, .ref b), (1, .ref (ka_a G (22, 0, 0))), (2, .ref (ka_a G (25, 0, 0))), (3, .ref G.2.2.2), (4, .int (nI i))] → W p l e room_1 s m #[.ref b] below meth c H locs (cells + 2) (slots + 12) Z (F0 m 1961 ls []))
    {σ : ka_S} {o : Int64} {H : Heap} {locs : List Loc} {ls : Array Slot} (hq : kl_c9 σ xs i o K) (hw : kl_W G s σ o H locs) (hl : lv_has ls 7 [(0, .ref b), (1, .ref (ka_a G (22, 0, 0))), (2, .ref (ka_a G (25, 0, 0))), (3, .ref G.2.2.2), (4, .int (nI i))]) : W p l e room_1 s m #[.ref b] below meth c H locs cells slots Z (F0 m 710 ls []) := by
  obtain ⟨hx, hb, -, hml, hown, hts, -⟩ := id C0
  have hbA : ¬ ka_A9 G b := fun z => by have : G.2.2.1 ≤ b := z; rw [hC.2.2.2.2.1] at this; omega
  have hin1 := kl_ge (c := 1) hi hL (by decide)
  have hin2 := kl_ge (c := 2) hi hL (by decide)
  have hin3 := kl_ge (c := 3) hi hL (by decide)
  have hin4 := kl_ge (c := 4) hi hL (by decide)
  unfold kl_c9 at hq
  refine lv_aload_n hx hb dL_law_710 rfl (lv_at hl 1 rfl) ?_
  refine lv_aload_n hx hb dL_law_711 rfl (lv_at hl 0 rfl) ?_
  refine lv_iload hx hb dL_law_712 (lv_at hl 4 rfl) ?_
  refine lv_iconst (v := 1) hx hb dL_law_714 (by decide) ?_
  refine lv_iadd hx hb dL_law_715 ?_
  refine va_sld hx hb hX hbl hbA hw.2.2.1 hin1.1 dL_law_716 ?_
  rw [show (nI i + 1).toNatClampNeg = i + 1 from hin1.2]
  refine lv_aload_n hx hb dL_law_717 rfl (lv_at hl 0 rfl) ?_
  refine lv_iload hx hb dL_law_718 (lv_at hl 4 rfl) ?_
  refine lv_iconst (v := 2) hx hb dL_law_720 (by decide) ?_
  refine lv_iadd hx hb dL_law_721 ?_
  refine va_sld hx hb hX hbl hbA hw.2.2.1 hin2.1 dL_law_722 ?_
  rw [show (nI i + 2).toNatClampNeg = i + 2 from hin2.2]
  refine lv_aload_n hx hb dL_law_723 rfl (lv_at hl 3 rfl) ?_
  refine kl_Si (n := 4) (As := [.ref (ka_a G (22, 0, 0)), .int (xs (i + 1)), .int (xs (i + 2)), .ref G.2.2.2]) (rest := []) C0 hC hw hl (km_L_row l hl0 hC.1 hC.2.2.2.2.2 hq) kq_644 kq_645 kl_ini kl_L_row (by decide +kernel) ⟨rfl, rfl, Nat.le_of_ble_eq_true rfl, Nat.le_of_ble_eq_true rfl⟩ rfl (Nat.le_of_ble_eq_true rfl) dL_law_724 ⟨by show _ ≤ 601024; omega, by show _ ≤ 7293034; omega⟩ (fun r2 σ1 o3 H locs hq hw => ?_)
  refine lv_istore (lv' := [(5, .int r2), (0, .ref b), (1, .ref (ka_a G (22, 0, 0))), (2, .ref (ka_a G (25, 0, 0))), (3, .ref G.2.2.2), (4, .int (nI i))]) hx hb dL_law_727 hl (by decide) rfl (fun ls hl => ?_)
  refine lv_aload_n hx hb dL_law_729 rfl (lv_at hl 3 rfl) ?_
  refine lv_aload_n hx hb dL_law_730 rfl (lv_at hl 1 rfl) ?_
  refine lv_iload hx hb dL_law_731 (lv_at hl 5 rfl) ?_
  refine lv_iconst (v := 1) hx hb dL_law_733 (by decide) ?_
  refine lv_iadd hx hb dL_law_734 ?_
  refine va_sld hx hb hX hbl hbA hw.2.2.1 hin1.1 dL_law_735 ?_
  rw [show (nI i + 1).toNatClampNeg = i + 1 from hin1.2]
  refine lv_aload_n hx hb dL_law_736 rfl (lv_at hl 1 rfl) ?_
  refine lv_iload hx hb dL_law_737 (lv_at hl 5 rfl) ?_
  refine lv_iconst (v := 2) hx hb dL_law_739 (by decide) ?_
  refine lv_iadd hx hb dL_law_740 ?_
  refine va_sld hx hb hX hbl hbA hw.2.2.1 hin2.1 dL_law_741 ?_
  rw [show (nI i + 2).toNatClampNeg = i + 2 from hin2.2]
  refine kl_Vi (k := (25, 0, 0)) (As := [.int (xs (i + 1)), .int (xs (i + 2))]) (rest := []) C0 hC hw hl (km_X9_row l hC.1 hq) kd_X9_row kq_1176 (kv_s (by decide) (by decide)) rfl rfl rfl ⟨rfl, rfl, Nat.le_of_ble_eq_true rfl, Nat.le_of_ble_eq_true rfl⟩ rfl (Nat.le_of_ble_eq_true rfl) dL_law_742 ⟨by show _ ≤ 601024; omega, by show _ ≤ 7293034; omega⟩ (fun r5 σ4 H locs hq hw => ?_)
  refine lv_istore (lv' := [(6, .int r5), (5, .int r2), (0, .ref b), (1, .ref (ka_a G (22, 0, 0))), (2, .ref (ka_a G (25, 0, 0))), (3, .ref G.2.2.2), (4, .int (nI i))]) hx hb dL_law_745 hl (by decide) rfl (fun ls hl => ?_)
  refine lv_aload_n hx hb dL_law_747 rfl (lv_at hl 4 rfl) ?_
  refine kl_Vi (k := (25, 0, 0)) (As := []) (rest := []) C0 hC hw hl (km_X9_thrown l hC.1 hq) kd_X9_thrown kq_1022 (kv_s (by decide) (by decide)) rfl rfl rfl ⟨rfl, rfl, Nat.le_of_ble_eq_true rfl, Nat.le_of_ble_eq_true rfl⟩ rfl (Nat.le_of_ble_eq_true rfl) dL_law_748 ⟨by show _ ≤ 601024; omega, by show _ ≤ 7293034; omega⟩ (fun r7 σ6 H locs hq hw => ?_)
  refine lv_iload hx hb dL_law_751 (lv_at hl 1 rfl) ?_
  refine lv_icmp_eq (tgt := 758) hx hb dL_law_753 (by decide) (fun hc => ?_) (fun hc => ?_)
  · have hq := hq.1 hc
    refine lv_iload hx hb dL_law_758 (lv_at hl 1 rfl) ?_
    refine lv_if_ne (tgt := 775) hx hb dL_law_760 (by decide) (fun hc => ?_) (fun hc => ?_)
    · have hq := hq.2 hc
      refine lv_goto (tgt := 1961) hx hb dL_law_775 (by decide) ?_
      exact W.widen (k := cells + 2) (n := slots + 12) (by omega) (by omega) (kx σ6 o3 H locs hq hw ls (lv_sub hl [2, 3, 4, 5, 6] rfl))
    · have hq := hq.1 hc
      refine lv_aload_n hx hb dL_law_763 rfl (lv_at hl 5 rfl) ?_
      refine lv_iconst (v := 0) hx hb dL_law_764 (by decide) ?_
      refine kl_lald C0 hC hw dL_law_765 ?_
      refine lv_iload hx hb dL_law_766 (lv_at hl 0 rfl) ?_
      refine lv_i2l hx hb dL_law_768 rfl ?_
      refine kr_ceq (tgt := 775) C0 dL_law_769 dL_law_770 (by decide) (fun hc => ?_) (fun hc => ?_)
      · have hq := hq.1 hc
        refine lv_goto (tgt := 1961) hx hb dL_law_775 (by decide) ?_
        exact W.widen (k := cells + 2) (n := slots + 12) (by omega) (by omega) (kx σ6 o3 H locs hq hw ls (lv_sub hl [2, 3, 4, 5, 6] rfl))
      · have hq := hq.2 hc
        refine lv_iconst (v := 0) hx hb dL_law_773 (by decide) ?_
        exact hq.elim
  · have hq := hq.2 hc
    refine lv_iconst (v := 0) hx hb dL_law_756 (by decide) ?_
    exact hq.elim
def kl_c10 (σ : ka_S) (xs : Nat → Int32) (i : Nat) (o : Int64) (K : ka_S → Int64 → Prop) : Prop := kw_L_at σ (xs (i + 1)) (xs (i + 2)) o (fun r2 σ1 o3 =>
  kw_X9_at σ1 (xs (i + 1)) (xs (i + 2)) (fun r5 σ4 =>
  kw_X9_thrown σ4 (fun r7 σ6 =>
  (r7 = r2 → (r2 = (0 : Int32) → (o3 = (r5).toInt64 → K σ6 o3) ∧
      (¬ o3 = (r5).toInt64 → False)) ∧
    (¬ r2 = (0 : Int32) → K σ6 o3)) ∧
  (¬ r7 = r2 → False))))
set_option maxHeartbeats 4000000 in
set_option maxRecDepth 100000 in
theorem kl_t10 {p : Program} {l : Launch} {e : Env} {s : State} {m : MethodId} {below : List Frame} {meth : Method} {c : Code} {b L : Nat} {xs : Nat → Int32} {Z : State → Prop} {G : ka_G} (hl0 : l.stackTraces = false) (C0 : ka_C p s m #[.ref b] meth c cL_law 7 "GlossRowsLaw" (some .boolean)) (hC : kl_C G s) (hX : va_X b L xs s s.heap) (hbl : b < s.heap.size) (hL : L ≤ 2560) {i cells slots : Nat} (hi : i + 5 ≤ L) (hcl : cells + 2 ≤ 601024) (hsl : slots + 12 ≤ 7293034) {K : ka_S → Int64 → Prop}
    (kx : ∀ (σ : ka_S) (o : Int64) (H : Heap) (locs : List Loc), K σ o → kl_W G s σ o H locs → ∀ ls : Array Slot, lv_has ls 7 [(0, .ref b), (1, .ref (ka_a G (22, 0, 0))), (2, .ref (ka_a G (25, 0, 0))), (3, .ref G.2.2.2), (4, .int (nI i))] → W p l e room_1 s m #[.ref b] below meth c H locs (cells + 2) (slots + 12) Z (F0 m 1961 ls []))
    {σ : ka_S} {o : Int64} {H : Heap} {locs : List Loc} {ls : Array Slot} (hq : kl_c10 σ xs i o K) (hw : kl_W G s σ o H locs) (hl : lv_has ls 7 [(0, .ref b), (1, .ref (ka_a G (22, 0, 0))), (2, .ref (ka_a G (25, 0, 0))), (3, .ref G.2.2.2), (4, .int (nI i))]) : W p l e room_1 s m #[.ref b] below meth c H locs cells slots Z (F0 m 778 ls []) := by
  obtain ⟨hx, hb, -, hml, hown, hts, -⟩ := id C0
  have hbA : ¬ ka_A9 G b := fun z => by have : G.2.2.1 ≤ b := z; rw [hC.2.2.2.2.1] at this; omega
  have hin1 := kl_ge (c := 1) hi hL (by decide)
  have hin2 := kl_ge (c := 2) hi hL (by decide)
  have hin3 := kl_ge (c := 3) hi hL (by decide)
  have hin4 := kl_ge (c := 4) hi hL (by decide)
  unfold kl_c10 at hq
  refine lv_aload_n hx hb dL_law_778 rfl (lv_at hl 1 rfl) ?_
  refine lv_aload_n hx hb dL_law_779 rfl (lv_at hl 0 rfl) ?_
  refine lv_iload hx hb dL_law_780 (lv_at hl 4 rfl) ?_
  refine lv_iconst (v := 1) hx hb dL_law_782 (by decide) ?_
  refine lv_iadd hx hb dL_law_783 ?_
  refine va_sld hx hb hX hbl hbA hw.2.2.1 hin1.1 dL_law_784 ?_
  rw [show (nI i + 1).toNatClampNeg = i + 1 from hin1.2]
  refine lv_aload_n hx hb dL_law_785 rfl (lv_at hl 0 rfl) ?_
  refine lv_iload hx hb dL_law_786 (lv_at hl 4 rfl) ?_
  refine lv_iconst (v := 2) hx hb dL_law_788 (by decide) ?_
  refine lv_iadd hx hb dL_law_789 ?_
  refine va_sld hx hb hX hbl hbA hw.2.2.1 hin2.1 dL_law_790 ?_
  rw [show (nI i + 2).toNatClampNeg = i + 2 from hin2.2]
  refine lv_aload_n hx hb dL_law_791 rfl (lv_at hl 3 rfl) ?_
  refine kl_Si (n := 4) (As := [.ref (ka_a G (22, 0, 0)), .int (xs (i + 1)), .int (xs (i + 2)), .ref G.2.2.2]) (rest := []) C0 hC hw hl (km_L_at l hl0 hC.1 hC.2.2.2.2.2 hq) kq_681 kq_682 kl_ini kl_L_at (by decide +kernel) ⟨rfl, rfl, Nat.le_of_ble_eq_true rfl, Nat.le_of_ble_eq_true rfl⟩ rfl (Nat.le_of_ble_eq_true rfl) dL_law_792 ⟨by show _ ≤ 601024; omega, by show _ ≤ 7293034; omega⟩ (fun r2 σ1 o3 H locs hq hw => ?_)
  refine lv_istore (lv' := [(5, .int r2), (0, .ref b), (1, .ref (ka_a G (22, 0, 0))), (2, .ref (ka_a G (25, 0, 0))), (3, .ref G.2.2.2), (4, .int (nI i))]) hx hb dL_law_795 hl (by decide) rfl (fun ls hl => ?_)
  refine lv_aload_n hx hb dL_law_797 rfl (lv_at hl 3 rfl) ?_
  refine lv_aload_n hx hb dL_law_798 rfl (lv_at hl 1 rfl) ?_
  refine lv_iload hx hb dL_law_799 (lv_at hl 5 rfl) ?_
  refine lv_iconst (v := 1) hx hb dL_law_801 (by decide) ?_
  refine lv_iadd hx hb dL_law_802 ?_
  refine va_sld hx hb hX hbl hbA hw.2.2.1 hin1.1 dL_law_803 ?_
  rw [show (nI i + 1).toNatClampNeg = i + 1 from hin1.2]
  refine lv_aload_n hx hb dL_law_804 rfl (lv_at hl 1 rfl) ?_
  refine lv_iload hx hb dL_law_805 (lv_at hl 5 rfl) ?_
  refine lv_iconst (v := 2) hx hb dL_law_807 (by decide) ?_
  refine lv_iadd hx hb dL_law_808 ?_
  refine va_sld hx hb hX hbl hbA hw.2.2.1 hin2.1 dL_law_809 ?_
  rw [show (nI i + 2).toNatClampNeg = i + 2 from hin2.2]
  refine kl_Vi (k := (25, 0, 0)) (As := [.int (xs (i + 1)), .int (xs (i + 2))]) (rest := []) C0 hC hw hl (km_X9_at l hC.1 hq) kd_X9_at kq_1192 (kv_s (by decide) (by decide)) rfl rfl rfl ⟨rfl, rfl, Nat.le_of_ble_eq_true rfl, Nat.le_of_ble_eq_true rfl⟩ rfl (Nat.le_of_ble_eq_true rfl) dL_law_810 ⟨by show _ ≤ 601024; omega, by show _ ≤ 7293034; omega⟩ (fun r5 σ4 H locs hq hw => ?_)
  refine lv_istore (lv' := [(6, .int r5), (5, .int r2), (0, .ref b), (1, .ref (ka_a G (22, 0, 0))), (2, .ref (ka_a G (25, 0, 0))), (3, .ref G.2.2.2), (4, .int (nI i))]) hx hb dL_law_813 hl (by decide) rfl (fun ls hl => ?_)
  refine lv_aload_n hx hb dL_law_815 rfl (lv_at hl 4 rfl) ?_
  refine kl_Vi (k := (25, 0, 0)) (As := []) (rest := []) C0 hC hw hl (km_X9_thrown l hC.1 hq) kd_X9_thrown kq_1022 (kv_s (by decide) (by decide)) rfl rfl rfl ⟨rfl, rfl, Nat.le_of_ble_eq_true rfl, Nat.le_of_ble_eq_true rfl⟩ rfl (Nat.le_of_ble_eq_true rfl) dL_law_816 ⟨by show _ ≤ 601024; omega, by show _ ≤ 7293034; omega⟩ (fun r7 σ6 H locs hq hw => ?_)
  refine lv_iload hx hb dL_law_819 (lv_at hl 1 rfl) ?_
  refine lv_icmp_eq (tgt := 826) hx hb dL_law_821 (by decide) (fun hc => ?_) (fun hc => ?_)
  · have hq := hq.1 hc
    refine lv_iload hx hb dL_law_826 (lv_at hl 1 rfl) ?_
    refine lv_if_ne (tgt := 843) hx hb dL_law_828 (by decide) (fun hc => ?_) (fun hc => ?_)
    · have hq := hq.2 hc
      refine lv_goto (tgt := 1961) hx hb dL_law_843 (by decide) ?_
      exact W.widen (k := cells + 2) (n := slots + 12) (by omega) (by omega) (kx σ6 o3 H locs hq hw ls (lv_sub hl [2, 3, 4, 5, 6] rfl))
    · have hq := hq.1 hc
      refine lv_aload_n hx hb dL_law_831 rfl (lv_at hl 5 rfl) ?_
      refine lv_iconst (v := 0) hx hb dL_law_832 (by decide) ?_
      refine kl_lald C0 hC hw dL_law_833 ?_
      refine lv_iload hx hb dL_law_834 (lv_at hl 0 rfl) ?_
      refine lv_i2l hx hb dL_law_836 rfl ?_
      refine kr_ceq (tgt := 843) C0 dL_law_837 dL_law_838 (by decide) (fun hc => ?_) (fun hc => ?_)
      · have hq := hq.1 hc
        refine lv_goto (tgt := 1961) hx hb dL_law_843 (by decide) ?_
        exact W.widen (k := cells + 2) (n := slots + 12) (by omega) (by omega) (kx σ6 o3 H locs hq hw ls (lv_sub hl [2, 3, 4, 5, 6] rfl))
      · have hq := hq.2 hc
        refine lv_iconst (v := 0) hx hb dL_law_841 (by decide) ?_
        exact hq.elim
  · have hq := hq.2 hc
    refine lv_iconst (v := 0) hx hb dL_law_824 (by decide) ?_
    exact hq.elim
def kl_c11 (σ : ka_S) (xs : Nat → Int32) (i : Nat) (o : Int64) (K : ka_S → Int64 → Prop) : Prop := kw_L_insert σ (xs (i + 1)) o (fun r2 σ1 o3 =>
  kw_X9_insert σ1 (xs (i + 1)) (fun r5 σ4 =>
  kw_X9_thrown σ4 (fun r7 σ6 =>
  (r7 = r2 → (r2 = (0 : Int32) → (o3 = (r5).toInt64 → K σ6 o3) ∧
      (¬ o3 = (r5).toInt64 → False)) ∧
    (¬ r2 = (0 : Int32) → K σ6 o3)) ∧
  (¬ r7 = r2 → False))))
set_option maxHeartbeats 4000000 in
set_option maxRecDepth 100000 in
theorem kl_t11 {p : Program} {l : Launch} {e : Env} {s : State} {m : MethodId} {below : List Frame} {meth : Method} {c : Code} {b L : Nat} {xs : Nat → Int32} {Z : State → Prop} {G : ka_G} (hl0 : l.stackTraces = false) (C0 : ka_C p s m #[.ref b] meth c cL_law 7 "GlossRowsLaw" (some .boolean)) (hC : kl_C G s) (hX : va_X b L xs s s.heap) (hbl : b < s.heap.size) (hL : L ≤ 2560) {i cells slots : Nat} (hi : i + 5 ≤ L) (hcl : cells + 2 ≤ 601024) (hsl : slots + 12 ≤ 7293034) {K : ka_S → Int64 → Prop}
    (kx : ∀ (σ : ka_S) (o : Int64) (H : Heap) (locs : List Loc), K σ o → kl_W G s σ o H locs → ∀ ls : Array Slot, lv_has ls 7 [(0, .ref b), (1, .ref (ka_a G (22, 0, 0))), (2, .ref (ka_a G (25, 0, 0))), (3, .ref G.2.2.2), (4, .int (nI i))] → W p l e room_1 s m #[.ref b] below meth c H locs (cells + 2) (slots + 12) Z (F0 m 1961 ls []))
    {σ : ka_S} {o : Int64} {H : Heap} {locs : List Loc} {ls : Array Slot} (hq : kl_c11 σ xs i o K) (hw : kl_W G s σ o H locs) (hl : lv_has ls 7 [(0, .ref b), (1, .ref (ka_a G (22, 0, 0))), (2, .ref (ka_a G (25, 0, 0))), (3, .ref G.2.2.2), (4, .int (nI i))]) : W p l e room_1 s m #[.ref b] below meth c H locs cells slots Z (F0 m 846 ls []) := by
  obtain ⟨hx, hb, -, hml, hown, hts, -⟩ := id C0
  have hbA : ¬ ka_A9 G b := fun z => by have : G.2.2.1 ≤ b := z; rw [hC.2.2.2.2.1] at this; omega
  have hin1 := kl_ge (c := 1) hi hL (by decide)
  have hin2 := kl_ge (c := 2) hi hL (by decide)
  have hin3 := kl_ge (c := 3) hi hL (by decide)
  have hin4 := kl_ge (c := 4) hi hL (by decide)
  unfold kl_c11 at hq
  refine lv_aload_n hx hb dL_law_846 rfl (lv_at hl 1 rfl) ?_
  refine lv_aload_n hx hb dL_law_847 rfl (lv_at hl 0 rfl) ?_
  refine lv_iload hx hb dL_law_848 (lv_at hl 4 rfl) ?_
  refine lv_iconst (v := 1) hx hb dL_law_850 (by decide) ?_
  refine lv_iadd hx hb dL_law_851 ?_
  refine va_sld hx hb hX hbl hbA hw.2.2.1 hin1.1 dL_law_852 ?_
  rw [show (nI i + 1).toNatClampNeg = i + 1 from hin1.2]
  refine lv_aload_n hx hb dL_law_853 rfl (lv_at hl 3 rfl) ?_
  refine kl_Si (n := 3) (As := [.ref (ka_a G (22, 0, 0)), .int (xs (i + 1)), .ref G.2.2.2]) (rest := []) C0 hC hw hl (km_L_insert l hl0 hC.1 hC.2.2.2.2.2 hq) kq_702 kq_703 kl_ini kl_L_insert (by decide +kernel) ⟨rfl, rfl, Nat.le_of_ble_eq_true rfl, Nat.le_of_ble_eq_true rfl⟩ rfl (Nat.le_of_ble_eq_true rfl) dL_law_854 ⟨by show _ ≤ 601024; omega, by show _ ≤ 7293034; omega⟩ (fun r2 σ1 o3 H locs hq hw => ?_)
  refine lv_istore (lv' := [(5, .int r2), (0, .ref b), (1, .ref (ka_a G (22, 0, 0))), (2, .ref (ka_a G (25, 0, 0))), (3, .ref G.2.2.2), (4, .int (nI i))]) hx hb dL_law_857 hl (by decide) rfl (fun ls hl => ?_)
  refine lv_aload_n hx hb dL_law_859 rfl (lv_at hl 3 rfl) ?_
  refine lv_aload_n hx hb dL_law_860 rfl (lv_at hl 1 rfl) ?_
  refine lv_iload hx hb dL_law_861 (lv_at hl 5 rfl) ?_
  refine lv_iconst (v := 1) hx hb dL_law_863 (by decide) ?_
  refine lv_iadd hx hb dL_law_864 ?_
  refine va_sld hx hb hX hbl hbA hw.2.2.1 hin1.1 dL_law_865 ?_
  rw [show (nI i + 1).toNatClampNeg = i + 1 from hin1.2]
  refine kl_Vi (k := (25, 0, 0)) (As := [.int (xs (i + 1))]) (rest := []) C0 hC hw hl (km_X9_insert l hC.1 hq) kd_X9_insert kq_1203 (kv_s (by decide) (by decide)) rfl rfl rfl ⟨rfl, rfl, Nat.le_of_ble_eq_true rfl, Nat.le_of_ble_eq_true rfl⟩ rfl (Nat.le_of_ble_eq_true rfl) dL_law_866 ⟨by show _ ≤ 601024; omega, by show _ ≤ 7293034; omega⟩ (fun r5 σ4 H locs hq hw => ?_)
  refine lv_istore (lv' := [(6, .int r5), (5, .int r2), (0, .ref b), (1, .ref (ka_a G (22, 0, 0))), (2, .ref (ka_a G (25, 0, 0))), (3, .ref G.2.2.2), (4, .int (nI i))]) hx hb dL_law_869 hl (by decide) rfl (fun ls hl => ?_)
  refine lv_aload_n hx hb dL_law_871 rfl (lv_at hl 4 rfl) ?_
  refine kl_Vi (k := (25, 0, 0)) (As := []) (rest := []) C0 hC hw hl (km_X9_thrown l hC.1 hq) kd_X9_thrown kq_1022 (kv_s (by decide) (by decide)) rfl rfl rfl ⟨rfl, rfl, Nat.le_of_ble_eq_true rfl, Nat.le_of_ble_eq_true rfl⟩ rfl (Nat.le_of_ble_eq_true rfl) dL_law_872 ⟨by show _ ≤ 601024; omega, by show _ ≤ 7293034; omega⟩ (fun r7 σ6 H locs hq hw => ?_)
  refine lv_iload hx hb dL_law_875 (lv_at hl 1 rfl) ?_
  refine lv_icmp_eq (tgt := 882) hx hb dL_law_877 (by decide) (fun hc => ?_) (fun hc => ?_)
  · have hq := hq.1 hc
    refine lv_iload hx hb dL_law_882 (lv_at hl 1 rfl) ?_
    refine lv_if_ne (tgt := 899) hx hb dL_law_884 (by decide) (fun hc => ?_) (fun hc => ?_)
    · have hq := hq.2 hc
      refine lv_goto (tgt := 1961) hx hb dL_law_899 (by decide) ?_
      exact W.widen (k := cells + 2) (n := slots + 12) (by omega) (by omega) (kx σ6 o3 H locs hq hw ls (lv_sub hl [2, 3, 4, 5, 6] rfl))
    · have hq := hq.1 hc
      refine lv_aload_n hx hb dL_law_887 rfl (lv_at hl 5 rfl) ?_
      refine lv_iconst (v := 0) hx hb dL_law_888 (by decide) ?_
      refine kl_lald C0 hC hw dL_law_889 ?_
      refine lv_iload hx hb dL_law_890 (lv_at hl 0 rfl) ?_
      refine lv_i2l hx hb dL_law_892 rfl ?_
      refine kr_ceq (tgt := 899) C0 dL_law_893 dL_law_894 (by decide) (fun hc => ?_) (fun hc => ?_)
      · have hq := hq.1 hc
        refine lv_goto (tgt := 1961) hx hb dL_law_899 (by decide) ?_
        exact W.widen (k := cells + 2) (n := slots + 12) (by omega) (by omega) (kx σ6 o3 H locs hq hw ls (lv_sub hl [2, 3, 4, 5, 6] rfl))
      · have hq := hq.2 hc
        refine lv_iconst (v := 0) hx hb dL_law_897 (by decide) ?_
        exact hq.elim
  · have hq := hq.2 hc
    refine lv_iconst (v := 0) hx hb dL_law_880 (by decide) ?_
    exact hq.elim
def kl_c12 (σ : ka_S) (xs : Nat → Int32) (i : Nat) (o : Int64) (K : ka_S → Int64 → Prop) : Prop := kw_L_remove σ (xs (i + 1)) o (fun r2 σ1 o3 =>
  kw_X9_remove σ1 (xs (i + 1)) (fun r5 σ4 =>
  kw_X9_thrown σ4 (fun r7 σ6 =>
  (r7 = r2 → (r2 = (0 : Int32) → (o3 = (r5).toInt64 → K σ6 o3) ∧
      (¬ o3 = (r5).toInt64 → False)) ∧
    (¬ r2 = (0 : Int32) → K σ6 o3)) ∧
  (¬ r7 = r2 → False))))
set_option maxHeartbeats 4000000 in
set_option maxRecDepth 100000 in
theorem kl_t12 {p : Program} {l : Launch} {e : Env} {s : State} {m : MethodId} {below : List Frame} {meth : Method} {c : Code} {b L : Nat} {xs : Nat → Int32} {Z : State → Prop} {G : ka_G} (hl0 : l.stackTraces = false) (C0 : ka_C p s m #[.ref b] meth c cL_law 7 "GlossRowsLaw" (some .boolean)) (hC : kl_C G s) (hX : va_X b L xs s s.heap) (hbl : b < s.heap.size) (hL : L ≤ 2560) {i cells slots : Nat} (hi : i + 5 ≤ L) (hcl : cells + 2 ≤ 601024) (hsl : slots + 12 ≤ 7293034) {K : ka_S → Int64 → Prop}
    (kx : ∀ (σ : ka_S) (o : Int64) (H : Heap) (locs : List Loc), K σ o → kl_W G s σ o H locs → ∀ ls : Array Slot, lv_has ls 7 [(0, .ref b), (1, .ref (ka_a G (22, 0, 0))), (2, .ref (ka_a G (25, 0, 0))), (3, .ref G.2.2.2), (4, .int (nI i))] → W p l e room_1 s m #[.ref b] below meth c H locs (cells + 2) (slots + 12) Z (F0 m 1961 ls []))
    {σ : ka_S} {o : Int64} {H : Heap} {locs : List Loc} {ls : Array Slot} (hq : kl_c12 σ xs i o K) (hw : kl_W G s σ o H locs) (hl : lv_has ls 7 [(0, .ref b), (1, .ref (ka_a G (22, 0, 0))), (2, .ref (ka_a G (25, 0, 0))), (3, .ref G.2.2.2), (4, .int (nI i))]) : W p l e room_1 s m #[.ref b] below meth c H locs cells slots Z (F0 m 902 ls []) := by
  obtain ⟨hx, hb, -, hml, hown, hts, -⟩ := id C0
  have hbA : ¬ ka_A9 G b := fun z => by have : G.2.2.1 ≤ b := z; rw [hC.2.2.2.2.1] at this; omega
  have hin1 := kl_ge (c := 1) hi hL (by decide)
  have hin2 := kl_ge (c := 2) hi hL (by decide)
  have hin3 := kl_ge (c := 3) hi hL (by decide)
  have hin4 := kl_ge (c := 4) hi hL (by decide)
  unfold kl_c12 at hq
  refine lv_aload_n hx hb dL_law_902 rfl (lv_at hl 1 rfl) ?_
  refine lv_aload_n hx hb dL_law_903 rfl (lv_at hl 0 rfl) ?_
  refine lv_iload hx hb dL_law_904 (lv_at hl 4 rfl) ?_
  refine lv_iconst (v := 1) hx hb dL_law_906 (by decide) ?_
  refine lv_iadd hx hb dL_law_907 ?_
  refine va_sld hx hb hX hbl hbA hw.2.2.1 hin1.1 dL_law_908 ?_
  rw [show (nI i + 1).toNatClampNeg = i + 1 from hin1.2]
  refine lv_aload_n hx hb dL_law_909 rfl (lv_at hl 3 rfl) ?_
  refine kl_Si (n := 3) (As := [.ref (ka_a G (22, 0, 0)), .int (xs (i + 1)), .ref G.2.2.2]) (rest := []) C0 hC hw hl (km_L_remove l hl0 hC.1 hC.2.2.2.2.2 hq) kq_711 kq_712 kl_ini kl_L_remove (by decide +kernel) ⟨rfl, rfl, Nat.le_of_ble_eq_true rfl, Nat.le_of_ble_eq_true rfl⟩ rfl (Nat.le_of_ble_eq_true rfl) dL_law_910 ⟨by show _ ≤ 601024; omega, by show _ ≤ 7293034; omega⟩ (fun r2 σ1 o3 H locs hq hw => ?_)
  refine lv_istore (lv' := [(5, .int r2), (0, .ref b), (1, .ref (ka_a G (22, 0, 0))), (2, .ref (ka_a G (25, 0, 0))), (3, .ref G.2.2.2), (4, .int (nI i))]) hx hb dL_law_913 hl (by decide) rfl (fun ls hl => ?_)
  refine lv_aload_n hx hb dL_law_915 rfl (lv_at hl 3 rfl) ?_
  refine lv_aload_n hx hb dL_law_916 rfl (lv_at hl 1 rfl) ?_
  refine lv_iload hx hb dL_law_917 (lv_at hl 5 rfl) ?_
  refine lv_iconst (v := 1) hx hb dL_law_919 (by decide) ?_
  refine lv_iadd hx hb dL_law_920 ?_
  refine va_sld hx hb hX hbl hbA hw.2.2.1 hin1.1 dL_law_921 ?_
  rw [show (nI i + 1).toNatClampNeg = i + 1 from hin1.2]
  refine kl_Vi (k := (25, 0, 0)) (As := [.int (xs (i + 1))]) (rest := []) C0 hC hw hl (km_X9_remove l hC.1 hq) kd_X9_remove kq_1212 (kv_s (by decide) (by decide)) rfl rfl rfl ⟨rfl, rfl, Nat.le_of_ble_eq_true rfl, Nat.le_of_ble_eq_true rfl⟩ rfl (Nat.le_of_ble_eq_true rfl) dL_law_922 ⟨by show _ ≤ 601024; omega, by show _ ≤ 7293034; omega⟩ (fun r5 σ4 H locs hq hw => ?_)
  refine lv_istore (lv' := [(6, .int r5), (5, .int r2), (0, .ref b), (1, .ref (ka_a G (22, 0, 0))), (2, .ref (ka_a G (25, 0, 0))), (3, .ref G.2.2.2), (4, .int (nI i))]) hx hb dL_law_925 hl (by decide) rfl (fun ls hl => ?_)
  refine lv_aload_n hx hb dL_law_927 rfl (lv_at hl 4 rfl) ?_
  refine kl_Vi (k := (25, 0, 0)) (As := []) (rest := []) C0 hC hw hl (km_X9_thrown l hC.1 hq) kd_X9_thrown kq_1022 (kv_s (by decide) (by decide)) rfl rfl rfl ⟨rfl, rfl, Nat.le_of_ble_eq_true rfl, Nat.le_of_ble_eq_true rfl⟩ rfl (Nat.le_of_ble_eq_true rfl) dL_law_928 ⟨by show _ ≤ 601024; omega, by show _ ≤ 7293034; omega⟩ (fun r7 σ6 H locs hq hw => ?_)
  refine lv_iload hx hb dL_law_931 (lv_at hl 1 rfl) ?_
  refine lv_icmp_eq (tgt := 938) hx hb dL_law_933 (by decide) (fun hc => ?_) (fun hc => ?_)
  · have hq := hq.1 hc
    refine lv_iload hx hb dL_law_938 (lv_at hl 1 rfl) ?_
    refine lv_if_ne (tgt := 955) hx hb dL_law_940 (by decide) (fun hc => ?_) (fun hc => ?_)
    · have hq := hq.2 hc
      refine lv_goto (tgt := 1961) hx hb dL_law_955 (by decide) ?_
      exact W.widen (k := cells + 2) (n := slots + 12) (by omega) (by omega) (kx σ6 o3 H locs hq hw ls (lv_sub hl [2, 3, 4, 5, 6] rfl))
    · have hq := hq.1 hc
      refine lv_aload_n hx hb dL_law_943 rfl (lv_at hl 5 rfl) ?_
      refine lv_iconst (v := 0) hx hb dL_law_944 (by decide) ?_
      refine kl_lald C0 hC hw dL_law_945 ?_
      refine lv_iload hx hb dL_law_946 (lv_at hl 0 rfl) ?_
      refine lv_i2l hx hb dL_law_948 rfl ?_
      refine kr_ceq (tgt := 955) C0 dL_law_949 dL_law_950 (by decide) (fun hc => ?_) (fun hc => ?_)
      · have hq := hq.1 hc
        refine lv_goto (tgt := 1961) hx hb dL_law_955 (by decide) ?_
        exact W.widen (k := cells + 2) (n := slots + 12) (by omega) (by omega) (kx σ6 o3 H locs hq hw ls (lv_sub hl [2, 3, 4, 5, 6] rfl))
      · have hq := hq.2 hc
        refine lv_iconst (v := 0) hx hb dL_law_953 (by decide) ?_
        exact hq.elim
  · have hq := hq.2 hc
    refine lv_iconst (v := 0) hx hb dL_law_936 (by decide) ?_
    exact hq.elim
def kl_c13 (σ : ka_S) (xs : Nat → Int32) (i : Nat) (o : Int64) (K : ka_S → Int64 → Prop) : Prop := kw_L_end σ (xs (i + 1)) o (fun r2 σ1 o3 =>
  kw_X9_end σ1 (xs (i + 1)) (fun r5 σ4 =>
  kw_X9_thrown σ4 (fun r7 σ6 =>
  (r7 = r2 → (r2 = (0 : Int32) → (o3 = (r5).toInt64 → K σ6 o3) ∧
      (¬ o3 = (r5).toInt64 → False)) ∧
    (¬ r2 = (0 : Int32) → K σ6 o3)) ∧
  (¬ r7 = r2 → False))))
set_option maxHeartbeats 4000000 in
set_option maxRecDepth 100000 in
theorem kl_t13 {p : Program} {l : Launch} {e : Env} {s : State} {m : MethodId} {below : List Frame} {meth : Method} {c : Code} {b L : Nat} {xs : Nat → Int32} {Z : State → Prop} {G : ka_G} (hl0 : l.stackTraces = false) (C0 : ka_C p s m #[.ref b] meth c cL_law 7 "GlossRowsLaw" (some .boolean)) (hC : kl_C G s) (hX : va_X b L xs s s.heap) (hbl : b < s.heap.size) (hL : L ≤ 2560) {i cells slots : Nat} (hi : i + 5 ≤ L) (hcl : cells + 2 ≤ 601024) (hsl : slots + 12 ≤ 7293034) {K : ka_S → Int64 → Prop}
    (kx : ∀ (σ : ka_S) (o : Int64) (H : Heap) (locs : List Loc), K σ o → kl_W G s σ o H locs → ∀ ls : Array Slot, lv_has ls 7 [(0, .ref b), (1, .ref (ka_a G (22, 0, 0))), (2, .ref (ka_a G (25, 0, 0))), (3, .ref G.2.2.2), (4, .int (nI i))] → W p l e room_1 s m #[.ref b] below meth c H locs (cells + 2) (slots + 12) Z (F0 m 1961 ls []))
    {σ : ka_S} {o : Int64} {H : Heap} {locs : List Loc} {ls : Array Slot} (hq : kl_c13 σ xs i o K) (hw : kl_W G s σ o H locs) (hl : lv_has ls 7 [(0, .ref b), (1, .ref (ka_a G (22, 0, 0))), (2, .ref (ka_a G (25, 0, 0))), (3, .ref G.2.2.2), (4, .int (nI i))]) : W p l e room_1 s m #[.ref b] below meth c H locs cells slots Z (F0 m 958 ls []) := by
  obtain ⟨hx, hb, -, hml, hown, hts, -⟩ := id C0
  have hbA : ¬ ka_A9 G b := fun z => by have : G.2.2.1 ≤ b := z; rw [hC.2.2.2.2.1] at this; omega
  have hin1 := kl_ge (c := 1) hi hL (by decide)
  have hin2 := kl_ge (c := 2) hi hL (by decide)
  have hin3 := kl_ge (c := 3) hi hL (by decide)
  have hin4 := kl_ge (c := 4) hi hL (by decide)
  unfold kl_c13 at hq
  refine lv_aload_n hx hb dL_law_958 rfl (lv_at hl 1 rfl) ?_
  refine lv_aload_n hx hb dL_law_959 rfl (lv_at hl 0 rfl) ?_
  refine lv_iload hx hb dL_law_960 (lv_at hl 4 rfl) ?_
  refine lv_iconst (v := 1) hx hb dL_law_962 (by decide) ?_
  refine lv_iadd hx hb dL_law_963 ?_
  refine va_sld hx hb hX hbl hbA hw.2.2.1 hin1.1 dL_law_964 ?_
  rw [show (nI i + 1).toNatClampNeg = i + 1 from hin1.2]
  refine lv_aload_n hx hb dL_law_965 rfl (lv_at hl 3 rfl) ?_
  refine kl_Si (n := 3) (As := [.ref (ka_a G (22, 0, 0)), .int (xs (i + 1)), .ref G.2.2.2]) (rest := []) C0 hC hw hl (km_L_end l hl0 hC.1 hC.2.2.2.2.2 hq) kq_722 kq_723 kl_ini kl_L_end (by decide +kernel) ⟨rfl, rfl, Nat.le_of_ble_eq_true rfl, Nat.le_of_ble_eq_true rfl⟩ rfl (Nat.le_of_ble_eq_true rfl) dL_law_966 ⟨by show _ ≤ 601024; omega, by show _ ≤ 7293034; omega⟩ (fun r2 σ1 o3 H locs hq hw => ?_)
  refine lv_istore (lv' := [(5, .int r2), (0, .ref b), (1, .ref (ka_a G (22, 0, 0))), (2, .ref (ka_a G (25, 0, 0))), (3, .ref G.2.2.2), (4, .int (nI i))]) hx hb dL_law_969 hl (by decide) rfl (fun ls hl => ?_)
  refine lv_aload_n hx hb dL_law_971 rfl (lv_at hl 3 rfl) ?_
  refine lv_aload_n hx hb dL_law_972 rfl (lv_at hl 1 rfl) ?_
  refine lv_iload hx hb dL_law_973 (lv_at hl 5 rfl) ?_
  refine lv_iconst (v := 1) hx hb dL_law_975 (by decide) ?_
  refine lv_iadd hx hb dL_law_976 ?_
  refine va_sld hx hb hX hbl hbA hw.2.2.1 hin1.1 dL_law_977 ?_
  rw [show (nI i + 1).toNatClampNeg = i + 1 from hin1.2]
  refine kl_Vi (k := (25, 0, 0)) (As := [.int (xs (i + 1))]) (rest := []) C0 hC hw hl (km_X9_end l hC.1 hq) kd_X9_end kq_1219 (kv_s (by decide) (by decide)) rfl rfl rfl ⟨rfl, rfl, Nat.le_of_ble_eq_true rfl, Nat.le_of_ble_eq_true rfl⟩ rfl (Nat.le_of_ble_eq_true rfl) dL_law_978 ⟨by show _ ≤ 601024; omega, by show _ ≤ 7293034; omega⟩ (fun r5 σ4 H locs hq hw => ?_)
  refine lv_istore (lv' := [(6, .int r5), (5, .int r2), (0, .ref b), (1, .ref (ka_a G (22, 0, 0))), (2, .ref (ka_a G (25, 0, 0))), (3, .ref G.2.2.2), (4, .int (nI i))]) hx hb dL_law_981 hl (by decide) rfl (fun ls hl => ?_)
  refine lv_aload_n hx hb dL_law_983 rfl (lv_at hl 4 rfl) ?_
  refine kl_Vi (k := (25, 0, 0)) (As := []) (rest := []) C0 hC hw hl (km_X9_thrown l hC.1 hq) kd_X9_thrown kq_1022 (kv_s (by decide) (by decide)) rfl rfl rfl ⟨rfl, rfl, Nat.le_of_ble_eq_true rfl, Nat.le_of_ble_eq_true rfl⟩ rfl (Nat.le_of_ble_eq_true rfl) dL_law_984 ⟨by show _ ≤ 601024; omega, by show _ ≤ 7293034; omega⟩ (fun r7 σ6 H locs hq hw => ?_)
  refine lv_iload hx hb dL_law_987 (lv_at hl 1 rfl) ?_
  refine lv_icmp_eq (tgt := 994) hx hb dL_law_989 (by decide) (fun hc => ?_) (fun hc => ?_)
  · have hq := hq.1 hc
    refine lv_iload hx hb dL_law_994 (lv_at hl 1 rfl) ?_
    refine lv_if_ne (tgt := 1011) hx hb dL_law_996 (by decide) (fun hc => ?_) (fun hc => ?_)
    · have hq := hq.2 hc
      refine lv_goto (tgt := 1961) hx hb dL_law_1011 (by decide) ?_
      exact W.widen (k := cells + 2) (n := slots + 12) (by omega) (by omega) (kx σ6 o3 H locs hq hw ls (lv_sub hl [2, 3, 4, 5, 6] rfl))
    · have hq := hq.1 hc
      refine lv_aload_n hx hb dL_law_999 rfl (lv_at hl 5 rfl) ?_
      refine lv_iconst (v := 0) hx hb dL_law_1000 (by decide) ?_
      refine kl_lald C0 hC hw dL_law_1001 ?_
      refine lv_iload hx hb dL_law_1002 (lv_at hl 0 rfl) ?_
      refine lv_i2l hx hb dL_law_1004 rfl ?_
      refine kr_ceq (tgt := 1011) C0 dL_law_1005 dL_law_1006 (by decide) (fun hc => ?_) (fun hc => ?_)
      · have hq := hq.1 hc
        refine lv_goto (tgt := 1961) hx hb dL_law_1011 (by decide) ?_
        exact W.widen (k := cells + 2) (n := slots + 12) (by omega) (by omega) (kx σ6 o3 H locs hq hw ls (lv_sub hl [2, 3, 4, 5, 6] rfl))
      · have hq := hq.2 hc
        refine lv_iconst (v := 0) hx hb dL_law_1009 (by decide) ?_
        exact hq.elim
  · have hq := hq.2 hc
    refine lv_iconst (v := 0) hx hb dL_law_992 (by decide) ?_
    exact hq.elim
def kl_c14 (σ : ka_S) (xs : Nat → Int32) (i : Nat) (o : Int64) (K : ka_S → Int64 → Prop) : Prop := kw_L_join σ (xs (i + 1)) o (fun r2 σ1 o3 =>
  kw_X9_join σ1 (xs (i + 1)) (fun r5 σ4 =>
  kw_X9_thrown σ4 (fun r7 σ6 =>
  (r7 = r2 → (r2 = (0 : Int32) → (o3 = (r5).toInt64 → K σ6 o3) ∧
      (¬ o3 = (r5).toInt64 → False)) ∧
    (¬ r2 = (0 : Int32) → K σ6 o3)) ∧
  (¬ r7 = r2 → False))))
set_option maxHeartbeats 4000000 in
set_option maxRecDepth 100000 in
theorem kl_t14 {p : Program} {l : Launch} {e : Env} {s : State} {m : MethodId} {below : List Frame} {meth : Method} {c : Code} {b L : Nat} {xs : Nat → Int32} {Z : State → Prop} {G : ka_G} (hl0 : l.stackTraces = false) (C0 : ka_C p s m #[.ref b] meth c cL_law 7 "GlossRowsLaw" (some .boolean)) (hC : kl_C G s) (hX : va_X b L xs s s.heap) (hbl : b < s.heap.size) (hL : L ≤ 2560) {i cells slots : Nat} (hi : i + 5 ≤ L) (hcl : cells + 2 ≤ 601024) (hsl : slots + 12 ≤ 7293034) {K : ka_S → Int64 → Prop}
    (kx : ∀ (σ : ka_S) (o : Int64) (H : Heap) (locs : List Loc), K σ o → kl_W G s σ o H locs → ∀ ls : Array Slot, lv_has ls 7 [(0, .ref b), (1, .ref (ka_a G (22, 0, 0))), (2, .ref (ka_a G (25, 0, 0))), (3, .ref G.2.2.2), (4, .int (nI i))] → W p l e room_1 s m #[.ref b] below meth c H locs (cells + 2) (slots + 12) Z (F0 m 1961 ls []))
    {σ : ka_S} {o : Int64} {H : Heap} {locs : List Loc} {ls : Array Slot} (hq : kl_c14 σ xs i o K) (hw : kl_W G s σ o H locs) (hl : lv_has ls 7 [(0, .ref b), (1, .ref (ka_a G (22, 0, 0))), (2, .ref (ka_a G (25, 0, 0))), (3, .ref G.2.2.2), (4, .int (nI i))]) : W p l e room_1 s m #[.ref b] below meth c H locs cells slots Z (F0 m 1014 ls []) := by
  obtain ⟨hx, hb, -, hml, hown, hts, -⟩ := id C0
  have hbA : ¬ ka_A9 G b := fun z => by have : G.2.2.1 ≤ b := z; rw [hC.2.2.2.2.1] at this; omega
  have hin1 := kl_ge (c := 1) hi hL (by decide)
  have hin2 := kl_ge (c := 2) hi hL (by decide)
  have hin3 := kl_ge (c := 3) hi hL (by decide)
  have hin4 := kl_ge (c := 4) hi hL (by decide)
  unfold kl_c14 at hq
  refine lv_aload_n hx hb dL_law_1014 rfl (lv_at hl 1 rfl) ?_
  refine lv_aload_n hx hb dL_law_1015 rfl (lv_at hl 0 rfl) ?_
  refine lv_iload hx hb dL_law_1016 (lv_at hl 4 rfl) ?_
  refine lv_iconst (v := 1) hx hb dL_law_1018 (by decide) ?_
  refine lv_iadd hx hb dL_law_1019 ?_
  refine va_sld hx hb hX hbl hbA hw.2.2.1 hin1.1 dL_law_1020 ?_
  rw [show (nI i + 1).toNatClampNeg = i + 1 from hin1.2]
  refine lv_aload_n hx hb dL_law_1021 rfl (lv_at hl 3 rfl) ?_
  refine kl_Si (n := 3) (As := [.ref (ka_a G (22, 0, 0)), .int (xs (i + 1)), .ref G.2.2.2]) (rest := []) C0 hC hw hl (km_L_join l hl0 hC.1 hC.2.2.2.2.2 hq) kq_729 kq_730 kl_ini kl_L_join (by decide +kernel) ⟨rfl, rfl, Nat.le_of_ble_eq_true rfl, Nat.le_of_ble_eq_true rfl⟩ rfl (Nat.le_of_ble_eq_true rfl) dL_law_1022 ⟨by show _ ≤ 601024; omega, by show _ ≤ 7293034; omega⟩ (fun r2 σ1 o3 H locs hq hw => ?_)
  refine lv_istore (lv' := [(5, .int r2), (0, .ref b), (1, .ref (ka_a G (22, 0, 0))), (2, .ref (ka_a G (25, 0, 0))), (3, .ref G.2.2.2), (4, .int (nI i))]) hx hb dL_law_1025 hl (by decide) rfl (fun ls hl => ?_)
  refine lv_aload_n hx hb dL_law_1027 rfl (lv_at hl 3 rfl) ?_
  refine lv_aload_n hx hb dL_law_1028 rfl (lv_at hl 1 rfl) ?_
  refine lv_iload hx hb dL_law_1029 (lv_at hl 5 rfl) ?_
  refine lv_iconst (v := 1) hx hb dL_law_1031 (by decide) ?_
  refine lv_iadd hx hb dL_law_1032 ?_
  refine va_sld hx hb hX hbl hbA hw.2.2.1 hin1.1 dL_law_1033 ?_
  rw [show (nI i + 1).toNatClampNeg = i + 1 from hin1.2]
  refine kl_Vi (k := (25, 0, 0)) (As := [.int (xs (i + 1))]) (rest := []) C0 hC hw hl (km_X9_join l hC.1 hq) kd_X9_join kq_1227 (kv_s (by decide) (by decide)) rfl rfl rfl ⟨rfl, rfl, Nat.le_of_ble_eq_true rfl, Nat.le_of_ble_eq_true rfl⟩ rfl (Nat.le_of_ble_eq_true rfl) dL_law_1034 ⟨by show _ ≤ 601024; omega, by show _ ≤ 7293034; omega⟩ (fun r5 σ4 H locs hq hw => ?_)
  refine lv_istore (lv' := [(6, .int r5), (5, .int r2), (0, .ref b), (1, .ref (ka_a G (22, 0, 0))), (2, .ref (ka_a G (25, 0, 0))), (3, .ref G.2.2.2), (4, .int (nI i))]) hx hb dL_law_1037 hl (by decide) rfl (fun ls hl => ?_)
  refine lv_aload_n hx hb dL_law_1039 rfl (lv_at hl 4 rfl) ?_
  refine kl_Vi (k := (25, 0, 0)) (As := []) (rest := []) C0 hC hw hl (km_X9_thrown l hC.1 hq) kd_X9_thrown kq_1022 (kv_s (by decide) (by decide)) rfl rfl rfl ⟨rfl, rfl, Nat.le_of_ble_eq_true rfl, Nat.le_of_ble_eq_true rfl⟩ rfl (Nat.le_of_ble_eq_true rfl) dL_law_1040 ⟨by show _ ≤ 601024; omega, by show _ ≤ 7293034; omega⟩ (fun r7 σ6 H locs hq hw => ?_)
  refine lv_iload hx hb dL_law_1043 (lv_at hl 1 rfl) ?_
  refine lv_icmp_eq (tgt := 1050) hx hb dL_law_1045 (by decide) (fun hc => ?_) (fun hc => ?_)
  · have hq := hq.1 hc
    refine lv_iload hx hb dL_law_1050 (lv_at hl 1 rfl) ?_
    refine lv_if_ne (tgt := 1067) hx hb dL_law_1052 (by decide) (fun hc => ?_) (fun hc => ?_)
    · have hq := hq.2 hc
      refine lv_goto (tgt := 1961) hx hb dL_law_1067 (by decide) ?_
      exact W.widen (k := cells + 2) (n := slots + 12) (by omega) (by omega) (kx σ6 o3 H locs hq hw ls (lv_sub hl [2, 3, 4, 5, 6] rfl))
    · have hq := hq.1 hc
      refine lv_aload_n hx hb dL_law_1055 rfl (lv_at hl 5 rfl) ?_
      refine lv_iconst (v := 0) hx hb dL_law_1056 (by decide) ?_
      refine kl_lald C0 hC hw dL_law_1057 ?_
      refine lv_iload hx hb dL_law_1058 (lv_at hl 0 rfl) ?_
      refine lv_i2l hx hb dL_law_1060 rfl ?_
      refine kr_ceq (tgt := 1067) C0 dL_law_1061 dL_law_1062 (by decide) (fun hc => ?_) (fun hc => ?_)
      · have hq := hq.1 hc
        refine lv_goto (tgt := 1961) hx hb dL_law_1067 (by decide) ?_
        exact W.widen (k := cells + 2) (n := slots + 12) (by omega) (by omega) (kx σ6 o3 H locs hq hw ls (lv_sub hl [2, 3, 4, 5, 6] rfl))
      · have hq := hq.2 hc
        refine lv_iconst (v := 0) hx hb dL_law_1065 (by decide) ?_
        exact hq.elim
  · have hq := hq.2 hc
    refine lv_iconst (v := 0) hx hb dL_law_1048 (by decide) ?_
    exact hq.elim
def kl_c15 (σ : ka_S) (xs : Nat → Int32) (i : Nat) (o : Int64) (K : ka_S → Int64 → Prop) : Prop := kw_L_setFree σ (xs (i + 1)) o (fun r2 σ1 o3 =>
  kw_X9_setFree σ1 (xs (i + 1)) (fun r5 σ4 =>
  kw_X9_thrown σ4 (fun r7 σ6 =>
  (r7 = r2 → (r2 = (0 : Int32) → (o3 = (r5).toInt64 → K σ6 o3) ∧
      (¬ o3 = (r5).toInt64 → False)) ∧
    (¬ r2 = (0 : Int32) → K σ6 o3)) ∧
  (¬ r7 = r2 → False))))
set_option maxHeartbeats 4000000 in
set_option maxRecDepth 100000 in
theorem kl_t15 {p : Program} {l : Launch} {e : Env} {s : State} {m : MethodId} {below : List Frame} {meth : Method} {c : Code} {b L : Nat} {xs : Nat → Int32} {Z : State → Prop} {G : ka_G} (hl0 : l.stackTraces = false) (C0 : ka_C p s m #[.ref b] meth c cL_law 7 "GlossRowsLaw" (some .boolean)) (hC : kl_C G s) (hX : va_X b L xs s s.heap) (hbl : b < s.heap.size) (hL : L ≤ 2560) {i cells slots : Nat} (hi : i + 5 ≤ L) (hcl : cells + 2 ≤ 601024) (hsl : slots + 12 ≤ 7293034) {K : ka_S → Int64 → Prop}
    (kx : ∀ (σ : ka_S) (o : Int64) (H : Heap) (locs : List Loc), K σ o → kl_W G s σ o H locs → ∀ ls : Array Slot, lv_has ls 7 [(0, .ref b), (1, .ref (ka_a G (22, 0, 0))), (2, .ref (ka_a G (25, 0, 0))), (3, .ref G.2.2.2), (4, .int (nI i))] → W p l e room_1 s m #[.ref b] below meth c H locs (cells + 2) (slots + 12) Z (F0 m 1961 ls []))
    {σ : ka_S} {o : Int64} {H : Heap} {locs : List Loc} {ls : Array Slot} (hq : kl_c15 σ xs i o K) (hw : kl_W G s σ o H locs) (hl : lv_has ls 7 [(0, .ref b), (1, .ref (ka_a G (22, 0, 0))), (2, .ref (ka_a G (25, 0, 0))), (3, .ref G.2.2.2), (4, .int (nI i))]) : W p l e room_1 s m #[.ref b] below meth c H locs cells slots Z (F0 m 1070 ls []) := by
  obtain ⟨hx, hb, -, hml, hown, hts, -⟩ := id C0
  have hbA : ¬ ka_A9 G b := fun z => by have : G.2.2.1 ≤ b := z; rw [hC.2.2.2.2.1] at this; omega
  have hin1 := kl_ge (c := 1) hi hL (by decide)
  have hin2 := kl_ge (c := 2) hi hL (by decide)
  have hin3 := kl_ge (c := 3) hi hL (by decide)
  have hin4 := kl_ge (c := 4) hi hL (by decide)
  unfold kl_c15 at hq
  refine lv_aload_n hx hb dL_law_1070 rfl (lv_at hl 1 rfl) ?_
  refine lv_aload_n hx hb dL_law_1071 rfl (lv_at hl 0 rfl) ?_
  refine lv_iload hx hb dL_law_1072 (lv_at hl 4 rfl) ?_
  refine lv_iconst (v := 1) hx hb dL_law_1074 (by decide) ?_
  refine lv_iadd hx hb dL_law_1075 ?_
  refine va_sld hx hb hX hbl hbA hw.2.2.1 hin1.1 dL_law_1076 ?_
  rw [show (nI i + 1).toNatClampNeg = i + 1 from hin1.2]
  refine lv_aload_n hx hb dL_law_1077 rfl (lv_at hl 3 rfl) ?_
  refine kl_Si (n := 3) (As := [.ref (ka_a G (22, 0, 0)), .int (xs (i + 1)), .ref G.2.2.2]) (rest := []) C0 hC hw hl (km_L_setFree l hl0 hC.1 hC.2.2.2.2.2 hq) kq_740 kq_741 kl_ini kl_L_setFree (by decide +kernel) ⟨rfl, rfl, Nat.le_of_ble_eq_true rfl, Nat.le_of_ble_eq_true rfl⟩ rfl (Nat.le_of_ble_eq_true rfl) dL_law_1078 ⟨by show _ ≤ 601024; omega, by show _ ≤ 7293034; omega⟩ (fun r2 σ1 o3 H locs hq hw => ?_)
  refine lv_istore (lv' := [(5, .int r2), (0, .ref b), (1, .ref (ka_a G (22, 0, 0))), (2, .ref (ka_a G (25, 0, 0))), (3, .ref G.2.2.2), (4, .int (nI i))]) hx hb dL_law_1081 hl (by decide) rfl (fun ls hl => ?_)
  refine lv_aload_n hx hb dL_law_1083 rfl (lv_at hl 3 rfl) ?_
  refine lv_aload_n hx hb dL_law_1084 rfl (lv_at hl 1 rfl) ?_
  refine lv_iload hx hb dL_law_1085 (lv_at hl 5 rfl) ?_
  refine lv_iconst (v := 1) hx hb dL_law_1087 (by decide) ?_
  refine lv_iadd hx hb dL_law_1088 ?_
  refine va_sld hx hb hX hbl hbA hw.2.2.1 hin1.1 dL_law_1089 ?_
  rw [show (nI i + 1).toNatClampNeg = i + 1 from hin1.2]
  refine kl_Vi (k := (25, 0, 0)) (As := [.int (xs (i + 1))]) (rest := []) C0 hC hw hl (km_X9_setFree l hC.1 hq) kd_X9_setFree kq_1234 (kv_s (by decide) (by decide)) rfl rfl rfl ⟨rfl, rfl, Nat.le_of_ble_eq_true rfl, Nat.le_of_ble_eq_true rfl⟩ rfl (Nat.le_of_ble_eq_true rfl) dL_law_1090 ⟨by show _ ≤ 601024; omega, by show _ ≤ 7293034; omega⟩ (fun r5 σ4 H locs hq hw => ?_)
  refine lv_istore (lv' := [(6, .int r5), (5, .int r2), (0, .ref b), (1, .ref (ka_a G (22, 0, 0))), (2, .ref (ka_a G (25, 0, 0))), (3, .ref G.2.2.2), (4, .int (nI i))]) hx hb dL_law_1093 hl (by decide) rfl (fun ls hl => ?_)
  refine lv_aload_n hx hb dL_law_1095 rfl (lv_at hl 4 rfl) ?_
  refine kl_Vi (k := (25, 0, 0)) (As := []) (rest := []) C0 hC hw hl (km_X9_thrown l hC.1 hq) kd_X9_thrown kq_1022 (kv_s (by decide) (by decide)) rfl rfl rfl ⟨rfl, rfl, Nat.le_of_ble_eq_true rfl, Nat.le_of_ble_eq_true rfl⟩ rfl (Nat.le_of_ble_eq_true rfl) dL_law_1096 ⟨by show _ ≤ 601024; omega, by show _ ≤ 7293034; omega⟩ (fun r7 σ6 H locs hq hw => ?_)
  refine lv_iload hx hb dL_law_1099 (lv_at hl 1 rfl) ?_
  refine lv_icmp_eq (tgt := 1106) hx hb dL_law_1101 (by decide) (fun hc => ?_) (fun hc => ?_)
  · have hq := hq.1 hc
    refine lv_iload hx hb dL_law_1106 (lv_at hl 1 rfl) ?_
    refine lv_if_ne (tgt := 1123) hx hb dL_law_1108 (by decide) (fun hc => ?_) (fun hc => ?_)
    · have hq := hq.2 hc
      refine lv_goto (tgt := 1961) hx hb dL_law_1123 (by decide) ?_
      exact W.widen (k := cells + 2) (n := slots + 12) (by omega) (by omega) (kx σ6 o3 H locs hq hw ls (lv_sub hl [2, 3, 4, 5, 6] rfl))
    · have hq := hq.1 hc
      refine lv_aload_n hx hb dL_law_1111 rfl (lv_at hl 5 rfl) ?_
      refine lv_iconst (v := 0) hx hb dL_law_1112 (by decide) ?_
      refine kl_lald C0 hC hw dL_law_1113 ?_
      refine lv_iload hx hb dL_law_1114 (lv_at hl 0 rfl) ?_
      refine lv_i2l hx hb dL_law_1116 rfl ?_
      refine kr_ceq (tgt := 1123) C0 dL_law_1117 dL_law_1118 (by decide) (fun hc => ?_) (fun hc => ?_)
      · have hq := hq.1 hc
        refine lv_goto (tgt := 1961) hx hb dL_law_1123 (by decide) ?_
        exact W.widen (k := cells + 2) (n := slots + 12) (by omega) (by omega) (kx σ6 o3 H locs hq hw ls (lv_sub hl [2, 3, 4, 5, 6] rfl))
      · have hq := hq.2 hc
        refine lv_iconst (v := 0) hx hb dL_law_1121 (by decide) ?_
        exact hq.elim
  · have hq := hq.2 hc
    refine lv_iconst (v := 0) hx hb dL_law_1104 (by decide) ?_
    exact hq.elim
def kl_c16 (σ : ka_S) (xs : Nat → Int32) (i : Nat) (o : Int64) (K : ka_S → Int64 → Prop) : Prop := kw_L_setGloss σ (xs (i + 1)) (xs (i + 2)) o (fun r2 σ1 o3 =>
  kw_X9_setGloss σ1 (xs (i + 1)) (xs (i + 2)) (fun r5 σ4 =>
  kw_X9_thrown σ4 (fun r7 σ6 =>
  (r7 = r2 → (r2 = (0 : Int32) → (o3 = (r5).toInt64 → K σ6 o3) ∧
      (¬ o3 = (r5).toInt64 → False)) ∧
    (¬ r2 = (0 : Int32) → K σ6 o3)) ∧
  (¬ r7 = r2 → False))))
set_option maxHeartbeats 4000000 in
set_option maxRecDepth 100000 in
theorem kl_t16 {p : Program} {l : Launch} {e : Env} {s : State} {m : MethodId} {below : List Frame} {meth : Method} {c : Code} {b L : Nat} {xs : Nat → Int32} {Z : State → Prop} {G : ka_G} (hl0 : l.stackTraces = false) (C0 : ka_C p s m #[.ref b] meth c cL_law 7 "GlossRowsLaw" (some .boolean)) (hC : kl_C G s) (hX : va_X b L xs s s.heap) (hbl : b < s.heap.size) (hL : L ≤ 2560) {i cells slots : Nat} (hi : i + 5 ≤ L) (hcl : cells + 2 ≤ 601024) (hsl : slots + 12 ≤ 7293034) {K : ka_S → Int64 → Prop}
    (kx : ∀ (σ : ka_S) (o : Int64) (H : Heap) (locs : List Loc), K σ o → kl_W G s σ o H locs → ∀ ls : Array Slot, lv_has ls 7 [(0, .ref b), (1, .ref (ka_a G (22, 0, 0))), (2, .ref (ka_a G (25, 0, 0))), (3, .ref G.2.2.2), (4, .int (nI i))] → W p l e room_1 s m #[.ref b] below meth c H locs (cells + 2) (slots + 12) Z (F0 m 1961 ls []))
    {σ : ka_S} {o : Int64} {H : Heap} {locs : List Loc} {ls : Array Slot} (hq : kl_c16 σ xs i o K) (hw : kl_W G s σ o H locs) (hl : lv_has ls 7 [(0, .ref b), (1, .ref (ka_a G (22, 0, 0))), (2, .ref (ka_a G (25, 0, 0))), (3, .ref G.2.2.2), (4, .int (nI i))]) : W p l e room_1 s m #[.ref b] below meth c H locs cells slots Z (F0 m 1126 ls []) := by
  obtain ⟨hx, hb, -, hml, hown, hts, -⟩ := id C0
  have hbA : ¬ ka_A9 G b := fun z => by have : G.2.2.1 ≤ b := z; rw [hC.2.2.2.2.1] at this; omega
  have hin1 := kl_ge (c := 1) hi hL (by decide)
  have hin2 := kl_ge (c := 2) hi hL (by decide)
  have hin3 := kl_ge (c := 3) hi hL (by decide)
  have hin4 := kl_ge (c := 4) hi hL (by decide)
  unfold kl_c16 at hq
  refine lv_aload_n hx hb dL_law_1126 rfl (lv_at hl 1 rfl) ?_
  refine lv_aload_n hx hb dL_law_1127 rfl (lv_at hl 0 rfl) ?_
  refine lv_iload hx hb dL_law_1128 (lv_at hl 4 rfl) ?_
  refine lv_iconst (v := 1) hx hb dL_law_1130 (by decide) ?_
  refine lv_iadd hx hb dL_law_1131 ?_
  refine va_sld hx hb hX hbl hbA hw.2.2.1 hin1.1 dL_law_1132 ?_
  rw [show (nI i + 1).toNatClampNeg = i + 1 from hin1.2]
  refine lv_aload_n hx hb dL_law_1133 rfl (lv_at hl 0 rfl) ?_
  refine lv_iload hx hb dL_law_1134 (lv_at hl 4 rfl) ?_
  refine lv_iconst (v := 2) hx hb dL_law_1136 (by decide) ?_
  refine lv_iadd hx hb dL_law_1137 ?_
  refine va_sld hx hb hX hbl hbA hw.2.2.1 hin2.1 dL_law_1138 ?_
  rw [show (nI i + 2).toNatClampNeg = i + 2 from hin2.2]
  refine lv_aload_n hx hb dL_law_1139 rfl (lv_at hl 3 rfl) ?_
  refine kl_Si (n := 4) (As := [.ref (ka_a G (22, 0, 0)), .int (xs (i + 1)), .int (xs (i + 2)), .ref G.2.2.2]) (rest := []) C0 hC hw hl (km_L_setGloss l hl0 hC.1 hC.2.2.2.2.2 hq) kq_757 kq_758 kl_ini kl_L_setGloss (by decide +kernel) ⟨rfl, rfl, Nat.le_of_ble_eq_true rfl, Nat.le_of_ble_eq_true rfl⟩ rfl (Nat.le_of_ble_eq_true rfl) dL_law_1140 ⟨by show _ ≤ 601024; omega, by show _ ≤ 7293034; omega⟩ (fun r2 σ1 o3 H locs hq hw => ?_)
  refine lv_istore (lv' := [(5, .int r2), (0, .ref b), (1, .ref (ka_a G (22, 0, 0))), (2, .ref (ka_a G (25, 0, 0))), (3, .ref G.2.2.2), (4, .int (nI i))]) hx hb dL_law_1143 hl (by decide) rfl (fun ls hl => ?_)
  refine lv_aload_n hx hb dL_law_1145 rfl (lv_at hl 3 rfl) ?_
  refine lv_aload_n hx hb dL_law_1146 rfl (lv_at hl 1 rfl) ?_
  refine lv_iload hx hb dL_law_1147 (lv_at hl 5 rfl) ?_
  refine lv_iconst (v := 1) hx hb dL_law_1149 (by decide) ?_
  refine lv_iadd hx hb dL_law_1150 ?_
  refine va_sld hx hb hX hbl hbA hw.2.2.1 hin1.1 dL_law_1151 ?_
  rw [show (nI i + 1).toNatClampNeg = i + 1 from hin1.2]
  refine lv_aload_n hx hb dL_law_1152 rfl (lv_at hl 1 rfl) ?_
  refine lv_iload hx hb dL_law_1153 (lv_at hl 5 rfl) ?_
  refine lv_iconst (v := 2) hx hb dL_law_1155 (by decide) ?_
  refine lv_iadd hx hb dL_law_1156 ?_
  refine va_sld hx hb hX hbl hbA hw.2.2.1 hin2.1 dL_law_1157 ?_
  rw [show (nI i + 2).toNatClampNeg = i + 2 from hin2.2]
  refine kl_Vi (k := (25, 0, 0)) (As := [.int (xs (i + 1)), .int (xs (i + 2))]) (rest := []) C0 hC hw hl (km_X9_setGloss l hC.1 hq) kd_X9_setGloss kq_1244 (kv_s (by decide) (by decide)) rfl rfl rfl ⟨rfl, rfl, Nat.le_of_ble_eq_true rfl, Nat.le_of_ble_eq_true rfl⟩ rfl (Nat.le_of_ble_eq_true rfl) dL_law_1158 ⟨by show _ ≤ 601024; omega, by show _ ≤ 7293034; omega⟩ (fun r5 σ4 H locs hq hw => ?_)
  refine lv_istore (lv' := [(6, .int r5), (5, .int r2), (0, .ref b), (1, .ref (ka_a G (22, 0, 0))), (2, .ref (ka_a G (25, 0, 0))), (3, .ref G.2.2.2), (4, .int (nI i))]) hx hb dL_law_1161 hl (by decide) rfl (fun ls hl => ?_)
  refine lv_aload_n hx hb dL_law_1163 rfl (lv_at hl 4 rfl) ?_
  refine kl_Vi (k := (25, 0, 0)) (As := []) (rest := []) C0 hC hw hl (km_X9_thrown l hC.1 hq) kd_X9_thrown kq_1022 (kv_s (by decide) (by decide)) rfl rfl rfl ⟨rfl, rfl, Nat.le_of_ble_eq_true rfl, Nat.le_of_ble_eq_true rfl⟩ rfl (Nat.le_of_ble_eq_true rfl) dL_law_1164 ⟨by show _ ≤ 601024; omega, by show _ ≤ 7293034; omega⟩ (fun r7 σ6 H locs hq hw => ?_)
  refine lv_iload hx hb dL_law_1167 (lv_at hl 1 rfl) ?_
  refine lv_icmp_eq (tgt := 1174) hx hb dL_law_1169 (by decide) (fun hc => ?_) (fun hc => ?_)
  · have hq := hq.1 hc
    refine lv_iload hx hb dL_law_1174 (lv_at hl 1 rfl) ?_
    refine lv_if_ne (tgt := 1191) hx hb dL_law_1176 (by decide) (fun hc => ?_) (fun hc => ?_)
    · have hq := hq.2 hc
      refine lv_goto (tgt := 1961) hx hb dL_law_1191 (by decide) ?_
      exact W.widen (k := cells + 2) (n := slots + 12) (by omega) (by omega) (kx σ6 o3 H locs hq hw ls (lv_sub hl [2, 3, 4, 5, 6] rfl))
    · have hq := hq.1 hc
      refine lv_aload_n hx hb dL_law_1179 rfl (lv_at hl 5 rfl) ?_
      refine lv_iconst (v := 0) hx hb dL_law_1180 (by decide) ?_
      refine kl_lald C0 hC hw dL_law_1181 ?_
      refine lv_iload hx hb dL_law_1182 (lv_at hl 0 rfl) ?_
      refine lv_i2l hx hb dL_law_1184 rfl ?_
      refine kr_ceq (tgt := 1191) C0 dL_law_1185 dL_law_1186 (by decide) (fun hc => ?_) (fun hc => ?_)
      · have hq := hq.1 hc
        refine lv_goto (tgt := 1961) hx hb dL_law_1191 (by decide) ?_
        exact W.widen (k := cells + 2) (n := slots + 12) (by omega) (by omega) (kx σ6 o3 H locs hq hw ls (lv_sub hl [2, 3, 4, 5, 6] rfl))
      · have hq := hq.2 hc
        refine lv_iconst (v := 0) hx hb dL_law_1189 (by decide) ?_
        exact hq.elim
  · have hq := hq.2 hc
    refine lv_iconst (v := 0) hx hb dL_law_1172 (by decide) ?_
    exact hq.elim
def kl_c17 (σ : ka_S) (xs : Nat → Int32) (i : Nat) (o : Int64) (K : ka_S → Int64 → Prop) : Prop := kw_L_set σ (xs (i + 1)) (xs (i + 2)) o (fun r2 σ1 o3 =>
  kw_X9_set σ1 (xs (i + 1)) (xs (i + 2)) (fun r5 σ4 =>
  kw_X9_thrown σ4 (fun r7 σ6 =>
  (r7 = r2 → (r2 = (0 : Int32) → (o3 = (r5).toInt64 → K σ6 o3) ∧
      (¬ o3 = (r5).toInt64 → False)) ∧
    (¬ r2 = (0 : Int32) → K σ6 o3)) ∧
  (¬ r7 = r2 → False))))
set_option maxHeartbeats 4000000 in
set_option maxRecDepth 100000 in
theorem kl_t17 {p : Program} {l : Launch} {e : Env} {s : State} {m : MethodId} {below : List Frame} {meth : Method} {c : Code} {b L : Nat} {xs : Nat → Int32} {Z : State → Prop} {G : ka_G} (hl0 : l.stackTraces = false) (C0 : ka_C p s m #[.ref b] meth c cL_law 7 "GlossRowsLaw" (some .boolean)) (hC : kl_C G s) (hX : va_X b L xs s s.heap) (hbl : b < s.heap.size) (hL : L ≤ 2560) {i cells slots : Nat} (hi : i + 5 ≤ L) (hcl : cells + 2 ≤ 601024) (hsl : slots + 12 ≤ 7293034) {K : ka_S → Int64 → Prop}
    (kx : ∀ (σ : ka_S) (o : Int64) (H : Heap) (locs : List Loc), K σ o → kl_W G s σ o H locs → ∀ ls : Array Slot, lv_has ls 7 [(0, .ref b), (1, .ref (ka_a G (22, 0, 0))), (2, .ref (ka_a G (25, 0, 0))), (3, .ref G.2.2.2), (4, .int (nI i))] → W p l e room_1 s m #[.ref b] below meth c H locs (cells + 2) (slots + 12) Z (F0 m 1961 ls []))
    {σ : ka_S} {o : Int64} {H : Heap} {locs : List Loc} {ls : Array Slot} (hq : kl_c17 σ xs i o K) (hw : kl_W G s σ o H locs) (hl : lv_has ls 7 [(0, .ref b), (1, .ref (ka_a G (22, 0, 0))), (2, .ref (ka_a G (25, 0, 0))), (3, .ref G.2.2.2), (4, .int (nI i))]) : W p l e room_1 s m #[.ref b] below meth c H locs cells slots Z (F0 m 1194 ls []) := by
  obtain ⟨hx, hb, -, hml, hown, hts, -⟩ := id C0
  have hbA : ¬ ka_A9 G b := fun z => by have : G.2.2.1 ≤ b := z; rw [hC.2.2.2.2.1] at this; omega
  have hin1 := kl_ge (c := 1) hi hL (by decide)
  have hin2 := kl_ge (c := 2) hi hL (by decide)
  have hin3 := kl_ge (c := 3) hi hL (by decide)
  have hin4 := kl_ge (c := 4) hi hL (by decide)
  unfold kl_c17 at hq
  refine lv_aload_n hx hb dL_law_1194 rfl (lv_at hl 1 rfl) ?_
  refine lv_aload_n hx hb dL_law_1195 rfl (lv_at hl 0 rfl) ?_
  refine lv_iload hx hb dL_law_1196 (lv_at hl 4 rfl) ?_
  refine lv_iconst (v := 1) hx hb dL_law_1198 (by decide) ?_
  refine lv_iadd hx hb dL_law_1199 ?_
  refine va_sld hx hb hX hbl hbA hw.2.2.1 hin1.1 dL_law_1200 ?_
  rw [show (nI i + 1).toNatClampNeg = i + 1 from hin1.2]
  refine lv_aload_n hx hb dL_law_1201 rfl (lv_at hl 0 rfl) ?_
  refine lv_iload hx hb dL_law_1202 (lv_at hl 4 rfl) ?_
  refine lv_iconst (v := 2) hx hb dL_law_1204 (by decide) ?_
  refine lv_iadd hx hb dL_law_1205 ?_
  refine va_sld hx hb hX hbl hbA hw.2.2.1 hin2.1 dL_law_1206 ?_
  rw [show (nI i + 2).toNatClampNeg = i + 2 from hin2.2]
  refine lv_aload_n hx hb dL_law_1207 rfl (lv_at hl 3 rfl) ?_
  refine kl_Si (n := 4) (As := [.ref (ka_a G (22, 0, 0)), .int (xs (i + 1)), .int (xs (i + 2)), .ref G.2.2.2]) (rest := []) C0 hC hw hl (km_L_set l hl0 hC.1 hC.2.2.2.2.2 hq) kq_775 kq_776 kl_ini kl_L_set (by decide +kernel) ⟨rfl, rfl, Nat.le_of_ble_eq_true rfl, Nat.le_of_ble_eq_true rfl⟩ rfl (Nat.le_of_ble_eq_true rfl) dL_law_1208 ⟨by show _ ≤ 601024; omega, by show _ ≤ 7293034; omega⟩ (fun r2 σ1 o3 H locs hq hw => ?_)
  refine lv_istore (lv' := [(5, .int r2), (0, .ref b), (1, .ref (ka_a G (22, 0, 0))), (2, .ref (ka_a G (25, 0, 0))), (3, .ref G.2.2.2), (4, .int (nI i))]) hx hb dL_law_1211 hl (by decide) rfl (fun ls hl => ?_)
  refine lv_aload_n hx hb dL_law_1213 rfl (lv_at hl 3 rfl) ?_
  refine lv_aload_n hx hb dL_law_1214 rfl (lv_at hl 1 rfl) ?_
  refine lv_iload hx hb dL_law_1215 (lv_at hl 5 rfl) ?_
  refine lv_iconst (v := 1) hx hb dL_law_1217 (by decide) ?_
  refine lv_iadd hx hb dL_law_1218 ?_
  refine va_sld hx hb hX hbl hbA hw.2.2.1 hin1.1 dL_law_1219 ?_
  rw [show (nI i + 1).toNatClampNeg = i + 1 from hin1.2]
  refine lv_aload_n hx hb dL_law_1220 rfl (lv_at hl 1 rfl) ?_
  refine lv_iload hx hb dL_law_1221 (lv_at hl 5 rfl) ?_
  refine lv_iconst (v := 2) hx hb dL_law_1223 (by decide) ?_
  refine lv_iadd hx hb dL_law_1224 ?_
  refine va_sld hx hb hX hbl hbA hw.2.2.1 hin2.1 dL_law_1225 ?_
  rw [show (nI i + 2).toNatClampNeg = i + 2 from hin2.2]
  refine kl_Vi (k := (25, 0, 0)) (As := [.int (xs (i + 1)), .int (xs (i + 2))]) (rest := []) C0 hC hw hl (km_X9_set l hC.1 hq) kd_X9_set kq_1252 (kv_s (by decide) (by decide)) rfl rfl rfl ⟨rfl, rfl, Nat.le_of_ble_eq_true rfl, Nat.le_of_ble_eq_true rfl⟩ rfl (Nat.le_of_ble_eq_true rfl) dL_law_1226 ⟨by show _ ≤ 601024; omega, by show _ ≤ 7293034; omega⟩ (fun r5 σ4 H locs hq hw => ?_)
  refine lv_istore (lv' := [(6, .int r5), (5, .int r2), (0, .ref b), (1, .ref (ka_a G (22, 0, 0))), (2, .ref (ka_a G (25, 0, 0))), (3, .ref G.2.2.2), (4, .int (nI i))]) hx hb dL_law_1229 hl (by decide) rfl (fun ls hl => ?_)
  refine lv_aload_n hx hb dL_law_1231 rfl (lv_at hl 4 rfl) ?_
  refine kl_Vi (k := (25, 0, 0)) (As := []) (rest := []) C0 hC hw hl (km_X9_thrown l hC.1 hq) kd_X9_thrown kq_1022 (kv_s (by decide) (by decide)) rfl rfl rfl ⟨rfl, rfl, Nat.le_of_ble_eq_true rfl, Nat.le_of_ble_eq_true rfl⟩ rfl (Nat.le_of_ble_eq_true rfl) dL_law_1232 ⟨by show _ ≤ 601024; omega, by show _ ≤ 7293034; omega⟩ (fun r7 σ6 H locs hq hw => ?_)
  refine lv_iload hx hb dL_law_1235 (lv_at hl 1 rfl) ?_
  refine lv_icmp_eq (tgt := 1242) hx hb dL_law_1237 (by decide) (fun hc => ?_) (fun hc => ?_)
  · have hq := hq.1 hc
    refine lv_iload hx hb dL_law_1242 (lv_at hl 1 rfl) ?_
    refine lv_if_ne (tgt := 1259) hx hb dL_law_1244 (by decide) (fun hc => ?_) (fun hc => ?_)
    · have hq := hq.2 hc
      refine lv_goto (tgt := 1961) hx hb dL_law_1259 (by decide) ?_
      exact W.widen (k := cells + 2) (n := slots + 12) (by omega) (by omega) (kx σ6 o3 H locs hq hw ls (lv_sub hl [2, 3, 4, 5, 6] rfl))
    · have hq := hq.1 hc
      refine lv_aload_n hx hb dL_law_1247 rfl (lv_at hl 5 rfl) ?_
      refine lv_iconst (v := 0) hx hb dL_law_1248 (by decide) ?_
      refine kl_lald C0 hC hw dL_law_1249 ?_
      refine lv_iload hx hb dL_law_1250 (lv_at hl 0 rfl) ?_
      refine lv_i2l hx hb dL_law_1252 rfl ?_
      refine kr_ceq (tgt := 1259) C0 dL_law_1253 dL_law_1254 (by decide) (fun hc => ?_) (fun hc => ?_)
      · have hq := hq.1 hc
        refine lv_goto (tgt := 1961) hx hb dL_law_1259 (by decide) ?_
        exact W.widen (k := cells + 2) (n := slots + 12) (by omega) (by omega) (kx σ6 o3 H locs hq hw ls (lv_sub hl [2, 3, 4, 5, 6] rfl))
      · have hq := hq.2 hc
        refine lv_iconst (v := 0) hx hb dL_law_1257 (by decide) ?_
        exact hq.elim
  · have hq := hq.2 hc
    refine lv_iconst (v := 0) hx hb dL_law_1240 (by decide) ?_
    exact hq.elim
def kl_c18 (σ : ka_S) (xs : Nat → Int32) (i : Nat) (o : Int64) (K : ka_S → Int64 → Prop) : Prop := kw_L_learn σ (xs (i + 1)) (xs (i + 2)) o (fun r2 σ1 o3 =>
  kw_X9_learn σ1 (xs (i + 1)) (xs (i + 2)) (fun r5 σ4 =>
  kw_X9_thrown σ4 (fun r7 σ6 =>
  (r7 = r2 → (r2 = (0 : Int32) → (o3 = (r5).toInt64 → K σ6 o3) ∧
      (¬ o3 = (r5).toInt64 → False)) ∧
    (¬ r2 = (0 : Int32) → K σ6 o3)) ∧
  (¬ r7 = r2 → False))))
set_option maxHeartbeats 4000000 in
set_option maxRecDepth 100000 in
theorem kl_t18 {p : Program} {l : Launch} {e : Env} {s : State} {m : MethodId} {below : List Frame} {meth : Method} {c : Code} {b L : Nat} {xs : Nat → Int32} {Z : State → Prop} {G : ka_G} (hl0 : l.stackTraces = false) (C0 : ka_C p s m #[.ref b] meth c cL_law 7 "GlossRowsLaw" (some .boolean)) (hC : kl_C G s) (hX : va_X b L xs s s.heap) (hbl : b < s.heap.size) (hL : L ≤ 2560) {i cells slots : Nat} (hi : i + 5 ≤ L) (hcl : cells + 2 ≤ 601024) (hsl : slots + 12 ≤ 7293034) {K : ka_S → Int64 → Prop}
    (kx : ∀ (σ : ka_S) (o : Int64) (H : Heap) (locs : List Loc), K σ o → kl_W G s σ o H locs → ∀ ls : Array Slot, lv_has ls 7 [(0, .ref b), (1, .ref (ka_a G (22, 0, 0))), (2, .ref (ka_a G (25, 0, 0))), (3, .ref G.2.2.2), (4, .int (nI i))] → W p l e room_1 s m #[.ref b] below meth c H locs (cells + 2) (slots + 12) Z (F0 m 1961 ls []))
    {σ : ka_S} {o : Int64} {H : Heap} {locs : List Loc} {ls : Array Slot} (hq : kl_c18 σ xs i o K) (hw : kl_W G s σ o H locs) (hl : lv_has ls 7 [(0, .ref b), (1, .ref (ka_a G (22, 0, 0))), (2, .ref (ka_a G (25, 0, 0))), (3, .ref G.2.2.2), (4, .int (nI i))]) : W p l e room_1 s m #[.ref b] below meth c H locs cells slots Z (F0 m 1262 ls []) := by
  obtain ⟨hx, hb, -, hml, hown, hts, -⟩ := id C0
  have hbA : ¬ ka_A9 G b := fun z => by have : G.2.2.1 ≤ b := z; rw [hC.2.2.2.2.1] at this; omega
  have hin1 := kl_ge (c := 1) hi hL (by decide)
  have hin2 := kl_ge (c := 2) hi hL (by decide)
  have hin3 := kl_ge (c := 3) hi hL (by decide)
  have hin4 := kl_ge (c := 4) hi hL (by decide)
  unfold kl_c18 at hq
  refine lv_aload_n hx hb dL_law_1262 rfl (lv_at hl 1 rfl) ?_
  refine lv_aload_n hx hb dL_law_1263 rfl (lv_at hl 0 rfl) ?_
  refine lv_iload hx hb dL_law_1264 (lv_at hl 4 rfl) ?_
  refine lv_iconst (v := 1) hx hb dL_law_1266 (by decide) ?_
  refine lv_iadd hx hb dL_law_1267 ?_
  refine va_sld hx hb hX hbl hbA hw.2.2.1 hin1.1 dL_law_1268 ?_
  rw [show (nI i + 1).toNatClampNeg = i + 1 from hin1.2]
  refine lv_aload_n hx hb dL_law_1269 rfl (lv_at hl 0 rfl) ?_
  refine lv_iload hx hb dL_law_1270 (lv_at hl 4 rfl) ?_
  refine lv_iconst (v := 2) hx hb dL_law_1272 (by decide) ?_
  refine lv_iadd hx hb dL_law_1273 ?_
  refine va_sld hx hb hX hbl hbA hw.2.2.1 hin2.1 dL_law_1274 ?_
  rw [show (nI i + 2).toNatClampNeg = i + 2 from hin2.2]
  refine lv_aload_n hx hb dL_law_1275 rfl (lv_at hl 3 rfl) ?_
  refine kl_Si (n := 4) (As := [.ref (ka_a G (22, 0, 0)), .int (xs (i + 1)), .int (xs (i + 2)), .ref G.2.2.2]) (rest := []) C0 hC hw hl (km_L_learn l hl0 hC.1 hC.2.2.2.2.2 hq) kq_790 kq_791 kl_ini kl_L_learn (by decide +kernel) ⟨rfl, rfl, Nat.le_of_ble_eq_true rfl, Nat.le_of_ble_eq_true rfl⟩ rfl (Nat.le_of_ble_eq_true rfl) dL_law_1276 ⟨by show _ ≤ 601024; omega, by show _ ≤ 7293034; omega⟩ (fun r2 σ1 o3 H locs hq hw => ?_)
  refine lv_istore (lv' := [(5, .int r2), (0, .ref b), (1, .ref (ka_a G (22, 0, 0))), (2, .ref (ka_a G (25, 0, 0))), (3, .ref G.2.2.2), (4, .int (nI i))]) hx hb dL_law_1279 hl (by decide) rfl (fun ls hl => ?_)
  refine lv_aload_n hx hb dL_law_1281 rfl (lv_at hl 3 rfl) ?_
  refine lv_aload_n hx hb dL_law_1282 rfl (lv_at hl 1 rfl) ?_
  refine lv_iload hx hb dL_law_1283 (lv_at hl 5 rfl) ?_
  refine lv_iconst (v := 1) hx hb dL_law_1285 (by decide) ?_
  refine lv_iadd hx hb dL_law_1286 ?_
  refine va_sld hx hb hX hbl hbA hw.2.2.1 hin1.1 dL_law_1287 ?_
  rw [show (nI i + 1).toNatClampNeg = i + 1 from hin1.2]
  refine lv_aload_n hx hb dL_law_1288 rfl (lv_at hl 1 rfl) ?_
  refine lv_iload hx hb dL_law_1289 (lv_at hl 5 rfl) ?_
  refine lv_iconst (v := 2) hx hb dL_law_1291 (by decide) ?_
  refine lv_iadd hx hb dL_law_1292 ?_
  refine va_sld hx hb hX hbl hbA hw.2.2.1 hin2.1 dL_law_1293 ?_
  rw [show (nI i + 2).toNatClampNeg = i + 2 from hin2.2]
  refine kl_Vi (k := (25, 0, 0)) (As := [.int (xs (i + 1)), .int (xs (i + 2))]) (rest := []) C0 hC hw hl (km_X9_learn l hC.1 hq) kd_X9_learn kq_1261 (kv_s (by decide) (by decide)) rfl rfl rfl ⟨rfl, rfl, Nat.le_of_ble_eq_true rfl, Nat.le_of_ble_eq_true rfl⟩ rfl (Nat.le_of_ble_eq_true rfl) dL_law_1294 ⟨by show _ ≤ 601024; omega, by show _ ≤ 7293034; omega⟩ (fun r5 σ4 H locs hq hw => ?_)
  refine lv_istore (lv' := [(6, .int r5), (5, .int r2), (0, .ref b), (1, .ref (ka_a G (22, 0, 0))), (2, .ref (ka_a G (25, 0, 0))), (3, .ref G.2.2.2), (4, .int (nI i))]) hx hb dL_law_1297 hl (by decide) rfl (fun ls hl => ?_)
  refine lv_aload_n hx hb dL_law_1299 rfl (lv_at hl 4 rfl) ?_
  refine kl_Vi (k := (25, 0, 0)) (As := []) (rest := []) C0 hC hw hl (km_X9_thrown l hC.1 hq) kd_X9_thrown kq_1022 (kv_s (by decide) (by decide)) rfl rfl rfl ⟨rfl, rfl, Nat.le_of_ble_eq_true rfl, Nat.le_of_ble_eq_true rfl⟩ rfl (Nat.le_of_ble_eq_true rfl) dL_law_1300 ⟨by show _ ≤ 601024; omega, by show _ ≤ 7293034; omega⟩ (fun r7 σ6 H locs hq hw => ?_)
  refine lv_iload hx hb dL_law_1303 (lv_at hl 1 rfl) ?_
  refine lv_icmp_eq (tgt := 1310) hx hb dL_law_1305 (by decide) (fun hc => ?_) (fun hc => ?_)
  · have hq := hq.1 hc
    refine lv_iload hx hb dL_law_1310 (lv_at hl 1 rfl) ?_
    refine lv_if_ne (tgt := 1327) hx hb dL_law_1312 (by decide) (fun hc => ?_) (fun hc => ?_)
    · have hq := hq.2 hc
      refine lv_goto (tgt := 1961) hx hb dL_law_1327 (by decide) ?_
      exact W.widen (k := cells + 2) (n := slots + 12) (by omega) (by omega) (kx σ6 o3 H locs hq hw ls (lv_sub hl [2, 3, 4, 5, 6] rfl))
    · have hq := hq.1 hc
      refine lv_aload_n hx hb dL_law_1315 rfl (lv_at hl 5 rfl) ?_
      refine lv_iconst (v := 0) hx hb dL_law_1316 (by decide) ?_
      refine kl_lald C0 hC hw dL_law_1317 ?_
      refine lv_iload hx hb dL_law_1318 (lv_at hl 0 rfl) ?_
      refine lv_i2l hx hb dL_law_1320 rfl ?_
      refine kr_ceq (tgt := 1327) C0 dL_law_1321 dL_law_1322 (by decide) (fun hc => ?_) (fun hc => ?_)
      · have hq := hq.1 hc
        refine lv_goto (tgt := 1961) hx hb dL_law_1327 (by decide) ?_
        exact W.widen (k := cells + 2) (n := slots + 12) (by omega) (by omega) (kx σ6 o3 H locs hq hw ls (lv_sub hl [2, 3, 4, 5, 6] rfl))
      · have hq := hq.2 hc
        refine lv_iconst (v := 0) hx hb dL_law_1325 (by decide) ?_
        exact hq.elim
  · have hq := hq.2 hc
    refine lv_iconst (v := 0) hx hb dL_law_1308 (by decide) ?_
    exact hq.elim
def kl_c19 (σ : ka_S) (xs : Nat → Int32) (i : Nat) (o : Int64) (K : ka_S → Int64 → Prop) : Prop := kw_L_forget σ (xs (i + 1)) o (fun r2 σ1 o3 =>
  kw_X9_forget σ1 (xs (i + 1)) (fun r5 σ4 =>
  kw_X9_thrown σ4 (fun r7 σ6 =>
  (r7 = r2 → (r2 = (0 : Int32) → (o3 = (r5).toInt64 → K σ6 o3) ∧
      (¬ o3 = (r5).toInt64 → False)) ∧
    (¬ r2 = (0 : Int32) → K σ6 o3)) ∧
  (¬ r7 = r2 → False))))
set_option maxHeartbeats 4000000 in
set_option maxRecDepth 100000 in
theorem kl_t19 {p : Program} {l : Launch} {e : Env} {s : State} {m : MethodId} {below : List Frame} {meth : Method} {c : Code} {b L : Nat} {xs : Nat → Int32} {Z : State → Prop} {G : ka_G} (hl0 : l.stackTraces = false) (C0 : ka_C p s m #[.ref b] meth c cL_law 7 "GlossRowsLaw" (some .boolean)) (hC : kl_C G s) (hX : va_X b L xs s s.heap) (hbl : b < s.heap.size) (hL : L ≤ 2560) {i cells slots : Nat} (hi : i + 5 ≤ L) (hcl : cells + 2 ≤ 601024) (hsl : slots + 12 ≤ 7293034) {K : ka_S → Int64 → Prop}
    (kx : ∀ (σ : ka_S) (o : Int64) (H : Heap) (locs : List Loc), K σ o → kl_W G s σ o H locs → ∀ ls : Array Slot, lv_has ls 7 [(0, .ref b), (1, .ref (ka_a G (22, 0, 0))), (2, .ref (ka_a G (25, 0, 0))), (3, .ref G.2.2.2), (4, .int (nI i))] → W p l e room_1 s m #[.ref b] below meth c H locs (cells + 2) (slots + 12) Z (F0 m 1961 ls []))
    {σ : ka_S} {o : Int64} {H : Heap} {locs : List Loc} {ls : Array Slot} (hq : kl_c19 σ xs i o K) (hw : kl_W G s σ o H locs) (hl : lv_has ls 7 [(0, .ref b), (1, .ref (ka_a G (22, 0, 0))), (2, .ref (ka_a G (25, 0, 0))), (3, .ref G.2.2.2), (4, .int (nI i))]) : W p l e room_1 s m #[.ref b] below meth c H locs cells slots Z (F0 m 1330 ls []) := by
  obtain ⟨hx, hb, -, hml, hown, hts, -⟩ := id C0
  have hbA : ¬ ka_A9 G b := fun z => by have : G.2.2.1 ≤ b := z; rw [hC.2.2.2.2.1] at this; omega
  have hin1 := kl_ge (c := 1) hi hL (by decide)
  have hin2 := kl_ge (c := 2) hi hL (by decide)
  have hin3 := kl_ge (c := 3) hi hL (by decide)
  have hin4 := kl_ge (c := 4) hi hL (by decide)
  unfold kl_c19 at hq
  refine lv_aload_n hx hb dL_law_1330 rfl (lv_at hl 1 rfl) ?_
  refine lv_aload_n hx hb dL_law_1331 rfl (lv_at hl 0 rfl) ?_
  refine lv_iload hx hb dL_law_1332 (lv_at hl 4 rfl) ?_
  refine lv_iconst (v := 1) hx hb dL_law_1334 (by decide) ?_
  refine lv_iadd hx hb dL_law_1335 ?_
  refine va_sld hx hb hX hbl hbA hw.2.2.1 hin1.1 dL_law_1336 ?_
  rw [show (nI i + 1).toNatClampNeg = i + 1 from hin1.2]
  refine lv_aload_n hx hb dL_law_1337 rfl (lv_at hl 3 rfl) ?_
  refine kl_Si (n := 3) (As := [.ref (ka_a G (22, 0, 0)), .int (xs (i + 1)), .ref G.2.2.2]) (rest := []) C0 hC hw hl (km_L_forget l hl0 hC.1 hC.2.2.2.2.2 hq) kq_821 kq_822 kl_ini kl_L_forget (by decide +kernel) ⟨rfl, rfl, Nat.le_of_ble_eq_true rfl, Nat.le_of_ble_eq_true rfl⟩ rfl (Nat.le_of_ble_eq_true rfl) dL_law_1338 ⟨by show _ ≤ 601024; omega, by show _ ≤ 7293034; omega⟩ (fun r2 σ1 o3 H locs hq hw => ?_)
  refine lv_istore (lv' := [(5, .int r2), (0, .ref b), (1, .ref (ka_a G (22, 0, 0))), (2, .ref (ka_a G (25, 0, 0))), (3, .ref G.2.2.2), (4, .int (nI i))]) hx hb dL_law_1341 hl (by decide) rfl (fun ls hl => ?_)
  refine lv_aload_n hx hb dL_law_1343 rfl (lv_at hl 3 rfl) ?_
  refine lv_aload_n hx hb dL_law_1344 rfl (lv_at hl 1 rfl) ?_
  refine lv_iload hx hb dL_law_1345 (lv_at hl 5 rfl) ?_
  refine lv_iconst (v := 1) hx hb dL_law_1347 (by decide) ?_
  refine lv_iadd hx hb dL_law_1348 ?_
  refine va_sld hx hb hX hbl hbA hw.2.2.1 hin1.1 dL_law_1349 ?_
  rw [show (nI i + 1).toNatClampNeg = i + 1 from hin1.2]
  refine kl_Vi (k := (25, 0, 0)) (As := [.int (xs (i + 1))]) (rest := []) C0 hC hw hl (km_X9_forget l hC.1 hq) kd_X9_forget kq_1272 (kv_s (by decide) (by decide)) rfl rfl rfl ⟨rfl, rfl, Nat.le_of_ble_eq_true rfl, Nat.le_of_ble_eq_true rfl⟩ rfl (Nat.le_of_ble_eq_true rfl) dL_law_1350 ⟨by show _ ≤ 601024; omega, by show _ ≤ 7293034; omega⟩ (fun r5 σ4 H locs hq hw => ?_)
  refine lv_istore (lv' := [(6, .int r5), (5, .int r2), (0, .ref b), (1, .ref (ka_a G (22, 0, 0))), (2, .ref (ka_a G (25, 0, 0))), (3, .ref G.2.2.2), (4, .int (nI i))]) hx hb dL_law_1353 hl (by decide) rfl (fun ls hl => ?_)
  refine lv_aload_n hx hb dL_law_1355 rfl (lv_at hl 4 rfl) ?_
  refine kl_Vi (k := (25, 0, 0)) (As := []) (rest := []) C0 hC hw hl (km_X9_thrown l hC.1 hq) kd_X9_thrown kq_1022 (kv_s (by decide) (by decide)) rfl rfl rfl ⟨rfl, rfl, Nat.le_of_ble_eq_true rfl, Nat.le_of_ble_eq_true rfl⟩ rfl (Nat.le_of_ble_eq_true rfl) dL_law_1356 ⟨by show _ ≤ 601024; omega, by show _ ≤ 7293034; omega⟩ (fun r7 σ6 H locs hq hw => ?_)
  refine lv_iload hx hb dL_law_1359 (lv_at hl 1 rfl) ?_
  refine lv_icmp_eq (tgt := 1366) hx hb dL_law_1361 (by decide) (fun hc => ?_) (fun hc => ?_)
  · have hq := hq.1 hc
    refine lv_iload hx hb dL_law_1366 (lv_at hl 1 rfl) ?_
    refine lv_if_ne (tgt := 1383) hx hb dL_law_1368 (by decide) (fun hc => ?_) (fun hc => ?_)
    · have hq := hq.2 hc
      refine lv_goto (tgt := 1961) hx hb dL_law_1383 (by decide) ?_
      exact W.widen (k := cells + 2) (n := slots + 12) (by omega) (by omega) (kx σ6 o3 H locs hq hw ls (lv_sub hl [2, 3, 4, 5, 6] rfl))
    · have hq := hq.1 hc
      refine lv_aload_n hx hb dL_law_1371 rfl (lv_at hl 5 rfl) ?_
      refine lv_iconst (v := 0) hx hb dL_law_1372 (by decide) ?_
      refine kl_lald C0 hC hw dL_law_1373 ?_
      refine lv_iload hx hb dL_law_1374 (lv_at hl 0 rfl) ?_
      refine lv_i2l hx hb dL_law_1376 rfl ?_
      refine kr_ceq (tgt := 1383) C0 dL_law_1377 dL_law_1378 (by decide) (fun hc => ?_) (fun hc => ?_)
      · have hq := hq.1 hc
        refine lv_goto (tgt := 1961) hx hb dL_law_1383 (by decide) ?_
        exact W.widen (k := cells + 2) (n := slots + 12) (by omega) (by omega) (kx σ6 o3 H locs hq hw ls (lv_sub hl [2, 3, 4, 5, 6] rfl))
      · have hq := hq.2 hc
        refine lv_iconst (v := 0) hx hb dL_law_1381 (by decide) ?_
        exact hq.elim
  · have hq := hq.2 hc
    refine lv_iconst (v := 0) hx hb dL_law_1364 (by decide) ?_
    exact hq.elim
def kl_c20 (σ : ka_S) (xs : Nat → Int32) (i : Nat) (o : Int64) (K : ka_S → Int64 → Prop) : Prop := kw_X8_fillGaps σ (fun r2 σ1 =>
  kw_X9_fillGaps σ1 (fun r4 σ3 =>
  (r2 = r4 → K σ3 o) ∧
  (¬ r2 = r4 → False)))
set_option maxHeartbeats 4000000 in
set_option maxRecDepth 100000 in
theorem kl_t20 {p : Program} {l : Launch} {e : Env} {s : State} {m : MethodId} {below : List Frame} {meth : Method} {c : Code} {b L : Nat} {xs : Nat → Int32} {Z : State → Prop} {G : ka_G} (hl0 : l.stackTraces = false) (C0 : ka_C p s m #[.ref b] meth c cL_law 7 "GlossRowsLaw" (some .boolean)) (hC : kl_C G s) (hX : va_X b L xs s s.heap) (hbl : b < s.heap.size) (hL : L ≤ 2560) {i cells slots : Nat} (hi : i + 5 ≤ L) (hcl : cells + 2 ≤ 601024) (hsl : slots + 12 ≤ 7293034) {K : ka_S → Int64 → Prop}
    (kx : ∀ (σ : ka_S) (o : Int64) (H : Heap) (locs : List Loc), K σ o → kl_W G s σ o H locs → ∀ ls : Array Slot, lv_has ls 7 [(0, .ref b), (1, .ref (ka_a G (22, 0, 0))), (2, .ref (ka_a G (25, 0, 0))), (3, .ref G.2.2.2), (4, .int (nI i))] → W p l e room_1 s m #[.ref b] below meth c H locs (cells + 2) (slots + 12) Z (F0 m 1961 ls []))
    {σ : ka_S} {o : Int64} {H : Heap} {locs : List Loc} {ls : Array Slot} (hq : kl_c20 σ xs i o K) (hw : kl_W G s σ o H locs) (hl : lv_has ls 7 [(0, .ref b), (1, .ref (ka_a G (22, 0, 0))), (2, .ref (ka_a G (25, 0, 0))), (3, .ref G.2.2.2), (4, .int (nI i))]) : W p l e room_1 s m #[.ref b] below meth c H locs cells slots Z (F0 m 1386 ls []) := by
  obtain ⟨hx, hb, -, hml, hown, hts, -⟩ := id C0
  have hbA : ¬ ka_A9 G b := fun z => by have : G.2.2.1 ≤ b := z; rw [hC.2.2.2.2.1] at this; omega
  have hin1 := kl_ge (c := 1) hi hL (by decide)
  have hin2 := kl_ge (c := 2) hi hL (by decide)
  have hin3 := kl_ge (c := 3) hi hL (by decide)
  have hin4 := kl_ge (c := 4) hi hL (by decide)
  unfold kl_c20 at hq
  refine lv_aload_n hx hb dL_law_1386 rfl (lv_at hl 1 rfl) ?_
  refine kl_Vi (k := (22, 0, 0)) (As := []) (rest := []) C0 hC hw hl (km_X8_fillGaps l hC.1 hq) kd_X8_fillGaps kq_339 (kv_s (by decide) (by decide)) rfl rfl rfl ⟨rfl, rfl, Nat.le_of_ble_eq_true rfl, Nat.le_of_ble_eq_true rfl⟩ rfl (Nat.le_of_ble_eq_true rfl) dL_law_1387 ⟨by show _ ≤ 601024; omega, by show _ ≤ 7293034; omega⟩ (fun r2 σ1 H locs hq hw => ?_)
  refine lv_aload_n hx hb dL_law_1390 rfl (lv_at hl 2 rfl) ?_
  refine kl_Vi (k := (25, 0, 0)) (As := []) (rest := [.int r2]) C0 hC hw hl (km_X9_fillGaps l hC.1 hq) kd_X9_fillGaps kq_1276 (kv_s (by decide) (by decide)) rfl rfl rfl ⟨rfl, rfl, Nat.le_of_ble_eq_true rfl, Nat.le_of_ble_eq_true rfl⟩ rfl (Nat.le_of_ble_eq_true rfl) dL_law_1391 ⟨by show _ ≤ 601024; omega, by show _ ≤ 7293034; omega⟩ (fun r4 σ3 H locs hq hw => ?_)
  refine lv_icmp_eq (tgt := 1961) hx hb dL_law_1394 (by decide) (fun hc => ?_) (fun hc => ?_)
  · have hq := hq.1 hc
    exact W.widen (k := cells + 2) (n := slots + 12) (by omega) (by omega) (kx σ3 o H locs hq hw ls (lv_sub hl [0, 1, 2, 3, 4] rfl))
  · have hq := hq.2 hc
    refine lv_iconst (v := 0) hx hb dL_law_1397 (by decide) ?_
    exact hq.elim
def kl_c21 (σ : ka_S) (xs : Nat → Int32) (i : Nat) (o : Int64) (K : ka_S → Int64 → Prop) : Prop := kw_L_undo σ o (fun r2 σ1 o3 =>
  kw_X9_undo σ1 (fun r5 σ4 =>
  kw_X9_thrown σ4 (fun r7 σ6 =>
  (r7 = r2 → (r2 = (0 : Int32) → (o3 = (r5).toInt64 → K σ6 o3) ∧
      (¬ o3 = (r5).toInt64 → False)) ∧
    (¬ r2 = (0 : Int32) → K σ6 o3)) ∧
  (¬ r7 = r2 → False))))
set_option maxHeartbeats 4000000 in
set_option maxRecDepth 100000 in
theorem kl_t21 {p : Program} {l : Launch} {e : Env} {s : State} {m : MethodId} {below : List Frame} {meth : Method} {c : Code} {b L : Nat} {xs : Nat → Int32} {Z : State → Prop} {G : ka_G} (hl0 : l.stackTraces = false) (C0 : ka_C p s m #[.ref b] meth c cL_law 7 "GlossRowsLaw" (some .boolean)) (hC : kl_C G s) (hX : va_X b L xs s s.heap) (hbl : b < s.heap.size) (hL : L ≤ 2560) {i cells slots : Nat} (hi : i + 5 ≤ L) (hcl : cells + 2 ≤ 601024) (hsl : slots + 12 ≤ 7293034) {K : ka_S → Int64 → Prop}
    (kx : ∀ (σ : ka_S) (o : Int64) (H : Heap) (locs : List Loc), K σ o → kl_W G s σ o H locs → ∀ ls : Array Slot, lv_has ls 7 [(0, .ref b), (1, .ref (ka_a G (22, 0, 0))), (2, .ref (ka_a G (25, 0, 0))), (3, .ref G.2.2.2), (4, .int (nI i))] → W p l e room_1 s m #[.ref b] below meth c H locs (cells + 2) (slots + 12) Z (F0 m 1961 ls []))
    {σ : ka_S} {o : Int64} {H : Heap} {locs : List Loc} {ls : Array Slot} (hq : kl_c21 σ xs i o K) (hw : kl_W G s σ o H locs) (hl : lv_has ls 7 [(0, .ref b), (1, .ref (ka_a G (22, 0, 0))), (2, .ref (ka_a G (25, 0, 0))), (3, .ref G.2.2.2), (4, .int (nI i))]) : W p l e room_1 s m #[.ref b] below meth c H locs cells slots Z (F0 m 1399 ls []) := by
  obtain ⟨hx, hb, -, hml, hown, hts, -⟩ := id C0
  have hbA : ¬ ka_A9 G b := fun z => by have : G.2.2.1 ≤ b := z; rw [hC.2.2.2.2.1] at this; omega
  have hin1 := kl_ge (c := 1) hi hL (by decide)
  have hin2 := kl_ge (c := 2) hi hL (by decide)
  have hin3 := kl_ge (c := 3) hi hL (by decide)
  have hin4 := kl_ge (c := 4) hi hL (by decide)
  unfold kl_c21 at hq
  refine lv_aload_n hx hb dL_law_1399 rfl (lv_at hl 1 rfl) ?_
  refine lv_aload_n hx hb dL_law_1400 rfl (lv_at hl 3 rfl) ?_
  refine kl_Si (n := 2) (As := [.ref (ka_a G (22, 0, 0)), .ref G.2.2.2]) (rest := []) C0 hC hw hl (km_L_undo l hl0 hC.1 hC.2.2.2.2.2 hq) kq_832 kq_833 kl_ini kl_L_undo (by decide +kernel) ⟨rfl, rfl, Nat.le_of_ble_eq_true rfl, Nat.le_of_ble_eq_true rfl⟩ rfl (Nat.le_of_ble_eq_true rfl) dL_law_1401 ⟨by show _ ≤ 601024; omega, by show _ ≤ 7293034; omega⟩ (fun r2 σ1 o3 H locs hq hw => ?_)
  refine lv_istore (lv' := [(5, .int r2), (0, .ref b), (1, .ref (ka_a G (22, 0, 0))), (2, .ref (ka_a G (25, 0, 0))), (3, .ref G.2.2.2), (4, .int (nI i))]) hx hb dL_law_1404 hl (by decide) rfl (fun ls hl => ?_)
  refine lv_aload_n hx hb dL_law_1406 rfl (lv_at hl 3 rfl) ?_
  refine kl_Vi (k := (25, 0, 0)) (As := []) (rest := []) C0 hC hw hl (km_X9_undo l hC.1 hq) kd_X9_undo kq_1283 (kv_s (by decide) (by decide)) rfl rfl rfl ⟨rfl, rfl, Nat.le_of_ble_eq_true rfl, Nat.le_of_ble_eq_true rfl⟩ rfl (Nat.le_of_ble_eq_true rfl) dL_law_1407 ⟨by show _ ≤ 601024; omega, by show _ ≤ 7293034; omega⟩ (fun r5 σ4 H locs hq hw => ?_)
  refine lv_istore (lv' := [(6, .int r5), (5, .int r2), (0, .ref b), (1, .ref (ka_a G (22, 0, 0))), (2, .ref (ka_a G (25, 0, 0))), (3, .ref G.2.2.2), (4, .int (nI i))]) hx hb dL_law_1410 hl (by decide) rfl (fun ls hl => ?_)
  refine lv_aload_n hx hb dL_law_1412 rfl (lv_at hl 4 rfl) ?_
  refine kl_Vi (k := (25, 0, 0)) (As := []) (rest := []) C0 hC hw hl (km_X9_thrown l hC.1 hq) kd_X9_thrown kq_1022 (kv_s (by decide) (by decide)) rfl rfl rfl ⟨rfl, rfl, Nat.le_of_ble_eq_true rfl, Nat.le_of_ble_eq_true rfl⟩ rfl (Nat.le_of_ble_eq_true rfl) dL_law_1413 ⟨by show _ ≤ 601024; omega, by show _ ≤ 7293034; omega⟩ (fun r7 σ6 H locs hq hw => ?_)
  refine lv_iload hx hb dL_law_1416 (lv_at hl 1 rfl) ?_
  refine lv_icmp_eq (tgt := 1423) hx hb dL_law_1418 (by decide) (fun hc => ?_) (fun hc => ?_)
  · have hq := hq.1 hc
    refine lv_iload hx hb dL_law_1423 (lv_at hl 1 rfl) ?_
    refine lv_if_ne (tgt := 1440) hx hb dL_law_1425 (by decide) (fun hc => ?_) (fun hc => ?_)
    · have hq := hq.2 hc
      refine lv_goto (tgt := 1961) hx hb dL_law_1440 (by decide) ?_
      exact W.widen (k := cells + 2) (n := slots + 12) (by omega) (by omega) (kx σ6 o3 H locs hq hw ls (lv_sub hl [2, 3, 4, 5, 6] rfl))
    · have hq := hq.1 hc
      refine lv_aload_n hx hb dL_law_1428 rfl (lv_at hl 5 rfl) ?_
      refine lv_iconst (v := 0) hx hb dL_law_1429 (by decide) ?_
      refine kl_lald C0 hC hw dL_law_1430 ?_
      refine lv_iload hx hb dL_law_1431 (lv_at hl 0 rfl) ?_
      refine lv_i2l hx hb dL_law_1433 rfl ?_
      refine kr_ceq (tgt := 1440) C0 dL_law_1434 dL_law_1435 (by decide) (fun hc => ?_) (fun hc => ?_)
      · have hq := hq.1 hc
        refine lv_goto (tgt := 1961) hx hb dL_law_1440 (by decide) ?_
        exact W.widen (k := cells + 2) (n := slots + 12) (by omega) (by omega) (kx σ6 o3 H locs hq hw ls (lv_sub hl [2, 3, 4, 5, 6] rfl))
      · have hq := hq.2 hc
        refine lv_iconst (v := 0) hx hb dL_law_1438 (by decide) ?_
        exact hq.elim
  · have hq := hq.2 hc
    refine lv_iconst (v := 0) hx hb dL_law_1421 (by decide) ?_
    exact hq.elim
def kl_c22 (σ : ka_S) (xs : Nat → Int32) (i : Nat) (o : Int64) (K : ka_S → Int64 → Prop) : Prop := kw_L_gap σ (xs (i + 1)) o (fun r2 σ1 o3 =>
  kw_X9_gap σ1 (xs (i + 1)) (fun r5 σ4 =>
  kw_X9_thrown σ4 (fun r7 σ6 =>
  (r7 = r2 → (r2 = (0 : Int32) → (o3 = (r5).toInt64 → K σ6 o3) ∧
      (¬ o3 = (r5).toInt64 → False)) ∧
    (¬ r2 = (0 : Int32) → K σ6 o3)) ∧
  (¬ r7 = r2 → False))))
set_option maxHeartbeats 4000000 in
set_option maxRecDepth 100000 in
theorem kl_t22 {p : Program} {l : Launch} {e : Env} {s : State} {m : MethodId} {below : List Frame} {meth : Method} {c : Code} {b L : Nat} {xs : Nat → Int32} {Z : State → Prop} {G : ka_G} (hl0 : l.stackTraces = false) (C0 : ka_C p s m #[.ref b] meth c cL_law 7 "GlossRowsLaw" (some .boolean)) (hC : kl_C G s) (hX : va_X b L xs s s.heap) (hbl : b < s.heap.size) (hL : L ≤ 2560) {i cells slots : Nat} (hi : i + 5 ≤ L) (hcl : cells + 2 ≤ 601024) (hsl : slots + 12 ≤ 7293034) {K : ka_S → Int64 → Prop}
    (kx : ∀ (σ : ka_S) (o : Int64) (H : Heap) (locs : List Loc), K σ o → kl_W G s σ o H locs → ∀ ls : Array Slot, lv_has ls 7 [(0, .ref b), (1, .ref (ka_a G (22, 0, 0))), (2, .ref (ka_a G (25, 0, 0))), (3, .ref G.2.2.2), (4, .int (nI i))] → W p l e room_1 s m #[.ref b] below meth c H locs (cells + 2) (slots + 12) Z (F0 m 1961 ls []))
    {σ : ka_S} {o : Int64} {H : Heap} {locs : List Loc} {ls : Array Slot} (hq : kl_c22 σ xs i o K) (hw : kl_W G s σ o H locs) (hl : lv_has ls 7 [(0, .ref b), (1, .ref (ka_a G (22, 0, 0))), (2, .ref (ka_a G (25, 0, 0))), (3, .ref G.2.2.2), (4, .int (nI i))]) : W p l e room_1 s m #[.ref b] below meth c H locs cells slots Z (F0 m 1443 ls []) := by
  obtain ⟨hx, hb, -, hml, hown, hts, -⟩ := id C0
  have hbA : ¬ ka_A9 G b := fun z => by have : G.2.2.1 ≤ b := z; rw [hC.2.2.2.2.1] at this; omega
  have hin1 := kl_ge (c := 1) hi hL (by decide)
  have hin2 := kl_ge (c := 2) hi hL (by decide)
  have hin3 := kl_ge (c := 3) hi hL (by decide)
  have hin4 := kl_ge (c := 4) hi hL (by decide)
  unfold kl_c22 at hq
  refine lv_aload_n hx hb dL_law_1443 rfl (lv_at hl 1 rfl) ?_
  refine lv_aload_n hx hb dL_law_1444 rfl (lv_at hl 0 rfl) ?_
  refine lv_iload hx hb dL_law_1445 (lv_at hl 4 rfl) ?_
  refine lv_iconst (v := 1) hx hb dL_law_1447 (by decide) ?_
  refine lv_iadd hx hb dL_law_1448 ?_
  refine va_sld hx hb hX hbl hbA hw.2.2.1 hin1.1 dL_law_1449 ?_
  rw [show (nI i + 1).toNatClampNeg = i + 1 from hin1.2]
  refine lv_aload_n hx hb dL_law_1450 rfl (lv_at hl 3 rfl) ?_
  refine kl_Si (n := 3) (As := [.ref (ka_a G (22, 0, 0)), .int (xs (i + 1)), .ref G.2.2.2]) (rest := []) C0 hC hw hl (km_L_gap l hl0 hC.1 hC.2.2.2.2.2 hq) kq_844 kq_845 kl_ini kl_L_gap (by decide +kernel) ⟨rfl, rfl, Nat.le_of_ble_eq_true rfl, Nat.le_of_ble_eq_true rfl⟩ rfl (Nat.le_of_ble_eq_true rfl) dL_law_1451 ⟨by show _ ≤ 601024; omega, by show _ ≤ 7293034; omega⟩ (fun r2 σ1 o3 H locs hq hw => ?_)
  refine lv_istore (lv' := [(5, .int r2), (0, .ref b), (1, .ref (ka_a G (22, 0, 0))), (2, .ref (ka_a G (25, 0, 0))), (3, .ref G.2.2.2), (4, .int (nI i))]) hx hb dL_law_1454 hl (by decide) rfl (fun ls hl => ?_)
  refine lv_aload_n hx hb dL_law_1456 rfl (lv_at hl 3 rfl) ?_
  refine lv_aload_n hx hb dL_law_1457 rfl (lv_at hl 1 rfl) ?_
  refine lv_iload hx hb dL_law_1458 (lv_at hl 5 rfl) ?_
  refine lv_iconst (v := 1) hx hb dL_law_1460 (by decide) ?_
  refine lv_iadd hx hb dL_law_1461 ?_
  refine va_sld hx hb hX hbl hbA hw.2.2.1 hin1.1 dL_law_1462 ?_
  rw [show (nI i + 1).toNatClampNeg = i + 1 from hin1.2]
  refine kl_Vi (k := (25, 0, 0)) (As := [.int (xs (i + 1))]) (rest := []) C0 hC hw hl (km_X9_gap l hC.1 hq) kd_X9_gap kq_1287 (kv_s (by decide) (by decide)) rfl rfl rfl ⟨rfl, rfl, Nat.le_of_ble_eq_true rfl, Nat.le_of_ble_eq_true rfl⟩ rfl (Nat.le_of_ble_eq_true rfl) dL_law_1463 ⟨by show _ ≤ 601024; omega, by show _ ≤ 7293034; omega⟩ (fun r5 σ4 H locs hq hw => ?_)
  refine lv_istore (lv' := [(6, .int r5), (5, .int r2), (0, .ref b), (1, .ref (ka_a G (22, 0, 0))), (2, .ref (ka_a G (25, 0, 0))), (3, .ref G.2.2.2), (4, .int (nI i))]) hx hb dL_law_1466 hl (by decide) rfl (fun ls hl => ?_)
  refine lv_aload_n hx hb dL_law_1468 rfl (lv_at hl 4 rfl) ?_
  refine kl_Vi (k := (25, 0, 0)) (As := []) (rest := []) C0 hC hw hl (km_X9_thrown l hC.1 hq) kd_X9_thrown kq_1022 (kv_s (by decide) (by decide)) rfl rfl rfl ⟨rfl, rfl, Nat.le_of_ble_eq_true rfl, Nat.le_of_ble_eq_true rfl⟩ rfl (Nat.le_of_ble_eq_true rfl) dL_law_1469 ⟨by show _ ≤ 601024; omega, by show _ ≤ 7293034; omega⟩ (fun r7 σ6 H locs hq hw => ?_)
  refine lv_iload hx hb dL_law_1472 (lv_at hl 1 rfl) ?_
  refine lv_icmp_eq (tgt := 1479) hx hb dL_law_1474 (by decide) (fun hc => ?_) (fun hc => ?_)
  · have hq := hq.1 hc
    refine lv_iload hx hb dL_law_1479 (lv_at hl 1 rfl) ?_
    refine lv_if_ne (tgt := 1496) hx hb dL_law_1481 (by decide) (fun hc => ?_) (fun hc => ?_)
    · have hq := hq.2 hc
      refine lv_goto (tgt := 1961) hx hb dL_law_1496 (by decide) ?_
      exact W.widen (k := cells + 2) (n := slots + 12) (by omega) (by omega) (kx σ6 o3 H locs hq hw ls (lv_sub hl [2, 3, 4, 5, 6] rfl))
    · have hq := hq.1 hc
      refine lv_aload_n hx hb dL_law_1484 rfl (lv_at hl 5 rfl) ?_
      refine lv_iconst (v := 0) hx hb dL_law_1485 (by decide) ?_
      refine kl_lald C0 hC hw dL_law_1486 ?_
      refine lv_iload hx hb dL_law_1487 (lv_at hl 0 rfl) ?_
      refine lv_i2l hx hb dL_law_1489 rfl ?_
      refine kr_ceq (tgt := 1496) C0 dL_law_1490 dL_law_1491 (by decide) (fun hc => ?_) (fun hc => ?_)
      · have hq := hq.1 hc
        refine lv_goto (tgt := 1961) hx hb dL_law_1496 (by decide) ?_
        exact W.widen (k := cells + 2) (n := slots + 12) (by omega) (by omega) (kx σ6 o3 H locs hq hw ls (lv_sub hl [2, 3, 4, 5, 6] rfl))
      · have hq := hq.2 hc
        refine lv_iconst (v := 0) hx hb dL_law_1494 (by decide) ?_
        exact hq.elim
  · have hq := hq.2 hc
    refine lv_iconst (v := 0) hx hb dL_law_1477 (by decide) ?_
    exact hq.elim
def kl_c23 (σ : ka_S) (xs : Nat → Int32) (i : Nat) (o : Int64) (K : ka_S → Int64 → Prop) : Prop := kw_X8_mostUsed σ (fun r2 σ1 =>
  kw_X9_mostUsed σ1 (fun r4 σ3 =>
  (r2 = r4 → K σ3 o) ∧
  (¬ r2 = r4 → False)))
set_option maxHeartbeats 4000000 in
set_option maxRecDepth 100000 in
theorem kl_t23 {p : Program} {l : Launch} {e : Env} {s : State} {m : MethodId} {below : List Frame} {meth : Method} {c : Code} {b L : Nat} {xs : Nat → Int32} {Z : State → Prop} {G : ka_G} (hl0 : l.stackTraces = false) (C0 : ka_C p s m #[.ref b] meth c cL_law 7 "GlossRowsLaw" (some .boolean)) (hC : kl_C G s) (hX : va_X b L xs s s.heap) (hbl : b < s.heap.size) (hL : L ≤ 2560) {i cells slots : Nat} (hi : i + 5 ≤ L) (hcl : cells + 2 ≤ 601024) (hsl : slots + 12 ≤ 7293034) {K : ka_S → Int64 → Prop}
    (kx : ∀ (σ : ka_S) (o : Int64) (H : Heap) (locs : List Loc), K σ o → kl_W G s σ o H locs → ∀ ls : Array Slot, lv_has ls 7 [(0, .ref b), (1, .ref (ka_a G (22, 0, 0))), (2, .ref (ka_a G (25, 0, 0))), (3, .ref G.2.2.2), (4, .int (nI i))] → W p l e room_1 s m #[.ref b] below meth c H locs (cells + 2) (slots + 12) Z (F0 m 1961 ls []))
    {σ : ka_S} {o : Int64} {H : Heap} {locs : List Loc} {ls : Array Slot} (hq : kl_c23 σ xs i o K) (hw : kl_W G s σ o H locs) (hl : lv_has ls 7 [(0, .ref b), (1, .ref (ka_a G (22, 0, 0))), (2, .ref (ka_a G (25, 0, 0))), (3, .ref G.2.2.2), (4, .int (nI i))]) : W p l e room_1 s m #[.ref b] below meth c H locs cells slots Z (F0 m 1499 ls []) := by
  obtain ⟨hx, hb, -, hml, hown, hts, -⟩ := id C0
  have hbA : ¬ ka_A9 G b := fun z => by have : G.2.2.1 ≤ b := z; rw [hC.2.2.2.2.1] at this; omega
  have hin1 := kl_ge (c := 1) hi hL (by decide)
  have hin2 := kl_ge (c := 2) hi hL (by decide)
  have hin3 := kl_ge (c := 3) hi hL (by decide)
  have hin4 := kl_ge (c := 4) hi hL (by decide)
  unfold kl_c23 at hq
  refine lv_aload_n hx hb dL_law_1499 rfl (lv_at hl 1 rfl) ?_
  refine kl_Vi (k := (22, 0, 0)) (As := []) (rest := []) C0 hC hw hl (km_X8_mostUsed l hC.1 hq) kd_X8_mostUsed kq_367 (kv_s (by decide) (by decide)) rfl rfl rfl ⟨rfl, rfl, Nat.le_of_ble_eq_true rfl, Nat.le_of_ble_eq_true rfl⟩ rfl (Nat.le_of_ble_eq_true rfl) dL_law_1500 ⟨by show _ ≤ 601024; omega, by show _ ≤ 7293034; omega⟩ (fun r2 σ1 H locs hq hw => ?_)
  refine lv_aload_n hx hb dL_law_1503 rfl (lv_at hl 2 rfl) ?_
  refine kl_Vi (k := (25, 0, 0)) (As := []) (rest := [.int r2]) C0 hC hw hl (km_X9_mostUsed l hC.1 hq) kd_X9_mostUsed kq_1291 (kv_s (by decide) (by decide)) rfl rfl rfl ⟨rfl, rfl, Nat.le_of_ble_eq_true rfl, Nat.le_of_ble_eq_true rfl⟩ rfl (Nat.le_of_ble_eq_true rfl) dL_law_1504 ⟨by show _ ≤ 601024; omega, by show _ ≤ 7293034; omega⟩ (fun r4 σ3 H locs hq hw => ?_)
  refine lv_icmp_eq (tgt := 1961) hx hb dL_law_1507 (by decide) (fun hc => ?_) (fun hc => ?_)
  · have hq := hq.1 hc
    exact W.widen (k := cells + 2) (n := slots + 12) (by omega) (by omega) (kx σ3 o H locs hq hw ls (lv_sub hl [0, 1, 2, 3, 4] rfl))
  · have hq := hq.2 hc
    refine lv_iconst (v := 0) hx hb dL_law_1510 (by decide) ?_
    exact hq.elim
def kl_c24 (σ : ka_S) (xs : Nat → Int32) (i : Nat) (o : Int64) (K : ka_S → Int64 → Prop) : Prop := kw_L_widthFor σ (xs (i + 1)) o (fun r2 σ1 o3 =>
  kw_X9_widthFor σ1 (xs (i + 1)) (fun r5 σ4 =>
  kw_X9_thrown σ4 (fun r7 σ6 =>
  (r7 = r2 → (r2 = (0 : Int32) → (o3 = (r5).toInt64 → K σ6 o3) ∧
      (¬ o3 = (r5).toInt64 → False)) ∧
    (¬ r2 = (0 : Int32) → K σ6 o3)) ∧
  (¬ r7 = r2 → False))))
set_option maxHeartbeats 4000000 in
set_option maxRecDepth 100000 in
theorem kl_t24 {p : Program} {l : Launch} {e : Env} {s : State} {m : MethodId} {below : List Frame} {meth : Method} {c : Code} {b L : Nat} {xs : Nat → Int32} {Z : State → Prop} {G : ka_G} (hl0 : l.stackTraces = false) (C0 : ka_C p s m #[.ref b] meth c cL_law 7 "GlossRowsLaw" (some .boolean)) (hC : kl_C G s) (hX : va_X b L xs s s.heap) (hbl : b < s.heap.size) (hL : L ≤ 2560) {i cells slots : Nat} (hi : i + 5 ≤ L) (hcl : cells + 2 ≤ 601024) (hsl : slots + 12 ≤ 7293034) {K : ka_S → Int64 → Prop}
    (kx : ∀ (σ : ka_S) (o : Int64) (H : Heap) (locs : List Loc), K σ o → kl_W G s σ o H locs → ∀ ls : Array Slot, lv_has ls 7 [(0, .ref b), (1, .ref (ka_a G (22, 0, 0))), (2, .ref (ka_a G (25, 0, 0))), (3, .ref G.2.2.2), (4, .int (nI i))] → W p l e room_1 s m #[.ref b] below meth c H locs (cells + 2) (slots + 12) Z (F0 m 1961 ls []))
    {σ : ka_S} {o : Int64} {H : Heap} {locs : List Loc} {ls : Array Slot} (hq : kl_c24 σ xs i o K) (hw : kl_W G s σ o H locs) (hl : lv_has ls 7 [(0, .ref b), (1, .ref (ka_a G (22, 0, 0))), (2, .ref (ka_a G (25, 0, 0))), (3, .ref G.2.2.2), (4, .int (nI i))]) : W p l e room_1 s m #[.ref b] below meth c H locs cells slots Z (F0 m 1512 ls []) := by
  obtain ⟨hx, hb, -, hml, hown, hts, -⟩ := id C0
  have hbA : ¬ ka_A9 G b := fun z => by have : G.2.2.1 ≤ b := z; rw [hC.2.2.2.2.1] at this; omega
  have hin1 := kl_ge (c := 1) hi hL (by decide)
  have hin2 := kl_ge (c := 2) hi hL (by decide)
  have hin3 := kl_ge (c := 3) hi hL (by decide)
  have hin4 := kl_ge (c := 4) hi hL (by decide)
  unfold kl_c24 at hq
  refine lv_aload_n hx hb dL_law_1512 rfl (lv_at hl 1 rfl) ?_
  refine lv_aload_n hx hb dL_law_1513 rfl (lv_at hl 0 rfl) ?_
  refine lv_iload hx hb dL_law_1514 (lv_at hl 4 rfl) ?_
  refine lv_iconst (v := 1) hx hb dL_law_1516 (by decide) ?_
  refine lv_iadd hx hb dL_law_1517 ?_
  refine va_sld hx hb hX hbl hbA hw.2.2.1 hin1.1 dL_law_1518 ?_
  rw [show (nI i + 1).toNatClampNeg = i + 1 from hin1.2]
  refine lv_aload_n hx hb dL_law_1519 rfl (lv_at hl 3 rfl) ?_
  refine kl_Si (n := 3) (As := [.ref (ka_a G (22, 0, 0)), .int (xs (i + 1)), .ref G.2.2.2]) (rest := []) C0 hC hw hl (km_L_widthFor l hl0 hC.1 hC.2.2.2.2.2 hq) kq_855 kq_856 kl_ini kl_L_widthFor (by decide +kernel) ⟨rfl, rfl, Nat.le_of_ble_eq_true rfl, Nat.le_of_ble_eq_true rfl⟩ rfl (Nat.le_of_ble_eq_true rfl) dL_law_1520 ⟨by show _ ≤ 601024; omega, by show _ ≤ 7293034; omega⟩ (fun r2 σ1 o3 H locs hq hw => ?_)
  refine lv_istore (lv' := [(5, .int r2), (0, .ref b), (1, .ref (ka_a G (22, 0, 0))), (2, .ref (ka_a G (25, 0, 0))), (3, .ref G.2.2.2), (4, .int (nI i))]) hx hb dL_law_1523 hl (by decide) rfl (fun ls hl => ?_)
  refine lv_aload_n hx hb dL_law_1525 rfl (lv_at hl 3 rfl) ?_
  refine lv_aload_n hx hb dL_law_1526 rfl (lv_at hl 1 rfl) ?_
  refine lv_iload hx hb dL_law_1527 (lv_at hl 5 rfl) ?_
  refine lv_iconst (v := 1) hx hb dL_law_1529 (by decide) ?_
  refine lv_iadd hx hb dL_law_1530 ?_
  refine va_sld hx hb hX hbl hbA hw.2.2.1 hin1.1 dL_law_1531 ?_
  rw [show (nI i + 1).toNatClampNeg = i + 1 from hin1.2]
  refine kl_Vi (k := (25, 0, 0)) (As := [.int (xs (i + 1))]) (rest := []) C0 hC hw hl (km_X9_widthFor l hC.1 hq) kd_X9_widthFor kq_1299 (kv_s (by decide) (by decide)) rfl rfl rfl ⟨rfl, rfl, Nat.le_of_ble_eq_true rfl, Nat.le_of_ble_eq_true rfl⟩ rfl (Nat.le_of_ble_eq_true rfl) dL_law_1532 ⟨by show _ ≤ 601024; omega, by show _ ≤ 7293034; omega⟩ (fun r5 σ4 H locs hq hw => ?_)
  refine lv_istore (lv' := [(6, .int r5), (5, .int r2), (0, .ref b), (1, .ref (ka_a G (22, 0, 0))), (2, .ref (ka_a G (25, 0, 0))), (3, .ref G.2.2.2), (4, .int (nI i))]) hx hb dL_law_1535 hl (by decide) rfl (fun ls hl => ?_)
  refine lv_aload_n hx hb dL_law_1537 rfl (lv_at hl 4 rfl) ?_
  refine kl_Vi (k := (25, 0, 0)) (As := []) (rest := []) C0 hC hw hl (km_X9_thrown l hC.1 hq) kd_X9_thrown kq_1022 (kv_s (by decide) (by decide)) rfl rfl rfl ⟨rfl, rfl, Nat.le_of_ble_eq_true rfl, Nat.le_of_ble_eq_true rfl⟩ rfl (Nat.le_of_ble_eq_true rfl) dL_law_1538 ⟨by show _ ≤ 601024; omega, by show _ ≤ 7293034; omega⟩ (fun r7 σ6 H locs hq hw => ?_)
  refine lv_iload hx hb dL_law_1541 (lv_at hl 1 rfl) ?_
  refine lv_icmp_eq (tgt := 1548) hx hb dL_law_1543 (by decide) (fun hc => ?_) (fun hc => ?_)
  · have hq := hq.1 hc
    refine lv_iload hx hb dL_law_1548 (lv_at hl 1 rfl) ?_
    refine lv_if_ne (tgt := 1565) hx hb dL_law_1550 (by decide) (fun hc => ?_) (fun hc => ?_)
    · have hq := hq.2 hc
      refine lv_goto (tgt := 1961) hx hb dL_law_1565 (by decide) ?_
      exact W.widen (k := cells + 2) (n := slots + 12) (by omega) (by omega) (kx σ6 o3 H locs hq hw ls (lv_sub hl [2, 3, 4, 5, 6] rfl))
    · have hq := hq.1 hc
      refine lv_aload_n hx hb dL_law_1553 rfl (lv_at hl 5 rfl) ?_
      refine lv_iconst (v := 0) hx hb dL_law_1554 (by decide) ?_
      refine kl_lald C0 hC hw dL_law_1555 ?_
      refine lv_iload hx hb dL_law_1556 (lv_at hl 0 rfl) ?_
      refine lv_i2l hx hb dL_law_1558 rfl ?_
      refine kr_ceq (tgt := 1565) C0 dL_law_1559 dL_law_1560 (by decide) (fun hc => ?_) (fun hc => ?_)
      · have hq := hq.1 hc
        refine lv_goto (tgt := 1961) hx hb dL_law_1565 (by decide) ?_
        exact W.widen (k := cells + 2) (n := slots + 12) (by omega) (by omega) (kx σ6 o3 H locs hq hw ls (lv_sub hl [2, 3, 4, 5, 6] rfl))
      · have hq := hq.2 hc
        refine lv_iconst (v := 0) hx hb dL_law_1563 (by decide) ?_
        exact hq.elim
  · have hq := hq.2 hc
    refine lv_iconst (v := 0) hx hb dL_law_1546 (by decide) ?_
    exact hq.elim
def kl_c25 (σ : ka_S) (xs : Nat → Int32) (i : Nat) (o : Int64) (K : ka_S → Int64 → Prop) : Prop := kw_X8_empty σ (fun r2 σ1 =>
  kw_X9_empty σ1 (fun r4 σ3 =>
  (r2 = r4 → K σ3 o) ∧
  (¬ r2 = r4 → False)))
set_option maxHeartbeats 4000000 in
set_option maxRecDepth 100000 in
theorem kl_t25 {p : Program} {l : Launch} {e : Env} {s : State} {m : MethodId} {below : List Frame} {meth : Method} {c : Code} {b L : Nat} {xs : Nat → Int32} {Z : State → Prop} {G : ka_G} (hl0 : l.stackTraces = false) (C0 : ka_C p s m #[.ref b] meth c cL_law 7 "GlossRowsLaw" (some .boolean)) (hC : kl_C G s) (hX : va_X b L xs s s.heap) (hbl : b < s.heap.size) (hL : L ≤ 2560) {i cells slots : Nat} (hi : i + 5 ≤ L) (hcl : cells + 2 ≤ 601024) (hsl : slots + 12 ≤ 7293034) {K : ka_S → Int64 → Prop}
    (kx : ∀ (σ : ka_S) (o : Int64) (H : Heap) (locs : List Loc), K σ o → kl_W G s σ o H locs → ∀ ls : Array Slot, lv_has ls 7 [(0, .ref b), (1, .ref (ka_a G (22, 0, 0))), (2, .ref (ka_a G (25, 0, 0))), (3, .ref G.2.2.2), (4, .int (nI i))] → W p l e room_1 s m #[.ref b] below meth c H locs (cells + 2) (slots + 12) Z (F0 m 1961 ls []))
    {σ : ka_S} {o : Int64} {H : Heap} {locs : List Loc} {ls : Array Slot} (hq : kl_c25 σ xs i o K) (hw : kl_W G s σ o H locs) (hl : lv_has ls 7 [(0, .ref b), (1, .ref (ka_a G (22, 0, 0))), (2, .ref (ka_a G (25, 0, 0))), (3, .ref G.2.2.2), (4, .int (nI i))]) : W p l e room_1 s m #[.ref b] below meth c H locs cells slots Z (F0 m 1568 ls []) := by
  obtain ⟨hx, hb, -, hml, hown, hts, -⟩ := id C0
  have hbA : ¬ ka_A9 G b := fun z => by have : G.2.2.1 ≤ b := z; rw [hC.2.2.2.2.1] at this; omega
  have hin1 := kl_ge (c := 1) hi hL (by decide)
  have hin2 := kl_ge (c := 2) hi hL (by decide)
  have hin3 := kl_ge (c := 3) hi hL (by decide)
  have hin4 := kl_ge (c := 4) hi hL (by decide)
  unfold kl_c25 at hq
  refine lv_aload_n hx hb dL_law_1568 rfl (lv_at hl 1 rfl) ?_
  refine kl_Vi (k := (22, 0, 0)) (As := []) (rest := []) C0 hC hw hl (km_X8_empty l hC.1 hq) kd_X8_empty kq_379 (kv_s (by decide) (by decide)) rfl rfl rfl ⟨rfl, rfl, Nat.le_of_ble_eq_true rfl, Nat.le_of_ble_eq_true rfl⟩ rfl (Nat.le_of_ble_eq_true rfl) dL_law_1569 ⟨by show _ ≤ 601024; omega, by show _ ≤ 7293034; omega⟩ (fun r2 σ1 H locs hq hw => ?_)
  refine lv_aload_n hx hb dL_law_1572 rfl (lv_at hl 2 rfl) ?_
  refine kl_Vi (k := (25, 0, 0)) (As := []) (rest := [.int r2]) C0 hC hw hl (km_X9_empty l hC.1 hq) kd_X9_empty kq_1304 (kv_s (by decide) (by decide)) rfl rfl rfl ⟨rfl, rfl, Nat.le_of_ble_eq_true rfl, Nat.le_of_ble_eq_true rfl⟩ rfl (Nat.le_of_ble_eq_true rfl) dL_law_1573 ⟨by show _ ≤ 601024; omega, by show _ ≤ 7293034; omega⟩ (fun r4 σ3 H locs hq hw => ?_)
  refine lv_icmp_eq (tgt := 1961) hx hb dL_law_1576 (by decide) (fun hc => ?_) (fun hc => ?_)
  · have hq := hq.1 hc
    exact W.widen (k := cells + 2) (n := slots + 12) (by omega) (by omega) (kx σ3 o H locs hq hw ls (lv_sub hl [0, 1, 2, 3, 4] rfl))
  · have hq := hq.2 hc
    refine lv_iconst (v := 0) hx hb dL_law_1579 (by decide) ?_
    exact hq.elim
def kl_c26 (σ : ka_S) (xs : Nat → Int32) (i : Nat) (o : Int64) (K : ka_S → Int64 → Prop) : Prop := kw_L_rowsWith σ (xs (i + 1)) (xs (i + 2)) o (fun r2 σ1 o3 =>
  kw_X9_rowsWith σ1 (xs (i + 1)) (xs (i + 2)) (fun r5 σ4 =>
  kw_X9_thrown σ4 (fun r7 σ6 =>
  (r7 = r2 → (r2 = (0 : Int32) → (o3 = (r5).toInt64 → K σ6 o3) ∧
      (¬ o3 = (r5).toInt64 → False)) ∧
    (¬ r2 = (0 : Int32) → K σ6 o3)) ∧
  (¬ r7 = r2 → False))))
set_option maxHeartbeats 4000000 in
set_option maxRecDepth 100000 in
theorem kl_t26 {p : Program} {l : Launch} {e : Env} {s : State} {m : MethodId} {below : List Frame} {meth : Method} {c : Code} {b L : Nat} {xs : Nat → Int32} {Z : State → Prop} {G : ka_G} (hl0 : l.stackTraces = false) (C0 : ka_C p s m #[.ref b] meth c cL_law 7 "GlossRowsLaw" (some .boolean)) (hC : kl_C G s) (hX : va_X b L xs s s.heap) (hbl : b < s.heap.size) (hL : L ≤ 2560) {i cells slots : Nat} (hi : i + 5 ≤ L) (hcl : cells + 2 ≤ 601024) (hsl : slots + 12 ≤ 7293034) {K : ka_S → Int64 → Prop}
    (kx : ∀ (σ : ka_S) (o : Int64) (H : Heap) (locs : List Loc), K σ o → kl_W G s σ o H locs → ∀ ls : Array Slot, lv_has ls 7 [(0, .ref b), (1, .ref (ka_a G (22, 0, 0))), (2, .ref (ka_a G (25, 0, 0))), (3, .ref G.2.2.2), (4, .int (nI i))] → W p l e room_1 s m #[.ref b] below meth c H locs (cells + 2) (slots + 12) Z (F0 m 1961 ls []))
    {σ : ka_S} {o : Int64} {H : Heap} {locs : List Loc} {ls : Array Slot} (hq : kl_c26 σ xs i o K) (hw : kl_W G s σ o H locs) (hl : lv_has ls 7 [(0, .ref b), (1, .ref (ka_a G (22, 0, 0))), (2, .ref (ka_a G (25, 0, 0))), (3, .ref G.2.2.2), (4, .int (nI i))]) : W p l e room_1 s m #[.ref b] below meth c H locs cells slots Z (F0 m 1581 ls []) := by
  obtain ⟨hx, hb, -, hml, hown, hts, -⟩ := id C0
  have hbA : ¬ ka_A9 G b := fun z => by have : G.2.2.1 ≤ b := z; rw [hC.2.2.2.2.1] at this; omega
  have hin1 := kl_ge (c := 1) hi hL (by decide)
  have hin2 := kl_ge (c := 2) hi hL (by decide)
  have hin3 := kl_ge (c := 3) hi hL (by decide)
  have hin4 := kl_ge (c := 4) hi hL (by decide)
  unfold kl_c26 at hq
  refine lv_aload_n hx hb dL_law_1581 rfl (lv_at hl 1 rfl) ?_
  refine lv_aload_n hx hb dL_law_1582 rfl (lv_at hl 0 rfl) ?_
  refine lv_iload hx hb dL_law_1583 (lv_at hl 4 rfl) ?_
  refine lv_iconst (v := 1) hx hb dL_law_1585 (by decide) ?_
  refine lv_iadd hx hb dL_law_1586 ?_
  refine va_sld hx hb hX hbl hbA hw.2.2.1 hin1.1 dL_law_1587 ?_
  rw [show (nI i + 1).toNatClampNeg = i + 1 from hin1.2]
  refine lv_aload_n hx hb dL_law_1588 rfl (lv_at hl 0 rfl) ?_
  refine lv_iload hx hb dL_law_1589 (lv_at hl 4 rfl) ?_
  refine lv_iconst (v := 2) hx hb dL_law_1591 (by decide) ?_
  refine lv_iadd hx hb dL_law_1592 ?_
  refine va_sld hx hb hX hbl hbA hw.2.2.1 hin2.1 dL_law_1593 ?_
  rw [show (nI i + 2).toNatClampNeg = i + 2 from hin2.2]
  refine lv_aload_n hx hb dL_law_1594 rfl (lv_at hl 3 rfl) ?_
  refine kl_Si (n := 4) (As := [.ref (ka_a G (22, 0, 0)), .int (xs (i + 1)), .int (xs (i + 2)), .ref G.2.2.2]) (rest := []) C0 hC hw hl (km_L_rowsWith l hl0 hC.1 hC.2.2.2.2.2 hq) kq_863 kq_864 kl_ini kl_L_rowsWith (by decide +kernel) ⟨rfl, rfl, Nat.le_of_ble_eq_true rfl, Nat.le_of_ble_eq_true rfl⟩ rfl (Nat.le_of_ble_eq_true rfl) dL_law_1595 ⟨by show _ ≤ 601024; omega, by show _ ≤ 7293034; omega⟩ (fun r2 σ1 o3 H locs hq hw => ?_)
  refine lv_istore (lv' := [(5, .int r2), (0, .ref b), (1, .ref (ka_a G (22, 0, 0))), (2, .ref (ka_a G (25, 0, 0))), (3, .ref G.2.2.2), (4, .int (nI i))]) hx hb dL_law_1598 hl (by decide) rfl (fun ls hl => ?_)
  refine lv_aload_n hx hb dL_law_1600 rfl (lv_at hl 3 rfl) ?_
  refine lv_aload_n hx hb dL_law_1601 rfl (lv_at hl 1 rfl) ?_
  refine lv_iload hx hb dL_law_1602 (lv_at hl 5 rfl) ?_
  refine lv_iconst (v := 1) hx hb dL_law_1604 (by decide) ?_
  refine lv_iadd hx hb dL_law_1605 ?_
  refine va_sld hx hb hX hbl hbA hw.2.2.1 hin1.1 dL_law_1606 ?_
  rw [show (nI i + 1).toNatClampNeg = i + 1 from hin1.2]
  refine lv_aload_n hx hb dL_law_1607 rfl (lv_at hl 1 rfl) ?_
  refine lv_iload hx hb dL_law_1608 (lv_at hl 5 rfl) ?_
  refine lv_iconst (v := 2) hx hb dL_law_1610 (by decide) ?_
  refine lv_iadd hx hb dL_law_1611 ?_
  refine va_sld hx hb hX hbl hbA hw.2.2.1 hin2.1 dL_law_1612 ?_
  rw [show (nI i + 2).toNatClampNeg = i + 2 from hin2.2]
  refine kl_Vi (k := (25, 0, 0)) (As := [.int (xs (i + 1)), .int (xs (i + 2))]) (rest := []) C0 hC hw hl (km_X9_rowsWith l hC.1 hq) kd_X9_rowsWith kq_1308 (kv_s (by decide) (by decide)) rfl rfl rfl ⟨rfl, rfl, Nat.le_of_ble_eq_true rfl, Nat.le_of_ble_eq_true rfl⟩ rfl (Nat.le_of_ble_eq_true rfl) dL_law_1613 ⟨by show _ ≤ 601024; omega, by show _ ≤ 7293034; omega⟩ (fun r5 σ4 H locs hq hw => ?_)
  refine lv_istore (lv' := [(6, .int r5), (5, .int r2), (0, .ref b), (1, .ref (ka_a G (22, 0, 0))), (2, .ref (ka_a G (25, 0, 0))), (3, .ref G.2.2.2), (4, .int (nI i))]) hx hb dL_law_1616 hl (by decide) rfl (fun ls hl => ?_)
  refine lv_aload_n hx hb dL_law_1618 rfl (lv_at hl 4 rfl) ?_
  refine kl_Vi (k := (25, 0, 0)) (As := []) (rest := []) C0 hC hw hl (km_X9_thrown l hC.1 hq) kd_X9_thrown kq_1022 (kv_s (by decide) (by decide)) rfl rfl rfl ⟨rfl, rfl, Nat.le_of_ble_eq_true rfl, Nat.le_of_ble_eq_true rfl⟩ rfl (Nat.le_of_ble_eq_true rfl) dL_law_1619 ⟨by show _ ≤ 601024; omega, by show _ ≤ 7293034; omega⟩ (fun r7 σ6 H locs hq hw => ?_)
  refine lv_iload hx hb dL_law_1622 (lv_at hl 1 rfl) ?_
  refine lv_icmp_eq (tgt := 1629) hx hb dL_law_1624 (by decide) (fun hc => ?_) (fun hc => ?_)
  · have hq := hq.1 hc
    refine lv_iload hx hb dL_law_1629 (lv_at hl 1 rfl) ?_
    refine lv_if_ne (tgt := 1646) hx hb dL_law_1631 (by decide) (fun hc => ?_) (fun hc => ?_)
    · have hq := hq.2 hc
      refine lv_goto (tgt := 1961) hx hb dL_law_1646 (by decide) ?_
      exact W.widen (k := cells + 2) (n := slots + 12) (by omega) (by omega) (kx σ6 o3 H locs hq hw ls (lv_sub hl [2, 3, 4, 5, 6] rfl))
    · have hq := hq.1 hc
      refine lv_aload_n hx hb dL_law_1634 rfl (lv_at hl 5 rfl) ?_
      refine lv_iconst (v := 0) hx hb dL_law_1635 (by decide) ?_
      refine kl_lald C0 hC hw dL_law_1636 ?_
      refine lv_iload hx hb dL_law_1637 (lv_at hl 0 rfl) ?_
      refine lv_i2l hx hb dL_law_1639 rfl ?_
      refine kr_ceq (tgt := 1646) C0 dL_law_1640 dL_law_1641 (by decide) (fun hc => ?_) (fun hc => ?_)
      · have hq := hq.1 hc
        refine lv_goto (tgt := 1961) hx hb dL_law_1646 (by decide) ?_
        exact W.widen (k := cells + 2) (n := slots + 12) (by omega) (by omega) (kx σ6 o3 H locs hq hw ls (lv_sub hl [2, 3, 4, 5, 6] rfl))
      · have hq := hq.2 hc
        refine lv_iconst (v := 0) hx hb dL_law_1644 (by decide) ?_
        exact hq.elim
  · have hq := hq.2 hc
    refine lv_iconst (v := 0) hx hb dL_law_1627 (by decide) ?_
    exact hq.elim
def kl_c27 (σ : ka_S) (xs : Nat → Int32) (i : Nat) (o : Int64) (K : ka_S → Int64 → Prop) : Prop := kw_L_runScript σ (xs (i + 1)) (((xs (i + 2)).toInt64 <<< ((32 : Int32).toInt64 &&& 63)) ||| ((xs (i + 3)).toInt64 &&& (4294967295 : Int64))) o (fun r2 σ1 o3 =>
  kw_X9_runScript σ1 (xs (i + 1)) (((xs (i + 2)).toInt64 <<< ((32 : Int32).toInt64 &&& 63)) ||| ((xs (i + 3)).toInt64 &&& (4294967295 : Int64))) (fun r5 σ4 =>
  kw_X9_thrown σ4 (fun r7 σ6 =>
  (r7 = r2 → (r2 = (0 : Int32) → (o3 = (r5).toInt64 → K σ6 o3) ∧
      (¬ o3 = (r5).toInt64 → False)) ∧
    (¬ r2 = (0 : Int32) → K σ6 o3)) ∧
  (¬ r7 = r2 → False))))
set_option maxHeartbeats 4000000 in
set_option maxRecDepth 100000 in
theorem kl_t27 {p : Program} {l : Launch} {e : Env} {s : State} {m : MethodId} {below : List Frame} {meth : Method} {c : Code} {b L : Nat} {xs : Nat → Int32} {Z : State → Prop} {G : ka_G} (hl0 : l.stackTraces = false) (C0 : ka_C p s m #[.ref b] meth c cL_law 7 "GlossRowsLaw" (some .boolean)) (hC : kl_C G s) (hX : va_X b L xs s s.heap) (hbl : b < s.heap.size) (hL : L ≤ 2560) {i cells slots : Nat} (hi : i + 5 ≤ L) (hcl : cells + 2 ≤ 601024) (hsl : slots + 12 ≤ 7293034) {K : ka_S → Int64 → Prop}
    (kx : ∀ (σ : ka_S) (o : Int64) (H : Heap) (locs : List Loc), K σ o → kl_W G s σ o H locs → ∀ ls : Array Slot, lv_has ls 7 [(0, .ref b), (1, .ref (ka_a G (22, 0, 0))), (2, .ref (ka_a G (25, 0, 0))), (3, .ref G.2.2.2), (4, .int (nI i))] → W p l e room_1 s m #[.ref b] below meth c H locs (cells + 2) (slots + 12) Z (F0 m 1961 ls []))
    {σ : ka_S} {o : Int64} {H : Heap} {locs : List Loc} {ls : Array Slot} (hq : kl_c27 σ xs i o K) (hw : kl_W G s σ o H locs) (hl : lv_has ls 7 [(0, .ref b), (1, .ref (ka_a G (22, 0, 0))), (2, .ref (ka_a G (25, 0, 0))), (3, .ref G.2.2.2), (4, .int (nI i))]) : W p l e room_1 s m #[.ref b] below meth c H locs cells slots Z (F0 m 1649 ls []) := by
  obtain ⟨hx, hb, -, hml, hown, hts, -⟩ := id C0
  have hbA : ¬ ka_A9 G b := fun z => by have : G.2.2.1 ≤ b := z; rw [hC.2.2.2.2.1] at this; omega
  have hin1 := kl_ge (c := 1) hi hL (by decide)
  have hin2 := kl_ge (c := 2) hi hL (by decide)
  have hin3 := kl_ge (c := 3) hi hL (by decide)
  have hin4 := kl_ge (c := 4) hi hL (by decide)
  unfold kl_c27 at hq
  refine lv_aload_n hx hb dL_law_1649 rfl (lv_at hl 1 rfl) ?_
  refine lv_aload_n hx hb dL_law_1650 rfl (lv_at hl 0 rfl) ?_
  refine lv_iload hx hb dL_law_1651 (lv_at hl 4 rfl) ?_
  refine lv_iconst (v := 1) hx hb dL_law_1653 (by decide) ?_
  refine lv_iadd hx hb dL_law_1654 ?_
  refine va_sld hx hb hX hbl hbA hw.2.2.1 hin1.1 dL_law_1655 ?_
  rw [show (nI i + 1).toNatClampNeg = i + 1 from hin1.2]
  refine lv_aload_n hx hb dL_law_1656 rfl (lv_at hl 0 rfl) ?_
  refine lv_iload hx hb dL_law_1657 (lv_at hl 4 rfl) ?_
  refine lv_iconst (v := 2) hx hb dL_law_1659 (by decide) ?_
  refine lv_iadd hx hb dL_law_1660 ?_
  refine va_sld hx hb hX hbl hbA hw.2.2.1 hin2.1 dL_law_1661 ?_
  rw [show (nI i + 2).toNatClampNeg = i + 2 from hin2.2]
  refine lv_i2l hx hb dL_law_1662 rfl ?_
  refine lv_bipush (v := 32) hx hb dL_law_1663 (by decide) ?_
  refine lv_lshl hx hb dL_law_1665 rfl ?_
  refine lv_aload_n hx hb dL_law_1666 rfl (lv_at hl 0 rfl) ?_
  refine lv_iload hx hb dL_law_1667 (lv_at hl 4 rfl) ?_
  refine lv_iconst (v := 3) hx hb dL_law_1669 (by decide) ?_
  refine lv_iadd hx hb dL_law_1670 ?_
  refine va_sld hx hb hX hbl hbA hw.2.2.1 hin3.1 dL_law_1671 ?_
  rw [show (nI i + 3).toNatClampNeg = i + 3 from hin3.2]
  refine lv_i2l hx hb dL_law_1672 rfl ?_
  refine lv_ldc2 hx hb hown (hts _ kq_1347) dL_law_1673 ?_
  refine lv_land hx hb dL_law_1676 ?_
  refine lv_lor hx hb dL_law_1677 ?_
  refine lv_aload_n hx hb dL_law_1678 rfl (lv_at hl 3 rfl) ?_
  refine kl_Si (n := 4) (As := [.ref (ka_a G (22, 0, 0)), .int (xs (i + 1)), .long (((xs (i + 2)).toInt64 <<< ((32 : Int32).toInt64 &&& 63)) ||| ((xs (i + 3)).toInt64 &&& (4294967295 : Int64))), .ref G.2.2.2]) (rest := []) C0 hC hw hl (km_L_runScript l hl0 hC.1 hC.2.2.2.2.2 hq) kq_871 kq_872 kl_ini kl_L_runScript (by decide +kernel) ⟨rfl, rfl, Nat.le_of_ble_eq_true rfl, Nat.le_of_ble_eq_true rfl⟩ rfl (Nat.le_of_ble_eq_true rfl) dL_law_1679 ⟨by show _ ≤ 601024; omega, by show _ ≤ 7293034; omega⟩ (fun r2 σ1 o3 H locs hq hw => ?_)
  refine lv_istore (lv' := [(5, .int r2), (0, .ref b), (1, .ref (ka_a G (22, 0, 0))), (2, .ref (ka_a G (25, 0, 0))), (3, .ref G.2.2.2), (4, .int (nI i))]) hx hb dL_law_1682 hl (by decide) rfl (fun ls hl => ?_)
  refine lv_aload_n hx hb dL_law_1684 rfl (lv_at hl 3 rfl) ?_
  refine lv_aload_n hx hb dL_law_1685 rfl (lv_at hl 1 rfl) ?_
  refine lv_iload hx hb dL_law_1686 (lv_at hl 5 rfl) ?_
  refine lv_iconst (v := 1) hx hb dL_law_1688 (by decide) ?_
  refine lv_iadd hx hb dL_law_1689 ?_
  refine va_sld hx hb hX hbl hbA hw.2.2.1 hin1.1 dL_law_1690 ?_
  rw [show (nI i + 1).toNatClampNeg = i + 1 from hin1.2]
  refine lv_aload_n hx hb dL_law_1691 rfl (lv_at hl 1 rfl) ?_
  refine lv_iload hx hb dL_law_1692 (lv_at hl 5 rfl) ?_
  refine lv_iconst (v := 2) hx hb dL_law_1694 (by decide) ?_
  refine lv_iadd hx hb dL_law_1695 ?_
  refine va_sld hx hb hX hbl hbA hw.2.2.1 hin2.1 dL_law_1696 ?_
  rw [show (nI i + 2).toNatClampNeg = i + 2 from hin2.2]
  refine lv_i2l hx hb dL_law_1697 rfl ?_
  refine lv_bipush (v := 32) hx hb dL_law_1698 (by decide) ?_
  refine lv_lshl hx hb dL_law_1700 rfl ?_
  refine lv_aload_n hx hb dL_law_1701 rfl (lv_at hl 1 rfl) ?_
  refine lv_iload hx hb dL_law_1702 (lv_at hl 5 rfl) ?_
  refine lv_iconst (v := 3) hx hb dL_law_1704 (by decide) ?_
  refine lv_iadd hx hb dL_law_1705 ?_
  refine va_sld hx hb hX hbl hbA hw.2.2.1 hin3.1 dL_law_1706 ?_
  rw [show (nI i + 3).toNatClampNeg = i + 3 from hin3.2]
  refine lv_i2l hx hb dL_law_1707 rfl ?_
  refine lv_ldc2 hx hb hown (hts _ kq_1347) dL_law_1708 ?_
  refine lv_land hx hb dL_law_1711 ?_
  refine lv_lor hx hb dL_law_1712 ?_
  refine kl_Vi (k := (25, 0, 0)) (As := [.int (xs (i + 1)), .long (((xs (i + 2)).toInt64 <<< ((32 : Int32).toInt64 &&& 63)) ||| ((xs (i + 3)).toInt64 &&& (4294967295 : Int64)))]) (rest := []) C0 hC hw hl (km_X9_runScript l hC.1 hq) kd_X9_runScript kq_1312 (kv_s (by decide) (by decide)) rfl rfl rfl ⟨rfl, rfl, Nat.le_of_ble_eq_true rfl, Nat.le_of_ble_eq_true rfl⟩ rfl (Nat.le_of_ble_eq_true rfl) dL_law_1713 ⟨by show _ ≤ 601024; omega, by show _ ≤ 7293034; omega⟩ (fun r5 σ4 H locs hq hw => ?_)
  refine lv_istore (lv' := [(6, .int r5), (5, .int r2), (0, .ref b), (1, .ref (ka_a G (22, 0, 0))), (2, .ref (ka_a G (25, 0, 0))), (3, .ref G.2.2.2), (4, .int (nI i))]) hx hb dL_law_1716 hl (by decide) rfl (fun ls hl => ?_)
  refine lv_aload_n hx hb dL_law_1718 rfl (lv_at hl 4 rfl) ?_
  refine kl_Vi (k := (25, 0, 0)) (As := []) (rest := []) C0 hC hw hl (km_X9_thrown l hC.1 hq) kd_X9_thrown kq_1022 (kv_s (by decide) (by decide)) rfl rfl rfl ⟨rfl, rfl, Nat.le_of_ble_eq_true rfl, Nat.le_of_ble_eq_true rfl⟩ rfl (Nat.le_of_ble_eq_true rfl) dL_law_1719 ⟨by show _ ≤ 601024; omega, by show _ ≤ 7293034; omega⟩ (fun r7 σ6 H locs hq hw => ?_)
  refine lv_iload hx hb dL_law_1722 (lv_at hl 1 rfl) ?_
  refine lv_icmp_eq (tgt := 1729) hx hb dL_law_1724 (by decide) (fun hc => ?_) (fun hc => ?_)
  · have hq := hq.1 hc
    refine lv_iload hx hb dL_law_1729 (lv_at hl 1 rfl) ?_
    refine lv_if_ne (tgt := 1746) hx hb dL_law_1731 (by decide) (fun hc => ?_) (fun hc => ?_)
    · have hq := hq.2 hc
      refine lv_goto (tgt := 1961) hx hb dL_law_1746 (by decide) ?_
      exact W.widen (k := cells + 2) (n := slots + 12) (by omega) (by omega) (kx σ6 o3 H locs hq hw ls (lv_sub hl [2, 3, 4, 5, 6] rfl))
    · have hq := hq.1 hc
      refine lv_aload_n hx hb dL_law_1734 rfl (lv_at hl 5 rfl) ?_
      refine lv_iconst (v := 0) hx hb dL_law_1735 (by decide) ?_
      refine kl_lald C0 hC hw dL_law_1736 ?_
      refine lv_iload hx hb dL_law_1737 (lv_at hl 0 rfl) ?_
      refine lv_i2l hx hb dL_law_1739 rfl ?_
      refine kr_ceq (tgt := 1746) C0 dL_law_1740 dL_law_1741 (by decide) (fun hc => ?_) (fun hc => ?_)
      · have hq := hq.1 hc
        refine lv_goto (tgt := 1961) hx hb dL_law_1746 (by decide) ?_
        exact W.widen (k := cells + 2) (n := slots + 12) (by omega) (by omega) (kx σ6 o3 H locs hq hw ls (lv_sub hl [2, 3, 4, 5, 6] rfl))
      · have hq := hq.2 hc
        refine lv_iconst (v := 0) hx hb dL_law_1744 (by decide) ?_
        exact hq.elim
  · have hq := hq.2 hc
    refine lv_iconst (v := 0) hx hb dL_law_1727 (by decide) ?_
    exact hq.elim
def kl_c28 (σ : ka_S) (xs : Nat → Int32) (i : Nat) (o : Int64) (K : ka_S → Int64 → Prop) : Prop := kw_L_simulate σ (((xs (i + 1)).toInt64 <<< ((32 : Int32).toInt64 &&& 63)) ||| ((xs (i + 2)).toInt64 &&& (4294967295 : Int64))) (xs (i + 3)) o (fun r2 σ1 o3 =>
  kw_X9_simulate σ1 (((xs (i + 1)).toInt64 <<< ((32 : Int32).toInt64 &&& 63)) ||| ((xs (i + 2)).toInt64 &&& (4294967295 : Int64))) (xs (i + 3)) (fun r5 σ4 =>
  kw_X9_thrown σ4 (fun r7 σ6 =>
  (r7 = r2 → (r2 = (0 : Int32) → (o3 = (r5).toInt64 → K σ6 o3) ∧
      (¬ o3 = (r5).toInt64 → False)) ∧
    (¬ r2 = (0 : Int32) → K σ6 o3)) ∧
  (¬ r7 = r2 → False))))
set_option maxHeartbeats 4000000 in
set_option maxRecDepth 100000 in
theorem kl_t28 {p : Program} {l : Launch} {e : Env} {s : State} {m : MethodId} {below : List Frame} {meth : Method} {c : Code} {b L : Nat} {xs : Nat → Int32} {Z : State → Prop} {G : ka_G} (hl0 : l.stackTraces = false) (C0 : ka_C p s m #[.ref b] meth c cL_law 7 "GlossRowsLaw" (some .boolean)) (hC : kl_C G s) (hX : va_X b L xs s s.heap) (hbl : b < s.heap.size) (hL : L ≤ 2560) {i cells slots : Nat} (hi : i + 5 ≤ L) (hcl : cells + 2 ≤ 601024) (hsl : slots + 12 ≤ 7293034) {K : ka_S → Int64 → Prop}
    (kx : ∀ (σ : ka_S) (o : Int64) (H : Heap) (locs : List Loc), K σ o → kl_W G s σ o H locs → ∀ ls : Array Slot, lv_has ls 7 [(0, .ref b), (1, .ref (ka_a G (22, 0, 0))), (2, .ref (ka_a G (25, 0, 0))), (3, .ref G.2.2.2), (4, .int (nI i))] → W p l e room_1 s m #[.ref b] below meth c H locs (cells + 2) (slots + 12) Z (F0 m 1961 ls []))
    {σ : ka_S} {o : Int64} {H : Heap} {locs : List Loc} {ls : Array Slot} (hq : kl_c28 σ xs i o K) (hw : kl_W G s σ o H locs) (hl : lv_has ls 7 [(0, .ref b), (1, .ref (ka_a G (22, 0, 0))), (2, .ref (ka_a G (25, 0, 0))), (3, .ref G.2.2.2), (4, .int (nI i))]) : W p l e room_1 s m #[.ref b] below meth c H locs cells slots Z (F0 m 1749 ls []) := by
  obtain ⟨hx, hb, -, hml, hown, hts, -⟩ := id C0
  have hbA : ¬ ka_A9 G b := fun z => by have : G.2.2.1 ≤ b := z; rw [hC.2.2.2.2.1] at this; omega
  have hin1 := kl_ge (c := 1) hi hL (by decide)
  have hin2 := kl_ge (c := 2) hi hL (by decide)
  have hin3 := kl_ge (c := 3) hi hL (by decide)
  have hin4 := kl_ge (c := 4) hi hL (by decide)
  unfold kl_c28 at hq
  refine lv_aload_n hx hb dL_law_1749 rfl (lv_at hl 1 rfl) ?_
  refine lv_aload_n hx hb dL_law_1750 rfl (lv_at hl 0 rfl) ?_
  refine lv_iload hx hb dL_law_1751 (lv_at hl 4 rfl) ?_
  refine lv_iconst (v := 1) hx hb dL_law_1753 (by decide) ?_
  refine lv_iadd hx hb dL_law_1754 ?_
  refine va_sld hx hb hX hbl hbA hw.2.2.1 hin1.1 dL_law_1755 ?_
  rw [show (nI i + 1).toNatClampNeg = i + 1 from hin1.2]
  refine lv_i2l hx hb dL_law_1756 rfl ?_
  refine lv_bipush (v := 32) hx hb dL_law_1757 (by decide) ?_
  refine lv_lshl hx hb dL_law_1759 rfl ?_
  refine lv_aload_n hx hb dL_law_1760 rfl (lv_at hl 0 rfl) ?_
  refine lv_iload hx hb dL_law_1761 (lv_at hl 4 rfl) ?_
  refine lv_iconst (v := 2) hx hb dL_law_1763 (by decide) ?_
  refine lv_iadd hx hb dL_law_1764 ?_
  refine va_sld hx hb hX hbl hbA hw.2.2.1 hin2.1 dL_law_1765 ?_
  rw [show (nI i + 2).toNatClampNeg = i + 2 from hin2.2]
  refine lv_i2l hx hb dL_law_1766 rfl ?_
  refine lv_ldc2 hx hb hown (hts _ kq_1347) dL_law_1767 ?_
  refine lv_land hx hb dL_law_1770 ?_
  refine lv_lor hx hb dL_law_1771 ?_
  refine lv_aload_n hx hb dL_law_1772 rfl (lv_at hl 0 rfl) ?_
  refine lv_iload hx hb dL_law_1773 (lv_at hl 4 rfl) ?_
  refine lv_iconst (v := 3) hx hb dL_law_1775 (by decide) ?_
  refine lv_iadd hx hb dL_law_1776 ?_
  refine va_sld hx hb hX hbl hbA hw.2.2.1 hin3.1 dL_law_1777 ?_
  rw [show (nI i + 3).toNatClampNeg = i + 3 from hin3.2]
  refine lv_aload_n hx hb dL_law_1778 rfl (lv_at hl 3 rfl) ?_
  refine kl_Si (n := 4) (As := [.ref (ka_a G (22, 0, 0)), .long (((xs (i + 1)).toInt64 <<< ((32 : Int32).toInt64 &&& 63)) ||| ((xs (i + 2)).toInt64 &&& (4294967295 : Int64))), .int (xs (i + 3)), .ref G.2.2.2]) (rest := []) C0 hC hw hl (km_L_simulate l hl0 hC.1 hC.2.2.2.2.2 hq) kq_905 kq_906 kl_ini kl_L_simulate (by decide +kernel) ⟨rfl, rfl, Nat.le_of_ble_eq_true rfl, Nat.le_of_ble_eq_true rfl⟩ rfl (Nat.le_of_ble_eq_true rfl) dL_law_1779 ⟨by show _ ≤ 601024; omega, by show _ ≤ 7293034; omega⟩ (fun r2 σ1 o3 H locs hq hw => ?_)
  refine lv_istore (lv' := [(5, .int r2), (0, .ref b), (1, .ref (ka_a G (22, 0, 0))), (2, .ref (ka_a G (25, 0, 0))), (3, .ref G.2.2.2), (4, .int (nI i))]) hx hb dL_law_1782 hl (by decide) rfl (fun ls hl => ?_)
  refine lv_aload_n hx hb dL_law_1784 rfl (lv_at hl 3 rfl) ?_
  refine lv_aload_n hx hb dL_law_1785 rfl (lv_at hl 1 rfl) ?_
  refine lv_iload hx hb dL_law_1786 (lv_at hl 5 rfl) ?_
  refine lv_iconst (v := 1) hx hb dL_law_1788 (by decide) ?_
  refine lv_iadd hx hb dL_law_1789 ?_
  refine va_sld hx hb hX hbl hbA hw.2.2.1 hin1.1 dL_law_1790 ?_
  rw [show (nI i + 1).toNatClampNeg = i + 1 from hin1.2]
  refine lv_i2l hx hb dL_law_1791 rfl ?_
  refine lv_bipush (v := 32) hx hb dL_law_1792 (by decide) ?_
  refine lv_lshl hx hb dL_law_1794 rfl ?_
  refine lv_aload_n hx hb dL_law_1795 rfl (lv_at hl 1 rfl) ?_
  refine lv_iload hx hb dL_law_1796 (lv_at hl 5 rfl) ?_
  refine lv_iconst (v := 2) hx hb dL_law_1798 (by decide) ?_
  refine lv_iadd hx hb dL_law_1799 ?_
  refine va_sld hx hb hX hbl hbA hw.2.2.1 hin2.1 dL_law_1800 ?_
  rw [show (nI i + 2).toNatClampNeg = i + 2 from hin2.2]
  refine lv_i2l hx hb dL_law_1801 rfl ?_
  refine lv_ldc2 hx hb hown (hts _ kq_1347) dL_law_1802 ?_
  refine lv_land hx hb dL_law_1805 ?_
  refine lv_lor hx hb dL_law_1806 ?_
  refine lv_aload_n hx hb dL_law_1807 rfl (lv_at hl 1 rfl) ?_
  refine lv_iload hx hb dL_law_1808 (lv_at hl 5 rfl) ?_
  refine lv_iconst (v := 3) hx hb dL_law_1810 (by decide) ?_
  refine lv_iadd hx hb dL_law_1811 ?_
  refine va_sld hx hb hX hbl hbA hw.2.2.1 hin3.1 dL_law_1812 ?_
  rw [show (nI i + 3).toNatClampNeg = i + 3 from hin3.2]
  refine kl_Vi (k := (25, 0, 0)) (As := [.long (((xs (i + 1)).toInt64 <<< ((32 : Int32).toInt64 &&& 63)) ||| ((xs (i + 2)).toInt64 &&& (4294967295 : Int64))), .int (xs (i + 3))]) (rest := []) C0 hC hw hl (km_X9_simulate l hC.1 hq) kd_X9_simulate kq_1333 (kv_s (by decide) (by decide)) rfl rfl rfl ⟨rfl, rfl, Nat.le_of_ble_eq_true rfl, Nat.le_of_ble_eq_true rfl⟩ rfl (Nat.le_of_ble_eq_true rfl) dL_law_1813 ⟨by show _ ≤ 601024; omega, by show _ ≤ 7293034; omega⟩ (fun r5 σ4 H locs hq hw => ?_)
  refine lv_istore (lv' := [(6, .int r5), (5, .int r2), (0, .ref b), (1, .ref (ka_a G (22, 0, 0))), (2, .ref (ka_a G (25, 0, 0))), (3, .ref G.2.2.2), (4, .int (nI i))]) hx hb dL_law_1816 hl (by decide) rfl (fun ls hl => ?_)
  refine lv_aload_n hx hb dL_law_1818 rfl (lv_at hl 4 rfl) ?_
  refine kl_Vi (k := (25, 0, 0)) (As := []) (rest := []) C0 hC hw hl (km_X9_thrown l hC.1 hq) kd_X9_thrown kq_1022 (kv_s (by decide) (by decide)) rfl rfl rfl ⟨rfl, rfl, Nat.le_of_ble_eq_true rfl, Nat.le_of_ble_eq_true rfl⟩ rfl (Nat.le_of_ble_eq_true rfl) dL_law_1819 ⟨by show _ ≤ 601024; omega, by show _ ≤ 7293034; omega⟩ (fun r7 σ6 H locs hq hw => ?_)
  refine lv_iload hx hb dL_law_1822 (lv_at hl 1 rfl) ?_
  refine lv_icmp_eq (tgt := 1829) hx hb dL_law_1824 (by decide) (fun hc => ?_) (fun hc => ?_)
  · have hq := hq.1 hc
    refine lv_iload hx hb dL_law_1829 (lv_at hl 1 rfl) ?_
    refine lv_if_ne (tgt := 1846) hx hb dL_law_1831 (by decide) (fun hc => ?_) (fun hc => ?_)
    · have hq := hq.2 hc
      refine lv_goto (tgt := 1961) hx hb dL_law_1846 (by decide) ?_
      exact W.widen (k := cells + 2) (n := slots + 12) (by omega) (by omega) (kx σ6 o3 H locs hq hw ls (lv_sub hl [2, 3, 4, 5, 6] rfl))
    · have hq := hq.1 hc
      refine lv_aload_n hx hb dL_law_1834 rfl (lv_at hl 5 rfl) ?_
      refine lv_iconst (v := 0) hx hb dL_law_1835 (by decide) ?_
      refine kl_lald C0 hC hw dL_law_1836 ?_
      refine lv_iload hx hb dL_law_1837 (lv_at hl 0 rfl) ?_
      refine lv_i2l hx hb dL_law_1839 rfl ?_
      refine kr_ceq (tgt := 1846) C0 dL_law_1840 dL_law_1841 (by decide) (fun hc => ?_) (fun hc => ?_)
      · have hq := hq.1 hc
        refine lv_goto (tgt := 1961) hx hb dL_law_1846 (by decide) ?_
        exact W.widen (k := cells + 2) (n := slots + 12) (by omega) (by omega) (kx σ6 o3 H locs hq hw ls (lv_sub hl [2, 3, 4, 5, 6] rfl))
      · have hq := hq.2 hc
        refine lv_iconst (v := 0) hx hb dL_law_1844 (by decide) ?_
        exact hq.elim
  · have hq := hq.2 hc
    refine lv_iconst (v := 0) hx hb dL_law_1827 (by decide) ?_
    exact hq.elim
def kl_c29 (σ : ka_S) (xs : Nat → Int32) (i : Nat) (o : Int64) (K : ka_S → Int64 → Prop) : Prop := kw_L_save σ (xs (i + 1)) o (fun r2 σ1 o3 =>
  kw_X9_save σ1 (xs (i + 1)) (fun r5 σ4 =>
  kw_X9_thrown σ4 (fun r7 σ6 =>
  (r7 = r2 → (r2 = (0 : Int32) → (o3 = (r5).toInt64 → K σ6 o3) ∧
      (¬ o3 = (r5).toInt64 → False)) ∧
    (¬ r2 = (0 : Int32) → K σ6 o3)) ∧
  (¬ r7 = r2 → False))))
set_option maxHeartbeats 4000000 in
set_option maxRecDepth 100000 in
theorem kl_t29 {p : Program} {l : Launch} {e : Env} {s : State} {m : MethodId} {below : List Frame} {meth : Method} {c : Code} {b L : Nat} {xs : Nat → Int32} {Z : State → Prop} {G : ka_G} (hl0 : l.stackTraces = false) (C0 : ka_C p s m #[.ref b] meth c cL_law 7 "GlossRowsLaw" (some .boolean)) (hC : kl_C G s) (hX : va_X b L xs s s.heap) (hbl : b < s.heap.size) (hL : L ≤ 2560) {i cells slots : Nat} (hi : i + 5 ≤ L) (hcl : cells + 2 ≤ 601024) (hsl : slots + 12 ≤ 7293034) {K : ka_S → Int64 → Prop}
    (kx : ∀ (σ : ka_S) (o : Int64) (H : Heap) (locs : List Loc), K σ o → kl_W G s σ o H locs → ∀ ls : Array Slot, lv_has ls 7 [(0, .ref b), (1, .ref (ka_a G (22, 0, 0))), (2, .ref (ka_a G (25, 0, 0))), (3, .ref G.2.2.2), (4, .int (nI i))] → W p l e room_1 s m #[.ref b] below meth c H locs (cells + 2) (slots + 12) Z (F0 m 1961 ls []))
    {σ : ka_S} {o : Int64} {H : Heap} {locs : List Loc} {ls : Array Slot} (hq : kl_c29 σ xs i o K) (hw : kl_W G s σ o H locs) (hl : lv_has ls 7 [(0, .ref b), (1, .ref (ka_a G (22, 0, 0))), (2, .ref (ka_a G (25, 0, 0))), (3, .ref G.2.2.2), (4, .int (nI i))]) : W p l e room_1 s m #[.ref b] below meth c H locs cells slots Z (F0 m 1849 ls []) := by
  obtain ⟨hx, hb, -, hml, hown, hts, -⟩ := id C0
  have hbA : ¬ ka_A9 G b := fun z => by have : G.2.2.1 ≤ b := z; rw [hC.2.2.2.2.1] at this; omega
  have hin1 := kl_ge (c := 1) hi hL (by decide)
  have hin2 := kl_ge (c := 2) hi hL (by decide)
  have hin3 := kl_ge (c := 3) hi hL (by decide)
  have hin4 := kl_ge (c := 4) hi hL (by decide)
  unfold kl_c29 at hq
  refine lv_aload_n hx hb dL_law_1849 rfl (lv_at hl 1 rfl) ?_
  refine lv_aload_n hx hb dL_law_1850 rfl (lv_at hl 0 rfl) ?_
  refine lv_iload hx hb dL_law_1851 (lv_at hl 4 rfl) ?_
  refine lv_iconst (v := 1) hx hb dL_law_1853 (by decide) ?_
  refine lv_iadd hx hb dL_law_1854 ?_
  refine va_sld hx hb hX hbl hbA hw.2.2.1 hin1.1 dL_law_1855 ?_
  rw [show (nI i + 1).toNatClampNeg = i + 1 from hin1.2]
  refine lv_aload_n hx hb dL_law_1856 rfl (lv_at hl 3 rfl) ?_
  refine kl_Si (n := 3) (As := [.ref (ka_a G (22, 0, 0)), .int (xs (i + 1)), .ref G.2.2.2]) (rest := []) C0 hC hw hl (km_L_save l hl0 hC.1 hC.2.2.2.2.2 hq) kq_924 kq_925 kl_ini kl_L_save (by decide +kernel) ⟨rfl, rfl, Nat.le_of_ble_eq_true rfl, Nat.le_of_ble_eq_true rfl⟩ rfl (Nat.le_of_ble_eq_true rfl) dL_law_1857 ⟨by show _ ≤ 601024; omega, by show _ ≤ 7293034; omega⟩ (fun r2 σ1 o3 H locs hq hw => ?_)
  refine lv_istore (lv' := [(5, .int r2), (0, .ref b), (1, .ref (ka_a G (22, 0, 0))), (2, .ref (ka_a G (25, 0, 0))), (3, .ref G.2.2.2), (4, .int (nI i))]) hx hb dL_law_1860 hl (by decide) rfl (fun ls hl => ?_)
  refine lv_aload_n hx hb dL_law_1862 rfl (lv_at hl 3 rfl) ?_
  refine lv_aload_n hx hb dL_law_1863 rfl (lv_at hl 1 rfl) ?_
  refine lv_iload hx hb dL_law_1864 (lv_at hl 5 rfl) ?_
  refine lv_iconst (v := 1) hx hb dL_law_1866 (by decide) ?_
  refine lv_iadd hx hb dL_law_1867 ?_
  refine va_sld hx hb hX hbl hbA hw.2.2.1 hin1.1 dL_law_1868 ?_
  rw [show (nI i + 1).toNatClampNeg = i + 1 from hin1.2]
  refine kl_Vi (k := (25, 0, 0)) (As := [.int (xs (i + 1))]) (rest := []) C0 hC hw hl (km_X9_save l hC.1 hq) kd_X9_save kq_1339 (kv_s (by decide) (by decide)) rfl rfl rfl ⟨rfl, rfl, Nat.le_of_ble_eq_true rfl, Nat.le_of_ble_eq_true rfl⟩ rfl (Nat.le_of_ble_eq_true rfl) dL_law_1869 ⟨by show _ ≤ 601024; omega, by show _ ≤ 7293034; omega⟩ (fun r5 σ4 H locs hq hw => ?_)
  refine lv_istore (lv' := [(6, .int r5), (5, .int r2), (0, .ref b), (1, .ref (ka_a G (22, 0, 0))), (2, .ref (ka_a G (25, 0, 0))), (3, .ref G.2.2.2), (4, .int (nI i))]) hx hb dL_law_1872 hl (by decide) rfl (fun ls hl => ?_)
  refine lv_aload_n hx hb dL_law_1874 rfl (lv_at hl 4 rfl) ?_
  refine kl_Vi (k := (25, 0, 0)) (As := []) (rest := []) C0 hC hw hl (km_X9_thrown l hC.1 hq) kd_X9_thrown kq_1022 (kv_s (by decide) (by decide)) rfl rfl rfl ⟨rfl, rfl, Nat.le_of_ble_eq_true rfl, Nat.le_of_ble_eq_true rfl⟩ rfl (Nat.le_of_ble_eq_true rfl) dL_law_1875 ⟨by show _ ≤ 601024; omega, by show _ ≤ 7293034; omega⟩ (fun r7 σ6 H locs hq hw => ?_)
  refine lv_iload hx hb dL_law_1878 (lv_at hl 1 rfl) ?_
  refine lv_icmp_eq (tgt := 1885) hx hb dL_law_1880 (by decide) (fun hc => ?_) (fun hc => ?_)
  · have hq := hq.1 hc
    refine lv_iload hx hb dL_law_1885 (lv_at hl 1 rfl) ?_
    refine lv_if_ne (tgt := 1902) hx hb dL_law_1887 (by decide) (fun hc => ?_) (fun hc => ?_)
    · have hq := hq.2 hc
      refine lv_goto (tgt := 1961) hx hb dL_law_1902 (by decide) ?_
      exact W.widen (k := cells + 2) (n := slots + 12) (by omega) (by omega) (kx σ6 o3 H locs hq hw ls (lv_sub hl [2, 3, 4, 5, 6] rfl))
    · have hq := hq.1 hc
      refine lv_aload_n hx hb dL_law_1890 rfl (lv_at hl 5 rfl) ?_
      refine lv_iconst (v := 0) hx hb dL_law_1891 (by decide) ?_
      refine kl_lald C0 hC hw dL_law_1892 ?_
      refine lv_iload hx hb dL_law_1893 (lv_at hl 0 rfl) ?_
      refine lv_i2l hx hb dL_law_1895 rfl ?_
      refine kr_ceq (tgt := 1902) C0 dL_law_1896 dL_law_1897 (by decide) (fun hc => ?_) (fun hc => ?_)
      · have hq := hq.1 hc
        refine lv_goto (tgt := 1961) hx hb dL_law_1902 (by decide) ?_
        exact W.widen (k := cells + 2) (n := slots + 12) (by omega) (by omega) (kx σ6 o3 H locs hq hw ls (lv_sub hl [2, 3, 4, 5, 6] rfl))
      · have hq := hq.2 hc
        refine lv_iconst (v := 0) hx hb dL_law_1900 (by decide) ?_
        exact hq.elim
  · have hq := hq.2 hc
    refine lv_iconst (v := 0) hx hb dL_law_1883 (by decide) ?_
    exact hq.elim
def kl_c30 (σ : ka_S) (xs : Nat → Int32) (i : Nat) (o : Int64) (K : ka_S → Int64 → Prop) : Prop := kw_L_restore σ (xs (i + 1)) o (fun r2 σ1 o3 =>
  kw_X9_restore σ1 (xs (i + 1)) (fun r5 σ4 =>
  kw_X9_thrown σ4 (fun r7 σ6 =>
  (r7 = r2 → (r2 = (0 : Int32) → (o3 = (r5).toInt64 → K σ6 o3) ∧
      (¬ o3 = (r5).toInt64 → False)) ∧
    (¬ r2 = (0 : Int32) → K σ6 o3)) ∧
  (¬ r7 = r2 → False))))
set_option maxHeartbeats 4000000 in
set_option maxRecDepth 100000 in
theorem kl_t30 {p : Program} {l : Launch} {e : Env} {s : State} {m : MethodId} {below : List Frame} {meth : Method} {c : Code} {b L : Nat} {xs : Nat → Int32} {Z : State → Prop} {G : ka_G} (hl0 : l.stackTraces = false) (C0 : ka_C p s m #[.ref b] meth c cL_law 7 "GlossRowsLaw" (some .boolean)) (hC : kl_C G s) (hX : va_X b L xs s s.heap) (hbl : b < s.heap.size) (hL : L ≤ 2560) {i cells slots : Nat} (hi : i + 5 ≤ L) (hcl : cells + 2 ≤ 601024) (hsl : slots + 12 ≤ 7293034) {K : ka_S → Int64 → Prop}
    (kx : ∀ (σ : ka_S) (o : Int64) (H : Heap) (locs : List Loc), K σ o → kl_W G s σ o H locs → ∀ ls : Array Slot, lv_has ls 7 [(0, .ref b), (1, .ref (ka_a G (22, 0, 0))), (2, .ref (ka_a G (25, 0, 0))), (3, .ref G.2.2.2), (4, .int (nI i))] → W p l e room_1 s m #[.ref b] below meth c H locs (cells + 2) (slots + 12) Z (F0 m 1961 ls []))
    {σ : ka_S} {o : Int64} {H : Heap} {locs : List Loc} {ls : Array Slot} (hq : kl_c30 σ xs i o K) (hw : kl_W G s σ o H locs) (hl : lv_has ls 7 [(0, .ref b), (1, .ref (ka_a G (22, 0, 0))), (2, .ref (ka_a G (25, 0, 0))), (3, .ref G.2.2.2), (4, .int (nI i))]) : W p l e room_1 s m #[.ref b] below meth c H locs cells slots Z (F0 m 1905 ls []) := by
  obtain ⟨hx, hb, -, hml, hown, hts, -⟩ := id C0
  have hbA : ¬ ka_A9 G b := fun z => by have : G.2.2.1 ≤ b := z; rw [hC.2.2.2.2.1] at this; omega
  have hin1 := kl_ge (c := 1) hi hL (by decide)
  have hin2 := kl_ge (c := 2) hi hL (by decide)
  have hin3 := kl_ge (c := 3) hi hL (by decide)
  have hin4 := kl_ge (c := 4) hi hL (by decide)
  unfold kl_c30 at hq
  refine lv_aload_n hx hb dL_law_1905 rfl (lv_at hl 1 rfl) ?_
  refine lv_aload_n hx hb dL_law_1906 rfl (lv_at hl 0 rfl) ?_
  refine lv_iload hx hb dL_law_1907 (lv_at hl 4 rfl) ?_
  refine lv_iconst (v := 1) hx hb dL_law_1909 (by decide) ?_
  refine lv_iadd hx hb dL_law_1910 ?_
  refine va_sld hx hb hX hbl hbA hw.2.2.1 hin1.1 dL_law_1911 ?_
  rw [show (nI i + 1).toNatClampNeg = i + 1 from hin1.2]
  refine lv_aload_n hx hb dL_law_1912 rfl (lv_at hl 3 rfl) ?_
  refine kl_Si (n := 3) (As := [.ref (ka_a G (22, 0, 0)), .int (xs (i + 1)), .ref G.2.2.2]) (rest := []) C0 hC hw hl (km_L_restore l hl0 hC.1 hC.2.2.2.2.2 hq) kq_936 kq_937 kl_ini kl_L_restore (by decide +kernel) ⟨rfl, rfl, Nat.le_of_ble_eq_true rfl, Nat.le_of_ble_eq_true rfl⟩ rfl (Nat.le_of_ble_eq_true rfl) dL_law_1913 ⟨by show _ ≤ 601024; omega, by show _ ≤ 7293034; omega⟩ (fun r2 σ1 o3 H locs hq hw => ?_)
  refine lv_istore (lv' := [(5, .int r2), (0, .ref b), (1, .ref (ka_a G (22, 0, 0))), (2, .ref (ka_a G (25, 0, 0))), (3, .ref G.2.2.2), (4, .int (nI i))]) hx hb dL_law_1916 hl (by decide) rfl (fun ls hl => ?_)
  refine lv_aload_n hx hb dL_law_1918 rfl (lv_at hl 3 rfl) ?_
  refine lv_aload_n hx hb dL_law_1919 rfl (lv_at hl 1 rfl) ?_
  refine lv_iload hx hb dL_law_1920 (lv_at hl 5 rfl) ?_
  refine lv_iconst (v := 1) hx hb dL_law_1922 (by decide) ?_
  refine lv_iadd hx hb dL_law_1923 ?_
  refine va_sld hx hb hX hbl hbA hw.2.2.1 hin1.1 dL_law_1924 ?_
  rw [show (nI i + 1).toNatClampNeg = i + 1 from hin1.2]
  refine kl_Vi (k := (25, 0, 0)) (As := [.int (xs (i + 1))]) (rest := []) C0 hC hw hl (km_X9_restore l hC.1 hq) kd_X9_restore kq_1343 (kv_s (by decide) (by decide)) rfl rfl rfl ⟨rfl, rfl, Nat.le_of_ble_eq_true rfl, Nat.le_of_ble_eq_true rfl⟩ rfl (Nat.le_of_ble_eq_true rfl) dL_law_1925 ⟨by show _ ≤ 601024; omega, by show _ ≤ 7293034; omega⟩ (fun r5 σ4 H locs hq hw => ?_)
  refine lv_istore (lv' := [(6, .int r5), (5, .int r2), (0, .ref b), (1, .ref (ka_a G (22, 0, 0))), (2, .ref (ka_a G (25, 0, 0))), (3, .ref G.2.2.2), (4, .int (nI i))]) hx hb dL_law_1928 hl (by decide) rfl (fun ls hl => ?_)
  refine lv_aload_n hx hb dL_law_1930 rfl (lv_at hl 4 rfl) ?_
  refine kl_Vi (k := (25, 0, 0)) (As := []) (rest := []) C0 hC hw hl (km_X9_thrown l hC.1 hq) kd_X9_thrown kq_1022 (kv_s (by decide) (by decide)) rfl rfl rfl ⟨rfl, rfl, Nat.le_of_ble_eq_true rfl, Nat.le_of_ble_eq_true rfl⟩ rfl (Nat.le_of_ble_eq_true rfl) dL_law_1931 ⟨by show _ ≤ 601024; omega, by show _ ≤ 7293034; omega⟩ (fun r7 σ6 H locs hq hw => ?_)
  refine lv_iload hx hb dL_law_1934 (lv_at hl 1 rfl) ?_
  refine lv_icmp_eq (tgt := 1941) hx hb dL_law_1936 (by decide) (fun hc => ?_) (fun hc => ?_)
  · have hq := hq.1 hc
    refine lv_iload hx hb dL_law_1941 (lv_at hl 1 rfl) ?_
    refine lv_if_ne (tgt := 1958) hx hb dL_law_1943 (by decide) (fun hc => ?_) (fun hc => ?_)
    · have hq := hq.2 hc
      refine lv_goto (tgt := 1961) hx hb dL_law_1958 (by decide) ?_
      exact W.widen (k := cells + 2) (n := slots + 12) (by omega) (by omega) (kx σ6 o3 H locs hq hw ls (lv_sub hl [2, 3, 4, 5, 6] rfl))
    · have hq := hq.1 hc
      refine lv_aload_n hx hb dL_law_1946 rfl (lv_at hl 5 rfl) ?_
      refine lv_iconst (v := 0) hx hb dL_law_1947 (by decide) ?_
      refine kl_lald C0 hC hw dL_law_1948 ?_
      refine lv_iload hx hb dL_law_1949 (lv_at hl 0 rfl) ?_
      refine lv_i2l hx hb dL_law_1951 rfl ?_
      refine kr_ceq (tgt := 1958) C0 dL_law_1952 dL_law_1953 (by decide) (fun hc => ?_) (fun hc => ?_)
      · have hq := hq.1 hc
        refine lv_goto (tgt := 1961) hx hb dL_law_1958 (by decide) ?_
        exact W.widen (k := cells + 2) (n := slots + 12) (by omega) (by omega) (kx σ6 o3 H locs hq hw ls (lv_sub hl [2, 3, 4, 5, 6] rfl))
      · have hq := hq.2 hc
        refine lv_iconst (v := 0) hx hb dL_law_1956 (by decide) ?_
        exact hq.elim
  · have hq := hq.2 hc
    refine lv_iconst (v := 0) hx hb dL_law_1939 (by decide) ?_
    exact hq.elim
