/-! ===== the law's own: its script, its end ===== -/
def klaw_C (G1 G2 : ka_G) (s : State) (b L : Nat) (xs : Nat → Int32) : Prop := va_X b L xs s s.heap ∧ b < s.heap.size ∧ ¬ ka_A2 G1 G2 b ∧ (∀ q, ka_A2 G1 G2 q → s.heap.size ≤ q) ∧ L ≤ 260
def kf_draw (L : Nat) (xs : Nat → Int32) (k : Int32) : Int32 := (if nI L ≤ k then (15593203 : Int32) * k + (10313 : Int32) else xs k.toNatClampNeg) &&& (2147483647 : Int32)
theorem klaw_in {L : Nat} {k : Int32} (hL : L ≤ 260) (h0 : ¬ k < 0) (h : ¬ nI L ≤ k) : vp_in k L := by
  intro q
  rcases q with q | q
  · exact h0 q
  · apply h
    rw [Int32.le_iff_toInt_le, nI_toInt (by omega)]
    rw [Int32.lt_iff_toInt_lt, Int32.toInt_zero] at h0
    rw [Int32.toNatClampNeg] at q
    omega
def rm_L_draw : Room := { frames := 0, cells := 0, slots := 0, locals := 0 }
set_option maxHeartbeats 4000000 in
set_option maxRecDepth 100000 in
theorem km_L_draw (l : Launch) {b L : Nat} {xs : Nat → Int32} {k : Int32} (hL : L ≤ 260) (h0 : ¬ k < 0) : Met l yL_draw (kw_ yL_draw cL_draw 2 (some .int)) rm_L_draw (va_Pc [.ref b, .int k] (fun U => va_X b L xs U U.heap ∧ b < U.heap.size)) (va_Qi (fun r (_ : Unit) => r = kf_draw L xs k) (fun _ _ => True) (fun _ => False)) 0 0 (fun _ => False) := by
  refine Met.ofW (cc := cL_draw) (maxL := 2) (ret := some .int) (by decide) rfl ?_
  intro p e s m args below meth c s₁ B hml hv
  obtain ⟨rfl, hX, hbl⟩ := hv
  have hts0 := atoms_spec (ws := kw_ yL_draw cL_draw 2 (some .int)) B.pre
  have hts : ∀ w ∈ kq_W, w.before ([.ref b, .int k] : List Value).toArray s = true := fun w hw => hts0 w (List.mem_cons_of_mem _ hw)
  have hl := lv_entry [.ref b, .int k] (n := 2) (Nat.le_of_ble_eq_true rfl)
  rw [lg_entry_eq]
  generalize (lg_sl ([.ref b, .int k]) ++ List.replicate (2 - (lg_sl ([.ref b, .int k])).length) Slot.unset).toArray = ls at hl ⊢
  have hl : lv_has ls 2 [(0, .ref b), (1, .int k)] := hl
  have hx := B.exec
  have hb := B.bytes
  have hown : s.vm.findClass "GlossRowsLaw" = some m.cls := findClass_of_methodNamed B.named
  have hS : va_S (fun _ => False) s.heap s.heap [] := va_S.rf
  have fin : ∀ (ls : Array Slot) (v : Int32), v = (if nI L ≤ k then (15593203 : Int32) * k + (10313 : Int32) else xs k.toNatClampNeg) → W p l e rm_L_draw s m ([.ref b, .int k] : List Value).toArray below meth c s.heap [] 0 0 (MQ below (va_Qi (fun r (_ : Unit) => r = kf_draw L xs k) (fun _ _ => True) (fun _ => False)) ([.ref b, .int k] : List Value).toArray s 0 0 (fun _ => False)) (F0 m 20 ls [.int v]) := by
    intro ls v hv
    refine lv_ldc hx hb hown (hts _ kq_261) dL_draw_20 ?_
    refine lv_iand hx hb dL_draw_22 ?_
    refine W.iret (v := v &&& (2147483647 : Int32)) hx hb B.returns (fun t ht hW => ⟨⟨_, (), rfl, ?_, trivial⟩, hS.F ht⟩) hS.2.2 dL_draw_23 B.notSynchronized
    rw [hv]; rfl
  refine lv_iload_n hx hb dL_draw_0 rfl (lv_at hl 1 rfl) ?_
  refine lv_aload_n hx hb dL_draw_1 rfl (lv_at hl 0 rfl) ?_
  refine va_slen hx hb hX hbl (fun z => z) hS dL_draw_2 ?_
  refine lv_icmp_ge (tgt := 12) hx hb dL_draw_3 (by decide) (fun hc => ?_) (fun hc => ?_)
  · refine lv_ldc hx hb hown (hts _ kq_260) dL_draw_12 ?_
    refine lv_iload_n hx hb dL_draw_14 rfl (lv_at hl 1 rfl) ?_
    refine lv_imul hx hb dL_draw_15 ?_
    refine lv_sipush (v := 10313) hx hb dL_draw_16 (by decide) ?_
    refine lv_iadd hx hb dL_draw_19 ?_
    refine fin ls _ ?_
    rw [if_pos (show nI L ≤ k from hc)]
  · refine lv_aload_n hx hb dL_draw_6 rfl (lv_at hl 0 rfl) ?_
    refine lv_iload_n hx hb dL_draw_7 rfl (lv_at hl 1 rfl) ?_
    refine va_sld hx hb hX hbl (fun z => z) hS (klaw_in hL h0 hc) dL_draw_8 ?_
    refine lv_goto (tgt := 20) hx hb dL_draw_9 (by decide) ?_
    refine fin ls _ ?_
    rw [if_neg (show ¬ nI L ≤ k from hc)]
section KLL
variable {p : Program} {l : Launch} {e : Env} {R : Room} {s : State} {m : MethodId} {args : Array Value} {below : List Frame} {meth : Method} {c : Code} {H : Heap} {locs : List Loc} {cells slots : Nat} {Q : State → Prop}
variable {cc : ByteArray} {pc : Nat} {ls : Array Slot} {rest : List Value} {G1 G2 : ka_G} {own : String} {nL : Nat} {ret0 : Option FieldType} {b L idx : Nat} {xs : Nat → Int32}
theorem klaw_draw {k : Int32} {lv : List (Nat × Value)} (C0 : ka_C p s m args meth c cc nL own ret0) (hC : klaw_C G1 G2 s b L xs) (hS : va_S (ka_A2 G1 G2) s.heap H locs) (hl : lv_has ls nL lv) (h0 : ¬ k < 0) (hlink : Cond.methodLink own idx yL_draw ∈ kq_W) (hf : cells ≤ room_1.cells ∧ slots ≤ room_1.slots) (hW : (rest.map fun v => v.category).sum ≤ 8) (hdg : decode cc pc = .ok (.invokestatic idx, 3))
    (kk : ∀ (H1 : Heap) (locs1 : List Loc), (H.size ≤ H1.size ∧ ∀ q : Nat, q < H.size → ¬ False → H1[q]? = H[q]?) → va_S (ka_A2 G1 G2) s.heap H1 locs1 → W p l e room_1 s m args below meth c H1 locs1 cells slots Q (F0 m (pc + 3) ls (.int (kf_draw L xs k) :: rest))) : W p l e room_1 s m args below meth c H locs cells slots Q (F0 m pc ls (.int k :: .ref b :: rest)) :=
  va_calli (va_runS (As := [.ref b, .int k]) C0.fix (km_L_draw l (b := b) (L := L) (xs := xs) hC.2.2.2.2 h0) (kj_cbS (rm := rm_L_draw) C0 hlink kd_L_draw ⟨rfl, rfl, Nat.le_of_ble_eq_true rfl, Nat.le_of_ble_eq_true rfl⟩) ⟨fun a U g mk q => ⟨q.1, va_X.moved (u := U) (U := U.calling g mk a) (Vm.Alike.refl U.vm) q.2.1, q.2.2⟩, fun U hU hW9 => ⟨rfl, by rw [hU]; exact (va_X.moved hW9.alike hC.1).kept (hS.2.1 b hC.2.1 hC.2.2.1), by rw [hU]; exact Nat.lt_of_lt_of_le hC.2.1 hS.1⟩⟩ rfl rfl hl.1 rfl (lv_room hW) hdg hf) hS (fun q _ h => h.elim) (fun q h => h.elim) (fun r u t H1 locs1 ht hvm hw hB hz hk1 hS1 => by obtain rfl := hw; exact kk H1 locs1 ⟨hz, hk1⟩ hS1)
theorem klaw_end {v : Int32} (C0 : ka_C p s m #[.ref b] meth c code 7 "GlossRowsLaw" (some .boolean)) (hr : meth.sig.returnType = ret) (hC : klaw_C G1 G2 s b L xs) (hS : va_S (ka_A2 G1 G2) s.heap H locs) (hq : v = 1) (hdg : decode code pc = .ok (.ireturn, 1)) (hc : cells ≤ 600104 ∧ slots ≤ 7301314) : W p l e room_1 s m #[.ref b] below meth c H locs cells slots (lw_Z below #[Value.ref b] s) (F0 m pc ls [.int v]) := by
  subst hq
  refine va_forget (fun q hq => hC.2.2.2.1 _ (hS.2.2 q hq)) ?_
  exact W.widen hc.1 hc.2 (lw_ret C0.1 C0.2.1 hr C0.2.2.2.2.2.2 hdg)
end KLL
def kw_L_law_242 (L : Nat) (xs : Nat → Int32) (K52 : ka_S → ka_S → Int32 → Int32 → Prop)  (σ τ : ka_S) (v3 : Int32) (v4 : Int32) (v6 : Int32) : Prop := (v3 = (0 : Int32) → ∀ x46 : Int32, x46 = v4 + (1 : Int32) →
    K52 σ τ (0 : Int32) x46) ∧
  (¬ v3 = (0 : Int32) → ((0 : Int32) < (v4 - v4 / (6 : Int32) * (6 : Int32)) → ∀ x47 : Int32, x47 = v4 + (1 : Int32) →
      K52 σ τ (1 : Int32) x47) ∧
    (¬ (0 : Int32) < (v4 - v4 / (6 : Int32) * (6 : Int32)) → kw_L_alike σ τ v6 (fun r48 σ49 τ50 =>
      (r48 = (0 : Int32) → ∀ x51 : Int32, x51 = v4 + (1 : Int32) →
        K52 σ49 τ50 (0 : Int32) x51) ∧
      (¬ r48 = (0 : Int32) → ∀ x52 : Int32, x52 = v4 + (1 : Int32) →
        K52 σ49 τ50 (1 : Int32) x52))))
set_option maxHeartbeats 4000000 in
set_option maxRecDepth 100000 in
theorem kb_L_law_242 {p : Program} {l : Launch} {e : Env} {s : State} {m : MethodId} {below : List Frame} {meth : Method} {c : Code} {G1 G2 : ka_G} {b L : Nat} {xs : Nat → Int32} (hl0 : l.stackTraces = false) (hI : ka_I2 G1 G2) (C0 : ka_C p s m #[.ref b] meth c code 7 "GlossRowsLaw" (some .boolean)) (hK : ka_Kn G1 s) (hK2 : ka_Kn G2 s) (hT : ka_T9 (ka_A2 G1 G2) s) (hN : kl_Nc s) (hC : klaw_C G1 G2 s b L xs) (hr : meth.sig.returnType = ret) {K52 : ka_S → ka_S → Int32 → Int32 → Prop} {R52 : Nat} (hk52 : ∀ (σ τ : ka_S) (v3 : Int32) (v4 : Int32), K52 σ τ v3 v4 → ∀ (cl : Nat), cl + R52 ≤ 600104 → ∀ (H : Heap) (locs : List Loc), ka_P G1 σ H → ka_P G2 τ H → va_S (ka_A2 G1 G2) s.heap H locs → ∀ ls : Array Slot, lv_has ls 7 [(0, .ref b), (1, .ref (ka_a G1 (22, 0, 0))), (2, .ref (ka_a G2 (22, 0, 0))), (3, .int v3), (4, .int v4)] → W p l e room_1 s m #[.ref b] below meth c H locs cl (6 * cl) (lw_Z below #[Value.ref b] s) (F0 m 52 ls [])) : ∀ (σ τ : ka_S) (v3 : Int32) (v4 : Int32) (v6 : Int32), kw_L_law_242 L xs K52 σ τ v3 v4 v6 → ∀ (cl : Nat), cl + 4712 + R52 ≤ 600104 → ∀ (H : Heap) (locs : List Loc), ka_P G1 σ H → ka_P G2 τ H → va_S (ka_A2 G1 G2) s.heap H locs → ∀ ls : Array Slot, lv_has ls 7 [(0, .ref b), (1, .ref (ka_a G1 (22, 0, 0))), (2, .ref (ka_a G2 (22, 0, 0))), (3, .int v3), (4, .int v4), (6, .int v6)] → W p l e room_1 s m #[.ref b] below meth c H locs cl (6 * cl) (lw_Z below #[Value.ref b] s) (F0 m 242 ls []) := by
  obtain ⟨hx, hb, -, hml, hown, hts, -⟩ := id C0
  intro σ τ v3 v4 v6 hq cl hcl H locs hP hP2 hS ls hl
  unfold kw_L_law_242 at hq
  refine lv_iload_n hx hb dL_law_242 rfl (lv_at hl 3 rfl) ?_
  refine lv_if_eq (tgt := 268) hx hb dL_law_243 (by decide) (fun hc => ?_) (fun hc => ?_)
  · have hq := hq.1 hc
    refine lv_iconst (v := 0) hx hb dL_law_268 (by decide) ?_
    refine lv_istore_n (lv' := [(3, .int (0 : Int32)), (0, .ref b), (1, .ref (ka_a G1 (22, 0, 0))), (2, .ref (ka_a G2 (22, 0, 0))), (4, .int v4), (6, .int v6)]) hx hb dL_law_269 rfl hl (by decide) rfl (fun ls hl => ?_)
    obtain ⟨x46, ex46⟩ : ∃ y : Int32, y = v4 + (1 : Int32) := ⟨_, rfl⟩
    have hq := hq x46 ex46
    refine lv_iinc (v := x46) (lv' := [(4, .int x46), (3, .int (0 : Int32)), (0, .ref b), (1, .ref (ka_a G1 (22, 0, 0))), (2, .ref (ka_a G2 (22, 0, 0))), (6, .int v6)]) hx hb dL_law_270 hl (k := 4) rfl (by rw [ex46]; rfl) (by decide) rfl (fun ls hl => ?_)
    refine lv_goto (tgt := 52) hx hb dL_law_273 (by decide) ?_
    refine W.widen (k := (cl + 0)) (n := 6 * (cl + 0)) (by omega) (by omega) ?_
    exact hk52 σ τ (0 : Int32) x46 hq (cl + 0) (by omega) H locs hP hP2 hS ls (lv_sub hl [2, 3, 4, 1, 0] rfl)
  · have hq := hq.2 hc
    refine lv_iload hx hb dL_law_246 (lv_at hl 4 rfl) ?_
    refine lv_bipush (v := 6) hx hb dL_law_248 (by decide) ?_
    refine lv_irem hx hb dL_law_250 (by decide) ?_
    refine lv_if_gt (tgt := 264) hx hb dL_law_251 (by decide) (fun hc => ?_) (fun hc => ?_)
    · have hq := hq.1 hc
      refine lv_iconst (v := 1) hx hb dL_law_264 (by decide) ?_
      refine lv_goto (tgt := 269) hx hb dL_law_265 (by decide) ?_
      refine lv_istore_n (lv' := [(3, .int (1 : Int32)), (0, .ref b), (1, .ref (ka_a G1 (22, 0, 0))), (2, .ref (ka_a G2 (22, 0, 0))), (4, .int v4), (6, .int v6)]) hx hb dL_law_269 rfl hl (by decide) rfl (fun ls hl => ?_)
      obtain ⟨x47, ex47⟩ : ∃ y : Int32, y = v4 + (1 : Int32) := ⟨_, rfl⟩
      have hq := hq x47 ex47
      refine lv_iinc (v := x47) (lv' := [(4, .int x47), (3, .int (1 : Int32)), (0, .ref b), (1, .ref (ka_a G1 (22, 0, 0))), (2, .ref (ka_a G2 (22, 0, 0))), (6, .int v6)]) hx hb dL_law_270 hl (k := 4) rfl (by rw [ex47]; rfl) (by decide) rfl (fun ls hl => ?_)
      refine lv_goto (tgt := 52) hx hb dL_law_273 (by decide) ?_
      refine W.widen (k := (cl + 0)) (n := 6 * (cl + 0)) (by omega) (by omega) ?_
      exact hk52 σ τ (1 : Int32) x47 hq (cl + 0) (by omega) H locs hP hP2 hS ls (lv_sub hl [2, 3, 4, 1, 0] rfl)
    · have hq := hq.2 hc
      refine lv_aload_n hx hb dL_law_254 rfl (lv_at hl 1 rfl) ?_
      refine lv_aload_n hx hb dL_law_255 rfl (lv_at hl 2 rfl) ?_
      refine lv_iload hx hb dL_law_256 (lv_at hl 5 rfl) ?_
      refine kj2_Si (As := [.ref (ka_a G1 (22, 0, 0)), .ref (ka_a G2 (22, 0, 0)), .int v6]) (rest := []) C0 hK hK2 hT hN hP hP2 hS hl (km_L_alike l hl0 hI hq) kd_L_alike kq_470 ⟨rfl, rfl, Nat.le_of_ble_eq_true rfl, Nat.le_of_ble_eq_true rfl⟩ rfl (Nat.le_of_ble_eq_true rfl) dL_law_258 ⟨by show _ ≤ 600104; omega, by show _ ≤ 7301314; omega⟩ (fun r48 σ49 τ50 H locs hq hP hP2 hS => ?_)
      refine lv_if_eq (tgt := 268) hx hb dL_law_261 (by decide) (fun hc => ?_) (fun hc => ?_)
      · have hq := hq.1 hc
        refine lv_iconst (v := 0) hx hb dL_law_268 (by decide) ?_
        refine lv_istore_n (lv' := [(3, .int (0 : Int32)), (0, .ref b), (1, .ref (ka_a G1 (22, 0, 0))), (2, .ref (ka_a G2 (22, 0, 0))), (4, .int v4), (6, .int v6)]) hx hb dL_law_269 rfl hl (by decide) rfl (fun ls hl => ?_)
        obtain ⟨x51, ex51⟩ : ∃ y : Int32, y = v4 + (1 : Int32) := ⟨_, rfl⟩
        have hq := hq x51 ex51
        refine lv_iinc (v := x51) (lv' := [(4, .int x51), (3, .int (0 : Int32)), (0, .ref b), (1, .ref (ka_a G1 (22, 0, 0))), (2, .ref (ka_a G2 (22, 0, 0))), (6, .int v6)]) hx hb dL_law_270 hl (k := 4) rfl (by rw [ex51]; rfl) (by decide) rfl (fun ls hl => ?_)
        refine lv_goto (tgt := 52) hx hb dL_law_273 (by decide) ?_
        refine W.widen (k := (cl + 4712)) (n := 6 * (cl + 4712)) (by omega) (by omega) ?_
        exact hk52 σ49 τ50 (0 : Int32) x51 hq (cl + 4712) (by omega) H locs hP hP2 hS ls (lv_sub hl [2, 3, 4, 1, 0] rfl)
      · have hq := hq.2 hc
        refine lv_iconst (v := 1) hx hb dL_law_264 (by decide) ?_
        refine lv_goto (tgt := 269) hx hb dL_law_265 (by decide) ?_
        refine lv_istore_n (lv' := [(3, .int (1 : Int32)), (0, .ref b), (1, .ref (ka_a G1 (22, 0, 0))), (2, .ref (ka_a G2 (22, 0, 0))), (4, .int v4), (6, .int v6)]) hx hb dL_law_269 rfl hl (by decide) rfl (fun ls hl => ?_)
        obtain ⟨x52, ex52⟩ : ∃ y : Int32, y = v4 + (1 : Int32) := ⟨_, rfl⟩
        have hq := hq x52 ex52
        refine lv_iinc (v := x52) (lv' := [(4, .int x52), (3, .int (1 : Int32)), (0, .ref b), (1, .ref (ka_a G1 (22, 0, 0))), (2, .ref (ka_a G2 (22, 0, 0))), (6, .int v6)]) hx hb dL_law_270 hl (k := 4) rfl (by rw [ex52]; rfl) (by decide) rfl (fun ls hl => ?_)
        refine lv_goto (tgt := 52) hx hb dL_law_273 (by decide) ?_
        refine W.widen (k := (cl + 4712)) (n := 6 * (cl + 4712)) (by omega) (by omega) ?_
        exact hk52 σ49 τ50 (1 : Int32) x52 hq (cl + 4712) (by omega) H locs hP hP2 hS ls (lv_sub hl [2, 3, 4, 1, 0] rfl)
def kw_L_law_241 (L : Nat) (xs : Nat → Int32) (K52 : ka_S → ka_S → Int32 → Int32 → Prop)  (σ τ : ka_S) (v4 : Int32) (v6 : Int32) (t0 : Int32) : Prop := kw_L_law_242 L xs K52 σ τ t0 v4 v6
set_option maxHeartbeats 4000000 in
set_option maxRecDepth 100000 in
theorem kb_L_law_241 {p : Program} {l : Launch} {e : Env} {s : State} {m : MethodId} {below : List Frame} {meth : Method} {c : Code} {G1 G2 : ka_G} {b L : Nat} {xs : Nat → Int32} (hl0 : l.stackTraces = false) (hI : ka_I2 G1 G2) (C0 : ka_C p s m #[.ref b] meth c code 7 "GlossRowsLaw" (some .boolean)) (hK : ka_Kn G1 s) (hK2 : ka_Kn G2 s) (hT : ka_T9 (ka_A2 G1 G2) s) (hN : kl_Nc s) (hC : klaw_C G1 G2 s b L xs) (hr : meth.sig.returnType = ret) {K52 : ka_S → ka_S → Int32 → Int32 → Prop} {R52 : Nat} (hk52 : ∀ (σ τ : ka_S) (v3 : Int32) (v4 : Int32), K52 σ τ v3 v4 → ∀ (cl : Nat), cl + R52 ≤ 600104 → ∀ (H : Heap) (locs : List Loc), ka_P G1 σ H → ka_P G2 τ H → va_S (ka_A2 G1 G2) s.heap H locs → ∀ ls : Array Slot, lv_has ls 7 [(0, .ref b), (1, .ref (ka_a G1 (22, 0, 0))), (2, .ref (ka_a G2 (22, 0, 0))), (3, .int v3), (4, .int v4)] → W p l e room_1 s m #[.ref b] below meth c H locs cl (6 * cl) (lw_Z below #[Value.ref b] s) (F0 m 52 ls [])) : ∀ (σ τ : ka_S) (v4 : Int32) (v6 : Int32) (t0 : Int32), kw_L_law_241 L xs K52 σ τ v4 v6 t0 → ∀ (cl : Nat), cl + 4712 + R52 ≤ 600104 → ∀ (H : Heap) (locs : List Loc), ka_P G1 σ H → ka_P G2 τ H → va_S (ka_A2 G1 G2) s.heap H locs → ∀ ls : Array Slot, lv_has ls 7 [(0, .ref b), (1, .ref (ka_a G1 (22, 0, 0))), (2, .ref (ka_a G2 (22, 0, 0))), (4, .int v4), (6, .int v6)] → W p l e room_1 s m #[.ref b] below meth c H locs cl (6 * cl) (lw_Z below #[Value.ref b] s) (F0 m 241 ls [.int t0]) := by
  obtain ⟨hx, hb, -, hml, hown, hts, -⟩ := id C0
  intro σ τ v4 v6 t0 hq cl hcl H locs hP hP2 hS ls hl
  unfold kw_L_law_241 at hq
  refine lv_istore_n (lv' := [(3, .int t0), (0, .ref b), (1, .ref (ka_a G1 (22, 0, 0))), (2, .ref (ka_a G2 (22, 0, 0))), (4, .int v4), (6, .int v6)]) hx hb dL_law_241 rfl hl (by decide) rfl (fun ls hl => ?_)
  refine W.widen (k := (cl + 0)) (n := 6 * (cl + 0)) (by omega) (by omega) ?_
  exact kb_L_law_242 (R52 := R52) hl0 hI C0 hK hK2 hT hN hC hr hk52 σ τ t0 v4 v6 hq (cl + 0) (by omega) H locs hP hP2 hS ls (lv_sub hl [1, 2, 3, 0, 4, 5] rfl)
def kw_L_law_240 (L : Nat) (xs : Nat → Int32) (K52 : ka_S → ka_S → Int32 → Int32 → Prop)  (σ τ : ka_S) (v4 : Int32) (v6 : Int32) : Prop := kw_L_law_241 L xs K52 σ τ v4 v6 (0 : Int32)
set_option maxHeartbeats 4000000 in
set_option maxRecDepth 100000 in
theorem kb_L_law_240 {p : Program} {l : Launch} {e : Env} {s : State} {m : MethodId} {below : List Frame} {meth : Method} {c : Code} {G1 G2 : ka_G} {b L : Nat} {xs : Nat → Int32} (hl0 : l.stackTraces = false) (hI : ka_I2 G1 G2) (C0 : ka_C p s m #[.ref b] meth c code 7 "GlossRowsLaw" (some .boolean)) (hK : ka_Kn G1 s) (hK2 : ka_Kn G2 s) (hT : ka_T9 (ka_A2 G1 G2) s) (hN : kl_Nc s) (hC : klaw_C G1 G2 s b L xs) (hr : meth.sig.returnType = ret) {K52 : ka_S → ka_S → Int32 → Int32 → Prop} {R52 : Nat} (hk52 : ∀ (σ τ : ka_S) (v3 : Int32) (v4 : Int32), K52 σ τ v3 v4 → ∀ (cl : Nat), cl + R52 ≤ 600104 → ∀ (H : Heap) (locs : List Loc), ka_P G1 σ H → ka_P G2 τ H → va_S (ka_A2 G1 G2) s.heap H locs → ∀ ls : Array Slot, lv_has ls 7 [(0, .ref b), (1, .ref (ka_a G1 (22, 0, 0))), (2, .ref (ka_a G2 (22, 0, 0))), (3, .int v3), (4, .int v4)] → W p l e room_1 s m #[.ref b] below meth c H locs cl (6 * cl) (lw_Z below #[Value.ref b] s) (F0 m 52 ls [])) : ∀ (σ τ : ka_S) (v4 : Int32) (v6 : Int32), kw_L_law_240 L xs K52 σ τ v4 v6 → ∀ (cl : Nat), cl + 4712 + R52 ≤ 600104 → ∀ (H : Heap) (locs : List Loc), ka_P G1 σ H → ka_P G2 τ H → va_S (ka_A2 G1 G2) s.heap H locs → ∀ ls : Array Slot, lv_has ls 7 [(0, .ref b), (1, .ref (ka_a G1 (22, 0, 0))), (2, .ref (ka_a G2 (22, 0, 0))), (4, .int v4), (6, .int v6)] → W p l e room_1 s m #[.ref b] below meth c H locs cl (6 * cl) (lw_Z below #[Value.ref b] s) (F0 m 240 ls []) := by
  obtain ⟨hx, hb, -, hml, hown, hts, -⟩ := id C0
  intro σ τ v4 v6 hq cl hcl H locs hP hP2 hS ls hl
  unfold kw_L_law_240 at hq
  refine lv_iconst (v := 0) hx hb dL_law_240 (by decide) ?_
  refine W.widen (k := (cl + 0)) (n := 6 * (cl + 0)) (by omega) (by omega) ?_
  exact kb_L_law_241 (R52 := R52) hl0 hI C0 hK hK2 hT hN hC hr hk52 σ τ v4 v6 (0 : Int32) hq (cl + 0) (by omega) H locs hP hP2 hS ls (lv_sub hl [0, 1, 2, 3, 4] rfl)
def kw_L_law_193 (L : Nat) (xs : Nat → Int32) (K52 : ka_S → ka_S → Int32 → Int32 → Prop)  (σ τ : ka_S) (v3 : Int32) (v4 : Int32) (v6 : Int32) : Prop := ((v4 - v4 / (18 : Int32) * (18 : Int32)) = (17 : Int32) → (v3 = (0 : Int32) → kw_L_law_240 L xs K52 σ τ v4 v6) ∧
    (¬ v3 = (0 : Int32) → kw_L_follows τ v6 (fun r40 τ41 =>
      (r40 = (0 : Int32) → kw_L_law_240 L xs K52 σ τ41 v4 v6) ∧
      (¬ r40 = (0 : Int32) → kw0_L_save σ (1 : Int32) (fun r42 σ43 =>
        (r42 < (0 : Int64) → kw_L_law_240 L xs K52 σ43 τ41 v4 v6) ∧
        (¬ r42 < (0 : Int64) → kw0_L_restore σ43 (1 : Int32) (fun r44 σ45 =>
          (r44 < (0 : Int64) → kw_L_law_240 L xs K52 σ45 τ41 v4 v6) ∧
          (¬ r44 < (0 : Int64) → kw_L_law_241 L xs K52 σ45 τ41 v4 v6 (1 : Int32))))))))) ∧
  (¬ (v4 - v4 / (18 : Int32) * (18 : Int32)) = (17 : Int32) → kw_L_law_242 L xs K52 σ τ v3 v4 v6)
set_option maxHeartbeats 4000000 in
set_option maxRecDepth 100000 in
theorem kb_L_law_193 {p : Program} {l : Launch} {e : Env} {s : State} {m : MethodId} {below : List Frame} {meth : Method} {c : Code} {G1 G2 : ka_G} {b L : Nat} {xs : Nat → Int32} (hl0 : l.stackTraces = false) (hI : ka_I2 G1 G2) (C0 : ka_C p s m #[.ref b] meth c code 7 "GlossRowsLaw" (some .boolean)) (hK : ka_Kn G1 s) (hK2 : ka_Kn G2 s) (hT : ka_T9 (ka_A2 G1 G2) s) (hN : kl_Nc s) (hC : klaw_C G1 G2 s b L xs) (hr : meth.sig.returnType = ret) {K52 : ka_S → ka_S → Int32 → Int32 → Prop} {R52 : Nat} (hk52 : ∀ (σ τ : ka_S) (v3 : Int32) (v4 : Int32), K52 σ τ v3 v4 → ∀ (cl : Nat), cl + R52 ≤ 600104 → ∀ (H : Heap) (locs : List Loc), ka_P G1 σ H → ka_P G2 τ H → va_S (ka_A2 G1 G2) s.heap H locs → ∀ ls : Array Slot, lv_has ls 7 [(0, .ref b), (1, .ref (ka_a G1 (22, 0, 0))), (2, .ref (ka_a G2 (22, 0, 0))), (3, .int v3), (4, .int v4)] → W p l e room_1 s m #[.ref b] below meth c H locs cl (6 * cl) (lw_Z below #[Value.ref b] s) (F0 m 52 ls [])) : ∀ (σ τ : ka_S) (v3 : Int32) (v4 : Int32) (v6 : Int32), kw_L_law_193 L xs K52 σ τ v3 v4 v6 → ∀ (cl : Nat), cl + 4724 + R52 ≤ 600104 → ∀ (H : Heap) (locs : List Loc), ka_P G1 σ H → ka_P G2 τ H → va_S (ka_A2 G1 G2) s.heap H locs → ∀ ls : Array Slot, lv_has ls 7 [(0, .ref b), (1, .ref (ka_a G1 (22, 0, 0))), (2, .ref (ka_a G2 (22, 0, 0))), (3, .int v3), (4, .int v4), (6, .int v6)] → W p l e room_1 s m #[.ref b] below meth c H locs cl (6 * cl) (lw_Z below #[Value.ref b] s) (F0 m 193 ls []) := by
  obtain ⟨hx, hb, -, hml, hown, hts, -⟩ := id C0
  intro σ τ v3 v4 v6 hq cl hcl H locs hP hP2 hS ls hl
  unfold kw_L_law_193 at hq
  refine lv_iload hx hb dL_law_193 (lv_at hl 4 rfl) ?_
  refine lv_bipush (v := 18) hx hb dL_law_195 (by decide) ?_
  refine lv_irem hx hb dL_law_197 (by decide) ?_
  refine lv_bipush (v := 17) hx hb dL_law_198 (by decide) ?_
  refine lv_icmp_ne (tgt := 242) hx hb dL_law_200 (by decide) (fun hc => ?_) (fun hc => ?_)
  · have hq := hq.2 hc
    refine W.widen (k := (cl + 0)) (n := 6 * (cl + 0)) (by omega) (by omega) ?_
    exact kb_L_law_242 (R52 := R52) hl0 hI C0 hK hK2 hT hN hC hr hk52 σ τ v3 v4 v6 hq (cl + 0) (by omega) H locs hP hP2 hS ls (lv_sub hl [0, 1, 2, 3, 4, 5] rfl)
  · have hq := hq.1 hc
    refine lv_iload_n hx hb dL_law_203 rfl (lv_at hl 3 rfl) ?_
    refine lv_if_eq (tgt := 240) hx hb dL_law_204 (by decide) (fun hc => ?_) (fun hc => ?_)
    · have hq := hq.1 hc
      refine W.widen (k := (cl + 0)) (n := 6 * (cl + 0)) (by omega) (by omega) ?_
      exact kb_L_law_240 (R52 := R52) hl0 hI C0 hK hK2 hT hN hC hr hk52 σ τ v4 v6 hq (cl + 0) (by omega) H locs hP hP2 hS ls (lv_sub hl [0, 1, 2, 4, 5] rfl)
    · have hq := hq.2 hc
      refine lv_aload_n hx hb dL_law_207 rfl (lv_at hl 2 rfl) ?_
      refine lv_iload hx hb dL_law_208 (lv_at hl 5 rfl) ?_
      refine kj_Si (As := [.ref (ka_a G2 (22, 0, 0)), .int v6]) (rest := []) C0 hK2 hT hN hP2 hS (fun _ h => Or.inr h) hl (km_L_follows l hl0 hI.2.1 hq) kd_L_follows kq_962 ⟨rfl, rfl, Nat.le_of_ble_eq_true rfl, Nat.le_of_ble_eq_true rfl⟩ rfl (Nat.le_of_ble_eq_true rfl) dL_law_210 ⟨by show _ ≤ 600104; omega, by show _ ≤ 7301314; omega⟩ (fun r40 τ41 H locs hq hP2 hkp hS => ?_)
      replace hP := hP.far hI.2.2.2 hkp
      refine lv_if_eq (tgt := 240) hx hb dL_law_213 (by decide) (fun hc => ?_) (fun hc => ?_)
      · have hq := hq.1 hc
        refine W.widen (k := (cl + 12)) (n := 6 * (cl + 12)) (by omega) (by omega) ?_
        exact kb_L_law_240 (R52 := R52) hl0 hI C0 hK hK2 hT hN hC hr hk52 σ τ41 v4 v6 hq (cl + 12) (by omega) H locs hP hP2 hS ls (lv_sub hl [0, 1, 2, 4, 5] rfl)
      · have hq := hq.2 hc
        refine lv_aload_n hx hb dL_law_216 rfl (lv_at hl 1 rfl) ?_
        refine lv_iconst (v := 1) hx hb dL_law_217 (by decide) ?_
        refine kj_Wl (As := [.ref (ka_a G1 (22, 0, 0)), .int (1 : Int32)]) (rest := []) C0 hK hT hN hP hS (fun _ h => Or.inl h) hl (km0_L_save l hl0 hI.1 hq) kd_L_save kq_425 ⟨rfl, rfl, Nat.le_of_ble_eq_true rfl, Nat.le_of_ble_eq_true rfl⟩ rfl (Nat.le_of_ble_eq_true rfl) dL_law_218 ⟨by show _ ≤ 600104; omega, by show _ ≤ 7301314; omega⟩ (fun r42 σ43 H locs hq hP hkp hS => ?_)
        replace hP2 := hP2.far hI.2.2.1 hkp
        refine lv_lconst (v := 0) hx hb dL_law_221 (by decide) ?_
        refine kr_clt (tgt := 240) C0 dL_law_222 dL_law_223 (by decide) (fun hc => ?_) (fun hc => ?_)
        · have hq := hq.1 hc
          refine W.widen (k := (cl + 12)) (n := 6 * (cl + 12)) (by omega) (by omega) ?_
          exact kb_L_law_240 (R52 := R52) hl0 hI C0 hK hK2 hT hN hC hr hk52 σ43 τ41 v4 v6 hq (cl + 12) (by omega) H locs hP hP2 hS ls (lv_sub hl [0, 1, 2, 4, 5] rfl)
        · have hq := hq.2 hc
          refine lv_aload_n hx hb dL_law_226 rfl (lv_at hl 1 rfl) ?_
          refine lv_iconst (v := 1) hx hb dL_law_227 (by decide) ?_
          refine kj_Wl (As := [.ref (ka_a G1 (22, 0, 0)), .int (1 : Int32)]) (rest := []) C0 hK hT hN hP hS (fun _ h => Or.inl h) hl (km0_L_restore l hl0 hI.1 hq) kd_L_restore kq_462 ⟨rfl, rfl, Nat.le_of_ble_eq_true rfl, Nat.le_of_ble_eq_true rfl⟩ rfl (Nat.le_of_ble_eq_true rfl) dL_law_228 ⟨by show _ ≤ 600104; omega, by show _ ≤ 7301314; omega⟩ (fun r44 σ45 H locs hq hP hkp hS => ?_)
          replace hP2 := hP2.far hI.2.2.1 hkp
          refine lv_lconst (v := 0) hx hb dL_law_231 (by decide) ?_
          refine kr_clt (tgt := 240) C0 dL_law_232 dL_law_233 (by decide) (fun hc => ?_) (fun hc => ?_)
          · have hq := hq.1 hc
            refine W.widen (k := (cl + 12)) (n := 6 * (cl + 12)) (by omega) (by omega) ?_
            exact kb_L_law_240 (R52 := R52) hl0 hI C0 hK hK2 hT hN hC hr hk52 σ45 τ41 v4 v6 hq (cl + 12) (by omega) H locs hP hP2 hS ls (lv_sub hl [0, 1, 2, 4, 5] rfl)
          · have hq := hq.2 hc
            refine lv_iconst (v := 1) hx hb dL_law_236 (by decide) ?_
            refine lv_goto (tgt := 241) hx hb dL_law_237 (by decide) ?_
            refine W.widen (k := (cl + 12)) (n := 6 * (cl + 12)) (by omega) (by omega) ?_
            exact kb_L_law_241 (R52 := R52) hl0 hI C0 hK hK2 hT hN hC hr hk52 σ45 τ41 v4 v6 (1 : Int32) hq (cl + 12) (by omega) H locs hP hP2 hS ls (lv_sub hl [0, 1, 2, 4, 5] rfl)
def kw_L_law_192 (L : Nat) (xs : Nat → Int32) (K52 : ka_S → ka_S → Int32 → Int32 → Prop)  (σ τ : ka_S) (v4 : Int32) (v6 : Int32) (t0 : Int32) : Prop := kw_L_law_193 L xs K52 σ τ t0 v4 v6
set_option maxHeartbeats 4000000 in
set_option maxRecDepth 100000 in
theorem kb_L_law_192 {p : Program} {l : Launch} {e : Env} {s : State} {m : MethodId} {below : List Frame} {meth : Method} {c : Code} {G1 G2 : ka_G} {b L : Nat} {xs : Nat → Int32} (hl0 : l.stackTraces = false) (hI : ka_I2 G1 G2) (C0 : ka_C p s m #[.ref b] meth c code 7 "GlossRowsLaw" (some .boolean)) (hK : ka_Kn G1 s) (hK2 : ka_Kn G2 s) (hT : ka_T9 (ka_A2 G1 G2) s) (hN : kl_Nc s) (hC : klaw_C G1 G2 s b L xs) (hr : meth.sig.returnType = ret) {K52 : ka_S → ka_S → Int32 → Int32 → Prop} {R52 : Nat} (hk52 : ∀ (σ τ : ka_S) (v3 : Int32) (v4 : Int32), K52 σ τ v3 v4 → ∀ (cl : Nat), cl + R52 ≤ 600104 → ∀ (H : Heap) (locs : List Loc), ka_P G1 σ H → ka_P G2 τ H → va_S (ka_A2 G1 G2) s.heap H locs → ∀ ls : Array Slot, lv_has ls 7 [(0, .ref b), (1, .ref (ka_a G1 (22, 0, 0))), (2, .ref (ka_a G2 (22, 0, 0))), (3, .int v3), (4, .int v4)] → W p l e room_1 s m #[.ref b] below meth c H locs cl (6 * cl) (lw_Z below #[Value.ref b] s) (F0 m 52 ls [])) : ∀ (σ τ : ka_S) (v4 : Int32) (v6 : Int32) (t0 : Int32), kw_L_law_192 L xs K52 σ τ v4 v6 t0 → ∀ (cl : Nat), cl + 4724 + R52 ≤ 600104 → ∀ (H : Heap) (locs : List Loc), ka_P G1 σ H → ka_P G2 τ H → va_S (ka_A2 G1 G2) s.heap H locs → ∀ ls : Array Slot, lv_has ls 7 [(0, .ref b), (1, .ref (ka_a G1 (22, 0, 0))), (2, .ref (ka_a G2 (22, 0, 0))), (4, .int v4), (6, .int v6)] → W p l e room_1 s m #[.ref b] below meth c H locs cl (6 * cl) (lw_Z below #[Value.ref b] s) (F0 m 192 ls [.int t0]) := by
  obtain ⟨hx, hb, -, hml, hown, hts, -⟩ := id C0
  intro σ τ v4 v6 t0 hq cl hcl H locs hP hP2 hS ls hl
  unfold kw_L_law_192 at hq
  refine lv_istore_n (lv' := [(3, .int t0), (0, .ref b), (1, .ref (ka_a G1 (22, 0, 0))), (2, .ref (ka_a G2 (22, 0, 0))), (4, .int v4), (6, .int v6)]) hx hb dL_law_192 rfl hl (by decide) rfl (fun ls hl => ?_)
  refine W.widen (k := (cl + 0)) (n := 6 * (cl + 0)) (by omega) (by omega) ?_
  exact kb_L_law_193 (R52 := R52) hl0 hI C0 hK hK2 hT hN hC hr hk52 σ τ t0 v4 v6 hq (cl + 0) (by omega) H locs hP hP2 hS ls (lv_sub hl [1, 2, 3, 0, 4, 5] rfl)
def kw_L_law_191 (L : Nat) (xs : Nat → Int32) (K52 : ka_S → ka_S → Int32 → Int32 → Prop)  (σ τ : ka_S) (v4 : Int32) (v6 : Int32) : Prop := kw_L_law_192 L xs K52 σ τ v4 v6 (0 : Int32)
set_option maxHeartbeats 4000000 in
set_option maxRecDepth 100000 in
theorem kb_L_law_191 {p : Program} {l : Launch} {e : Env} {s : State} {m : MethodId} {below : List Frame} {meth : Method} {c : Code} {G1 G2 : ka_G} {b L : Nat} {xs : Nat → Int32} (hl0 : l.stackTraces = false) (hI : ka_I2 G1 G2) (C0 : ka_C p s m #[.ref b] meth c code 7 "GlossRowsLaw" (some .boolean)) (hK : ka_Kn G1 s) (hK2 : ka_Kn G2 s) (hT : ka_T9 (ka_A2 G1 G2) s) (hN : kl_Nc s) (hC : klaw_C G1 G2 s b L xs) (hr : meth.sig.returnType = ret) {K52 : ka_S → ka_S → Int32 → Int32 → Prop} {R52 : Nat} (hk52 : ∀ (σ τ : ka_S) (v3 : Int32) (v4 : Int32), K52 σ τ v3 v4 → ∀ (cl : Nat), cl + R52 ≤ 600104 → ∀ (H : Heap) (locs : List Loc), ka_P G1 σ H → ka_P G2 τ H → va_S (ka_A2 G1 G2) s.heap H locs → ∀ ls : Array Slot, lv_has ls 7 [(0, .ref b), (1, .ref (ka_a G1 (22, 0, 0))), (2, .ref (ka_a G2 (22, 0, 0))), (3, .int v3), (4, .int v4)] → W p l e room_1 s m #[.ref b] below meth c H locs cl (6 * cl) (lw_Z below #[Value.ref b] s) (F0 m 52 ls [])) : ∀ (σ τ : ka_S) (v4 : Int32) (v6 : Int32), kw_L_law_191 L xs K52 σ τ v4 v6 → ∀ (cl : Nat), cl + 4724 + R52 ≤ 600104 → ∀ (H : Heap) (locs : List Loc), ka_P G1 σ H → ka_P G2 τ H → va_S (ka_A2 G1 G2) s.heap H locs → ∀ ls : Array Slot, lv_has ls 7 [(0, .ref b), (1, .ref (ka_a G1 (22, 0, 0))), (2, .ref (ka_a G2 (22, 0, 0))), (4, .int v4), (6, .int v6)] → W p l e room_1 s m #[.ref b] below meth c H locs cl (6 * cl) (lw_Z below #[Value.ref b] s) (F0 m 191 ls []) := by
  obtain ⟨hx, hb, -, hml, hown, hts, -⟩ := id C0
  intro σ τ v4 v6 hq cl hcl H locs hP hP2 hS ls hl
  unfold kw_L_law_191 at hq
  refine lv_iconst (v := 0) hx hb dL_law_191 (by decide) ?_
  refine W.widen (k := (cl + 0)) (n := 6 * (cl + 0)) (by omega) (by omega) ?_
  exact kb_L_law_192 (R52 := R52) hl0 hI C0 hK hK2 hT hN hC hr hk52 σ τ v4 v6 (0 : Int32) hq (cl + 0) (by omega) H locs hP hP2 hS ls (lv_sub hl [0, 1, 2, 3, 4] rfl)
def kw_L_law_161 (L : Nat) (xs : Nat → Int32) (K52 : ka_S → ka_S → Int32 → Int32 → Prop)  (σ τ : ka_S) (v4 : Int32) (v6 : Int32) (t0 : Int32) : Prop := ((v4 - v4 / (4 : Int32) * (4 : Int32)) = (0 : Int32) → (t0 = (0 : Int32) → kw_L_law_191 L xs K52 σ τ v4 v6) ∧
    (¬ t0 = (0 : Int32) → kw_L_errors τ (fun r36 τ37 =>
      (r36 = (0 : Int32) → kw_L_law_191 L xs K52 σ τ37 v4 v6) ∧
      (¬ r36 = (0 : Int32) → kw_L_built τ37 (fun r38 τ39 =>
        (r38 = (0 : Int32) → kw_L_law_191 L xs K52 σ τ39 v4 v6) ∧
        (¬ r38 = (0 : Int32) → kw_L_law_192 L xs K52 σ τ39 v4 v6 (1 : Int32))))))) ∧
  (¬ (v4 - v4 / (4 : Int32) * (4 : Int32)) = (0 : Int32) → kw_L_law_193 L xs K52 σ τ t0 v4 v6)
set_option maxHeartbeats 4000000 in
set_option maxRecDepth 100000 in
theorem kb_L_law_161 {p : Program} {l : Launch} {e : Env} {s : State} {m : MethodId} {below : List Frame} {meth : Method} {c : Code} {G1 G2 : ka_G} {b L : Nat} {xs : Nat → Int32} (hl0 : l.stackTraces = false) (hI : ka_I2 G1 G2) (C0 : ka_C p s m #[.ref b] meth c code 7 "GlossRowsLaw" (some .boolean)) (hK : ka_Kn G1 s) (hK2 : ka_Kn G2 s) (hT : ka_T9 (ka_A2 G1 G2) s) (hN : kl_Nc s) (hC : klaw_C G1 G2 s b L xs) (hr : meth.sig.returnType = ret) {K52 : ka_S → ka_S → Int32 → Int32 → Prop} {R52 : Nat} (hk52 : ∀ (σ τ : ka_S) (v3 : Int32) (v4 : Int32), K52 σ τ v3 v4 → ∀ (cl : Nat), cl + R52 ≤ 600104 → ∀ (H : Heap) (locs : List Loc), ka_P G1 σ H → ka_P G2 τ H → va_S (ka_A2 G1 G2) s.heap H locs → ∀ ls : Array Slot, lv_has ls 7 [(0, .ref b), (1, .ref (ka_a G1 (22, 0, 0))), (2, .ref (ka_a G2 (22, 0, 0))), (3, .int v3), (4, .int v4)] → W p l e room_1 s m #[.ref b] below meth c H locs cl (6 * cl) (lw_Z below #[Value.ref b] s) (F0 m 52 ls [])) : ∀ (σ τ : ka_S) (v4 : Int32) (v6 : Int32) (t0 : Int32), kw_L_law_161 L xs K52 σ τ v4 v6 t0 → ∀ (cl : Nat), cl + 5217 + R52 ≤ 600104 → ∀ (H : Heap) (locs : List Loc), ka_P G1 σ H → ka_P G2 τ H → va_S (ka_A2 G1 G2) s.heap H locs → ∀ ls : Array Slot, lv_has ls 7 [(0, .ref b), (1, .ref (ka_a G1 (22, 0, 0))), (2, .ref (ka_a G2 (22, 0, 0))), (4, .int v4), (6, .int v6)] → W p l e room_1 s m #[.ref b] below meth c H locs cl (6 * cl) (lw_Z below #[Value.ref b] s) (F0 m 161 ls [.int t0]) := by
  obtain ⟨hx, hb, -, hml, hown, hts, -⟩ := id C0
  intro σ τ v4 v6 t0 hq cl hcl H locs hP hP2 hS ls hl
  unfold kw_L_law_161 at hq
  refine lv_istore_n (lv' := [(3, .int t0), (0, .ref b), (1, .ref (ka_a G1 (22, 0, 0))), (2, .ref (ka_a G2 (22, 0, 0))), (4, .int v4), (6, .int v6)]) hx hb dL_law_161 rfl hl (by decide) rfl (fun ls hl => ?_)
  refine lv_iload hx hb dL_law_162 (lv_at hl 4 rfl) ?_
  refine lv_iconst (v := 4) hx hb dL_law_164 (by decide) ?_
  refine lv_irem hx hb dL_law_165 (by decide) ?_
  refine lv_if_ne (tgt := 193) hx hb dL_law_166 (by decide) (fun hc => ?_) (fun hc => ?_)
  · have hq := hq.2 hc
    refine W.widen (k := (cl + 0)) (n := 6 * (cl + 0)) (by omega) (by omega) ?_
    exact kb_L_law_193 (R52 := R52) hl0 hI C0 hK hK2 hT hN hC hr hk52 σ τ t0 v4 v6 hq (cl + 0) (by omega) H locs hP hP2 hS ls (lv_sub hl [1, 2, 3, 0, 4, 5] rfl)
  · have hq := hq.1 hc
    refine lv_iload_n hx hb dL_law_169 rfl (lv_at hl 0 rfl) ?_
    refine lv_if_eq (tgt := 191) hx hb dL_law_170 (by decide) (fun hc => ?_) (fun hc => ?_)
    · have hq := hq.1 hc
      refine W.widen (k := (cl + 0)) (n := 6 * (cl + 0)) (by omega) (by omega) ?_
      exact kb_L_law_191 (R52 := R52) hl0 hI C0 hK hK2 hT hN hC hr hk52 σ τ v4 v6 hq (cl + 0) (by omega) H locs hP hP2 hS ls (lv_sub hl [1, 2, 3, 4, 5] rfl)
    · have hq := hq.2 hc
      refine lv_aload_n hx hb dL_law_173 rfl (lv_at hl 3 rfl) ?_
      refine kj_Si (As := [.ref (ka_a G2 (22, 0, 0))]) (rest := []) C0 hK2 hT hN hP2 hS (fun _ h => Or.inr h) hl (km_L_errors l hl0 hI.2.1 hq) kd_L_errors kq_837 ⟨rfl, rfl, Nat.le_of_ble_eq_true rfl, Nat.le_of_ble_eq_true rfl⟩ rfl (Nat.le_of_ble_eq_true rfl) dL_law_174 ⟨by show _ ≤ 600104; omega, by show _ ≤ 7301314; omega⟩ (fun r36 τ37 H locs hq hP2 hkp hS => ?_)
      replace hP := hP.far hI.2.2.2 hkp
      refine lv_if_eq (tgt := 191) hx hb dL_law_177 (by decide) (fun hc => ?_) (fun hc => ?_)
      · have hq := hq.1 hc
        refine W.widen (k := (cl + 493)) (n := 6 * (cl + 493)) (by omega) (by omega) ?_
        exact kb_L_law_191 (R52 := R52) hl0 hI C0 hK hK2 hT hN hC hr hk52 σ τ37 v4 v6 hq (cl + 493) (by omega) H locs hP hP2 hS ls (lv_sub hl [1, 2, 3, 4, 5] rfl)
      · have hq := hq.2 hc
        refine lv_aload_n hx hb dL_law_180 rfl (lv_at hl 3 rfl) ?_
        refine kj_Si (As := [.ref (ka_a G2 (22, 0, 0))]) (rest := []) C0 hK2 hT hN hP2 hS (fun _ h => Or.inr h) hl (km_L_built l hl0 hI.2.1 hq) kd_L_built kq_950 ⟨rfl, rfl, Nat.le_of_ble_eq_true rfl, Nat.le_of_ble_eq_true rfl⟩ rfl (Nat.le_of_ble_eq_true rfl) dL_law_181 ⟨by show _ ≤ 600104; omega, by show _ ≤ 7301314; omega⟩ (fun r38 τ39 H locs hq hP2 hkp hS => ?_)
        replace hP := hP.far hI.2.2.2 hkp
        refine lv_if_eq (tgt := 191) hx hb dL_law_184 (by decide) (fun hc => ?_) (fun hc => ?_)
        · have hq := hq.1 hc
          refine W.widen (k := (cl + 493)) (n := 6 * (cl + 493)) (by omega) (by omega) ?_
          exact kb_L_law_191 (R52 := R52) hl0 hI C0 hK hK2 hT hN hC hr hk52 σ τ39 v4 v6 hq (cl + 493) (by omega) H locs hP hP2 hS ls (lv_sub hl [1, 2, 3, 4, 5] rfl)
        · have hq := hq.2 hc
          refine lv_iconst (v := 1) hx hb dL_law_187 (by decide) ?_
          refine lv_goto (tgt := 192) hx hb dL_law_188 (by decide) ?_
          refine W.widen (k := (cl + 493)) (n := 6 * (cl + 493)) (by omega) (by omega) ?_
          exact kb_L_law_192 (R52 := R52) hl0 hI C0 hK hK2 hT hN hC hr hk52 σ τ39 v4 v6 (1 : Int32) hq (cl + 493) (by omega) H locs hP hP2 hS ls (lv_sub hl [1, 2, 3, 4, 5] rfl)
def kw_L_law_276 (L : Nat) (xs : Nat → Int32)  (σ τ : ka_S) (v3 : Int32) : Prop := (v3 = (0 : Int32) → (0 : Int32) = 1) ∧
  (¬ v3 = (0 : Int32) → kw_L_alike σ τ (83003 : Int32) (fun r33 σ34 τ35 =>
    (r33 = (0 : Int32) → (0 : Int32) = 1) ∧
    (¬ r33 = (0 : Int32) → (1 : Int32) = 1)))
set_option maxHeartbeats 4000000 in
set_option maxRecDepth 100000 in
theorem kb_L_law_276 {p : Program} {l : Launch} {e : Env} {s : State} {m : MethodId} {below : List Frame} {meth : Method} {c : Code} {G1 G2 : ka_G} {b L : Nat} {xs : Nat → Int32} (hl0 : l.stackTraces = false) (hI : ka_I2 G1 G2) (C0 : ka_C p s m #[.ref b] meth c code 7 "GlossRowsLaw" (some .boolean)) (hK : ka_Kn G1 s) (hK2 : ka_Kn G2 s) (hT : ka_T9 (ka_A2 G1 G2) s) (hN : kl_Nc s) (hC : klaw_C G1 G2 s b L xs) (hr : meth.sig.returnType = ret) : ∀ (σ τ : ka_S) (v3 : Int32), kw_L_law_276 L xs σ τ v3 → ∀ (cl : Nat), cl + 4712 ≤ 600104 → ∀ (H : Heap) (locs : List Loc), ka_P G1 σ H → ka_P G2 τ H → va_S (ka_A2 G1 G2) s.heap H locs → ∀ ls : Array Slot, lv_has ls 7 [(1, .ref (ka_a G1 (22, 0, 0))), (2, .ref (ka_a G2 (22, 0, 0))), (3, .int v3)] → W p l e room_1 s m #[.ref b] below meth c H locs cl (6 * cl) (lw_Z below #[Value.ref b] s) (F0 m 276 ls []) := by
  obtain ⟨hx, hb, -, hml, hown, hts, -⟩ := id C0
  intro σ τ v3 hq cl hcl H locs hP hP2 hS ls hl
  unfold kw_L_law_276 at hq
  refine lv_iload_n hx hb dL_law_276 rfl (lv_at hl 2 rfl) ?_
  refine lv_if_eq (tgt := 294) hx hb dL_law_277 (by decide) (fun hc => ?_) (fun hc => ?_)
  · have hq := hq.1 hc
    refine lv_iconst (v := 0) hx hb dL_law_294 (by decide) ?_
    exact klaw_end C0 hr hC hS hq dL_law_295 ⟨by omega, by omega⟩
  · have hq := hq.2 hc
    refine lv_aload_n hx hb dL_law_280 rfl (lv_at hl 0 rfl) ?_
    refine lv_aload_n hx hb dL_law_281 rfl (lv_at hl 1 rfl) ?_
    refine lv_ldc hx hb hown (hts _ kq_993) dL_law_282 ?_
    refine kj2_Si (As := [.ref (ka_a G1 (22, 0, 0)), .ref (ka_a G2 (22, 0, 0)), .int (83003 : Int32)]) (rest := []) C0 hK hK2 hT hN hP hP2 hS hl (km_L_alike l hl0 hI hq) kd_L_alike kq_470 ⟨rfl, rfl, Nat.le_of_ble_eq_true rfl, Nat.le_of_ble_eq_true rfl⟩ rfl (Nat.le_of_ble_eq_true rfl) dL_law_284 ⟨by show _ ≤ 600104; omega, by show _ ≤ 7301314; omega⟩ (fun r33 σ34 τ35 H locs hq hP hP2 hS => ?_)
    refine lv_if_eq (tgt := 294) hx hb dL_law_287 (by decide) (fun hc => ?_) (fun hc => ?_)
    · have hq := hq.1 hc
      refine lv_iconst (v := 0) hx hb dL_law_294 (by decide) ?_
      exact klaw_end C0 hr hC hS hq dL_law_295 ⟨by omega, by omega⟩
    · have hq := hq.2 hc
      refine lv_iconst (v := 1) hx hb dL_law_290 (by decide) ?_
      refine lv_goto (tgt := 295) hx hb dL_law_291 (by decide) ?_
      exact klaw_end C0 hr hC hS hq dL_law_295 ⟨by omega, by omega⟩
def kw_L_law_52 (L : Nat) (xs : Nat → Int32)  : Nat → ka_S → ka_S → Int32 → Int32 → Prop
  | 0, _, _, _, _ => False
  | n + 1, σ, τ, v3, v4 => ((36 : Int32) ≤ v4 → kw_L_law_276 L xs σ τ v3) ∧
    (¬ (36 : Int32) ≤ v4 → (v3 = (0 : Int32) → kw_L_law_276 L xs σ τ v3) ∧
      (¬ v3 = (0 : Int32) → ¬ ((2 : Int32) * v4) < 0 ∧
        ∀ x14 : Int32, x14 = (kf_draw L xs ((2 : Int32) * v4)) → 
        ¬ (((2 : Int32) * v4) + (1 : Int32)) < 0 ∧
        ∀ x16 : Int32, x16 = (kf_draw L xs (((2 : Int32) * v4) + (1 : Int32))) → 
        ((v4 - v4 / (18 : Int32) * (18 : Int32)) = (0 : Int32) → kw_L_tells σ x14 x16 (fun r21 σ22 =>
          (r21 = (0 : Int32) → ∀ x23 : Int32, x23 = v4 + (1 : Int32) →
            (kw_L_law_52 L xs n) σ22 τ (0 : Int32) x23) ∧
          (¬ r21 = (0 : Int32) → kw_L_tells τ x14 x16 (fun r24 τ25 =>
            (r24 = (0 : Int32) → ∀ x26 : Int32, x26 = v4 + (1 : Int32) →
              (kw_L_law_52 L xs n) σ22 τ25 (0 : Int32) x26) ∧
            (¬ r24 = (0 : Int32) → kw0_L_load σ22 (fun r27 σ28 =>
              kw0_L_load τ25 (fun r29 τ30 =>
              (r27 = r29 → ∀ x32 : Int32, x32 = v4 + (1 : Int32) →
                (kw_L_law_52 L xs n) σ28 τ30 (1 : Int32) x32) ∧
              (¬ r27 = r29 → ∀ x31 : Int32, x31 = v4 + (1 : Int32) →
                (kw_L_law_52 L xs n) σ28 τ30 (0 : Int32) x31)))))))) ∧
        (¬ (v4 - v4 / (18 : Int32) * (18 : Int32)) = (0 : Int32) → kw_L_act σ x14 x16 (fun r17 σ18 =>
          kw_L_act τ x14 x16 (fun r19 τ20 =>
          (r17 = r19 → kw_L_law_161 L xs (kw_L_law_52 L xs n) σ18 τ20 v4 x16 (1 : Int32)) ∧
          (¬ r17 = r19 → kw_L_law_161 L xs (kw_L_law_52 L xs n) σ18 τ20 v4 x16 (0 : Int32)))))))
set_option maxHeartbeats 4000000 in
set_option maxRecDepth 100000 in
theorem kb_L_law_52 {p : Program} {l : Launch} {e : Env} {s : State} {m : MethodId} {below : List Frame} {meth : Method} {c : Code} {G1 G2 : ka_G} {b L : Nat} {xs : Nat → Int32} (hl0 : l.stackTraces = false) (hI : ka_I2 G1 G2) (C0 : ka_C p s m #[.ref b] meth c code 7 "GlossRowsLaw" (some .boolean)) (hK : ka_Kn G1 s) (hK2 : ka_Kn G2 s) (hT : ka_T9 (ka_A2 G1 G2) s) (hN : kl_Nc s) (hC : klaw_C G1 G2 s b L xs) (hr : meth.sig.returnType = ret) : ∀ (n : Nat) (σ τ : ka_S) (v3 : Int32) (v4 : Int32), kw_L_law_52 L xs n σ τ v3 v4 → ∀ (cl : Nat), cl + 4712 + n * 5225 ≤ 600104 → ∀ (H : Heap) (locs : List Loc), ka_P G1 σ H → ka_P G2 τ H → va_S (ka_A2 G1 G2) s.heap H locs → ∀ ls : Array Slot, lv_has ls 7 [(0, .ref b), (1, .ref (ka_a G1 (22, 0, 0))), (2, .ref (ka_a G2 (22, 0, 0))), (3, .int v3), (4, .int v4)] → W p l e room_1 s m #[.ref b] below meth c H locs cl (6 * cl) (lw_Z below #[Value.ref b] s) (F0 m 52 ls []) := by
  obtain ⟨hx, hb, -, hml, hown, hts, -⟩ := id C0
  intro n
  induction n with
  | zero =>
    intro σ τ v3 v4 hq
    rw [kw_L_law_52] at hq
    exact hq.elim
  | succ n ih =>
    have ih9 : ∀ (σ τ : ka_S) (v3 : Int32) (v4 : Int32), kw_L_law_52 L xs n σ τ v3 v4 → ∀ (cl : Nat), cl + (4712 + n * 5225) ≤ 600104 → ∀ (H : Heap) (locs : List Loc), ka_P G1 σ H → ka_P G2 τ H → va_S (ka_A2 G1 G2) s.heap H locs → ∀ ls : Array Slot, lv_has ls 7 [(0, .ref b), (1, .ref (ka_a G1 (22, 0, 0))), (2, .ref (ka_a G2 (22, 0, 0))), (3, .int v3), (4, .int v4)] → W p l e room_1 s m #[.ref b] below meth c H locs cl (6 * cl) (lw_Z below #[Value.ref b] s) (F0 m 52 ls []) := fun σ τ v3 v4 hq cl h9 => ih σ τ v3 v4 hq cl (by omega)
    intro σ τ v3 v4 hq cl hcl H locs hP hP2 hS ls hl
    rw [kw_L_law_52] at hq
    refine lv_iload hx hb dL_law_52 (lv_at hl 4 rfl) ?_
    refine lv_bipush (v := 36) hx hb dL_law_54 (by decide) ?_
    refine lv_icmp_ge (tgt := 276) hx hb dL_law_56 (by decide) (fun hc => ?_) (fun hc => ?_)
    · have hq := hq.1 hc
      refine W.widen (k := (cl + 0)) (n := 6 * (cl + 0)) (by omega) (by omega) ?_
      exact kb_L_law_276 hl0 hI C0 hK hK2 hT hN hC hr σ τ v3 hq (cl + 0) (by omega) H locs hP hP2 hS ls (lv_sub hl [1, 2, 3] rfl)
    · have hq := hq.2 hc
      refine lv_iload_n hx hb dL_law_59 rfl (lv_at hl 3 rfl) ?_
      refine lv_if_eq (tgt := 276) hx hb dL_law_60 (by decide) (fun hc => ?_) (fun hc => ?_)
      · have hq := hq.1 hc
        refine W.widen (k := (cl + 0)) (n := 6 * (cl + 0)) (by omega) (by omega) ?_
        exact kb_L_law_276 hl0 hI C0 hK hK2 hT hN hC hr σ τ v3 hq (cl + 0) (by omega) H locs hP hP2 hS ls (lv_sub hl [1, 2, 3] rfl)
      · have hq := hq.2 hc
        refine lv_aload_n hx hb dL_law_63 rfl (lv_at hl 0 rfl) ?_
        refine lv_iconst (v := 2) hx hb dL_law_64 (by decide) ?_
        refine lv_iload hx hb dL_law_65 (lv_at hl 4 rfl) ?_
        refine lv_imul hx hb dL_law_67 ?_
        obtain ⟨hk0, hq⟩ := hq
        refine klaw_draw (rest := []) C0 hC hS hl hk0 kq_257 ⟨by show _ ≤ 600104; omega, by show _ ≤ 7301314; omega⟩ (Nat.le_of_ble_eq_true rfl) dL_law_68 (fun H locs hkp hS => ?_)
        replace hP := hP.far (B := fun _ => False) (fun _ _ h => h) hkp
        replace hP2 := hP2.far (B := fun _ => False) (fun _ _ h => h) hkp
        refine lv_topi (fun x14 ex14 => ?_)
        have hq := hq x14 ex14
        refine lv_istore (lv' := [(5, .int x14), (0, .ref b), (1, .ref (ka_a G1 (22, 0, 0))), (2, .ref (ka_a G2 (22, 0, 0))), (3, .int v3), (4, .int v4)]) hx hb dL_law_71 hl (by decide) rfl (fun ls hl => ?_)
        refine lv_aload_n hx hb dL_law_73 rfl (lv_at hl 1 rfl) ?_
        refine lv_iconst (v := 2) hx hb dL_law_74 (by decide) ?_
        refine lv_iload hx hb dL_law_75 (lv_at hl 5 rfl) ?_
        refine lv_imul hx hb dL_law_77 ?_
        refine lv_iconst (v := 1) hx hb dL_law_78 (by decide) ?_
        refine lv_iadd hx hb dL_law_79 ?_
        obtain ⟨hk0, hq⟩ := hq
        refine klaw_draw (rest := []) C0 hC hS hl hk0 kq_257 ⟨by show _ ≤ 600104; omega, by show _ ≤ 7301314; omega⟩ (Nat.le_of_ble_eq_true rfl) dL_law_80 (fun H locs hkp hS => ?_)
        replace hP := hP.far (B := fun _ => False) (fun _ _ h => h) hkp
        replace hP2 := hP2.far (B := fun _ => False) (fun _ _ h => h) hkp
        refine lv_topi (fun x16 ex16 => ?_)
        have hq := hq x16 ex16
        refine lv_istore (lv' := [(6, .int x16), (5, .int x14), (0, .ref b), (1, .ref (ka_a G1 (22, 0, 0))), (2, .ref (ka_a G2 (22, 0, 0))), (3, .int v3), (4, .int v4)]) hx hb dL_law_83 hl (by decide) rfl (fun ls hl => ?_)
        refine lv_iload hx hb dL_law_85 (lv_at hl 6 rfl) ?_
        refine lv_bipush (v := 18) hx hb dL_law_87 (by decide) ?_
        refine lv_irem hx hb dL_law_89 (by decide) ?_
        refine lv_if_ne (tgt := 136) hx hb dL_law_90 (by decide) (fun hc => ?_) (fun hc => ?_)
        · have hq := hq.2 hc
          refine lv_aload_n hx hb dL_law_136 rfl (lv_at hl 3 rfl) ?_
          refine lv_iload hx hb dL_law_137 (lv_at hl 1 rfl) ?_
          refine lv_iload hx hb dL_law_139 (lv_at hl 0 rfl) ?_
          refine kj_Sl (As := [.ref (ka_a G1 (22, 0, 0)), .int x14, .int x16]) (rest := []) C0 hK hT hN hP hS (fun _ h => Or.inl h) hl (km_L_act l hl0 hI.1 hq) kd_L_act kq_989 ⟨rfl, rfl, Nat.le_of_ble_eq_true rfl, Nat.le_of_ble_eq_true rfl⟩ rfl (Nat.le_of_ble_eq_true rfl) dL_law_141 ⟨by show _ ≤ 600104; omega, by show _ ≤ 7301314; omega⟩ (fun r17 σ18 H locs hq hP hkp hS => ?_)
          replace hP2 := hP2.far hI.2.2.1 hkp
          refine lv_aload_n hx hb dL_law_144 rfl (lv_at hl 4 rfl) ?_
          refine lv_iload hx hb dL_law_145 (lv_at hl 1 rfl) ?_
          refine lv_iload hx hb dL_law_147 (lv_at hl 0 rfl) ?_
          refine kj_Sl (As := [.ref (ka_a G2 (22, 0, 0)), .int x14, .int x16]) (rest := [.long r17]) C0 hK2 hT hN hP2 hS (fun _ h => Or.inr h) hl (km_L_act l hl0 hI.2.1 hq) kd_L_act kq_989 ⟨rfl, rfl, Nat.le_of_ble_eq_true rfl, Nat.le_of_ble_eq_true rfl⟩ rfl (Nat.le_of_ble_eq_true rfl) dL_law_149 ⟨by show _ ≤ 600104; omega, by show _ ≤ 7301314; omega⟩ (fun r19 τ20 H locs hq hP2 hkp hS => ?_)
          replace hP := hP.far hI.2.2.2 hkp
          refine kr_cne (tgt := 160) C0 dL_law_152 dL_law_153 (by decide) (fun hc => ?_) (fun hc => ?_)
          · have hq := hq.2 hc
            refine lv_iconst (v := 0) hx hb dL_law_160 (by decide) ?_
            refine W.widen (k := (cl + 8)) (n := 6 * (cl + 8)) (by omega) (by omega) ?_
            exact kb_L_law_161 (R52 := (4712 + n * 5225)) hl0 hI C0 hK hK2 hT hN hC hr ih9 σ18 τ20 v4 x16 (0 : Int32) hq (cl + 8) (by omega) H locs hP hP2 hS ls (lv_sub hl [2, 3, 4, 6, 0] rfl)
          · have hq := hq.1 hc
            refine lv_iconst (v := 1) hx hb dL_law_156 (by decide) ?_
            refine lv_goto (tgt := 161) hx hb dL_law_157 (by decide) ?_
            refine W.widen (k := (cl + 8)) (n := 6 * (cl + 8)) (by omega) (by omega) ?_
            exact kb_L_law_161 (R52 := (4712 + n * 5225)) hl0 hI C0 hK hK2 hT hN hC hr ih9 σ18 τ20 v4 x16 (1 : Int32) hq (cl + 8) (by omega) H locs hP hP2 hS ls (lv_sub hl [2, 3, 4, 6, 0] rfl)
        · have hq := hq.1 hc
          refine lv_aload_n hx hb dL_law_93 rfl (lv_at hl 3 rfl) ?_
          refine lv_iload hx hb dL_law_94 (lv_at hl 1 rfl) ?_
          refine lv_iload hx hb dL_law_96 (lv_at hl 0 rfl) ?_
          refine kj_Si (As := [.ref (ka_a G1 (22, 0, 0)), .int x14, .int x16]) (rest := []) C0 hK hT hN hP hS (fun _ h => Or.inl h) hl (km_L_tells l hl0 hI.1 hq) kd_L_tells kq_982 ⟨rfl, rfl, Nat.le_of_ble_eq_true rfl, Nat.le_of_ble_eq_true rfl⟩ rfl (Nat.le_of_ble_eq_true rfl) dL_law_98 ⟨by show _ ≤ 600104; omega, by show _ ≤ 7301314; omega⟩ (fun r21 σ22 H locs hq hP hkp hS => ?_)
          replace hP2 := hP2.far hI.2.2.1 hkp
          refine lv_if_eq (tgt := 131) hx hb dL_law_101 (by decide) (fun hc => ?_) (fun hc => ?_)
          · have hq := hq.1 hc
            refine lv_iconst (v := 0) hx hb dL_law_131 (by decide) ?_
            refine lv_istore_n (lv' := [(3, .int (0 : Int32)), (6, .int x16), (5, .int x14), (0, .ref b), (1, .ref (ka_a G1 (22, 0, 0))), (2, .ref (ka_a G2 (22, 0, 0))), (4, .int v4)]) hx hb dL_law_132 rfl hl (by decide) rfl (fun ls hl => ?_)
            refine lv_goto (tgt := 270) hx hb dL_law_133 (by decide) ?_
            obtain ⟨x23, ex23⟩ : ∃ y : Int32, y = v4 + (1 : Int32) := ⟨_, rfl⟩
            have hq := hq x23 ex23
            refine lv_iinc (v := x23) (lv' := [(4, .int x23), (3, .int (0 : Int32)), (6, .int x16), (5, .int x14), (0, .ref b), (1, .ref (ka_a G1 (22, 0, 0))), (2, .ref (ka_a G2 (22, 0, 0)))]) hx hb dL_law_270 hl (k := 6) rfl (by rw [ex23]; rfl) (by decide) rfl (fun ls hl => ?_)
            refine lv_goto (tgt := 52) hx hb dL_law_273 (by decide) ?_
            refine W.widen (k := (cl + 0)) (n := 6 * (cl + 0)) (by omega) (by omega) ?_
            exact ih9 σ22 τ (0 : Int32) x23 hq (cl + 0) (by omega) H locs hP hP2 hS ls (lv_sub hl [4, 5, 6, 1, 0] rfl)
          · have hq := hq.2 hc
            refine lv_aload_n hx hb dL_law_104 rfl (lv_at hl 4 rfl) ?_
            refine lv_iload hx hb dL_law_105 (lv_at hl 1 rfl) ?_
            refine lv_iload hx hb dL_law_107 (lv_at hl 0 rfl) ?_
            refine kj_Si (As := [.ref (ka_a G2 (22, 0, 0)), .int x14, .int x16]) (rest := []) C0 hK2 hT hN hP2 hS (fun _ h => Or.inr h) hl (km_L_tells l hl0 hI.2.1 hq) kd_L_tells kq_982 ⟨rfl, rfl, Nat.le_of_ble_eq_true rfl, Nat.le_of_ble_eq_true rfl⟩ rfl (Nat.le_of_ble_eq_true rfl) dL_law_109 ⟨by show _ ≤ 600104; omega, by show _ ≤ 7301314; omega⟩ (fun r24 τ25 H locs hq hP2 hkp hS => ?_)
            replace hP := hP.far hI.2.2.2 hkp
            refine lv_if_eq (tgt := 131) hx hb dL_law_112 (by decide) (fun hc => ?_) (fun hc => ?_)
            · have hq := hq.1 hc
              refine lv_iconst (v := 0) hx hb dL_law_131 (by decide) ?_
              refine lv_istore_n (lv' := [(3, .int (0 : Int32)), (6, .int x16), (5, .int x14), (0, .ref b), (1, .ref (ka_a G1 (22, 0, 0))), (2, .ref (ka_a G2 (22, 0, 0))), (4, .int v4)]) hx hb dL_law_132 rfl hl (by decide) rfl (fun ls hl => ?_)
              refine lv_goto (tgt := 270) hx hb dL_law_133 (by decide) ?_
              obtain ⟨x26, ex26⟩ : ∃ y : Int32, y = v4 + (1 : Int32) := ⟨_, rfl⟩
              have hq := hq x26 ex26
              refine lv_iinc (v := x26) (lv' := [(4, .int x26), (3, .int (0 : Int32)), (6, .int x16), (5, .int x14), (0, .ref b), (1, .ref (ka_a G1 (22, 0, 0))), (2, .ref (ka_a G2 (22, 0, 0)))]) hx hb dL_law_270 hl (k := 6) rfl (by rw [ex26]; rfl) (by decide) rfl (fun ls hl => ?_)
              refine lv_goto (tgt := 52) hx hb dL_law_273 (by decide) ?_
              refine W.widen (k := (cl + 0)) (n := 6 * (cl + 0)) (by omega) (by omega) ?_
              exact ih9 σ22 τ25 (0 : Int32) x26 hq (cl + 0) (by omega) H locs hP hP2 hS ls (lv_sub hl [4, 5, 6, 1, 0] rfl)
            · have hq := hq.2 hc
              refine lv_aload_n hx hb dL_law_115 rfl (lv_at hl 3 rfl) ?_
              refine kj_Wl (As := [.ref (ka_a G1 (22, 0, 0))]) (rest := []) C0 hK hT hN hP hS (fun _ h => Or.inl h) hl (km0_L_load l hl0 hI.1 hq) kd_L_load kq_262 ⟨rfl, rfl, Nat.le_of_ble_eq_true rfl, Nat.le_of_ble_eq_true rfl⟩ rfl (Nat.le_of_ble_eq_true rfl) dL_law_116 ⟨by show _ ≤ 600104; omega, by show _ ≤ 7301314; omega⟩ (fun r27 σ28 H locs hq hP hkp hS => ?_)
              replace hP2 := hP2.far hI.2.2.1 hkp
              refine lv_aload_n hx hb dL_law_119 rfl (lv_at hl 4 rfl) ?_
              refine kj_Wl (As := [.ref (ka_a G2 (22, 0, 0))]) (rest := [.long r27]) C0 hK2 hT hN hP2 hS (fun _ h => Or.inr h) hl (km0_L_load l hl0 hI.2.1 hq) kd_L_load kq_262 ⟨rfl, rfl, Nat.le_of_ble_eq_true rfl, Nat.le_of_ble_eq_true rfl⟩ rfl (Nat.le_of_ble_eq_true rfl) dL_law_120 ⟨by show _ ≤ 600104; omega, by show _ ≤ 7301314; omega⟩ (fun r29 τ30 H locs hq hP2 hkp hS => ?_)
              replace hP := hP.far hI.2.2.2 hkp
              refine kr_cne (tgt := 131) C0 dL_law_123 dL_law_124 (by decide) (fun hc => ?_) (fun hc => ?_)
              · have hq := hq.2 hc
                refine lv_iconst (v := 0) hx hb dL_law_131 (by decide) ?_
                refine lv_istore_n (lv' := [(3, .int (0 : Int32)), (6, .int x16), (5, .int x14), (0, .ref b), (1, .ref (ka_a G1 (22, 0, 0))), (2, .ref (ka_a G2 (22, 0, 0))), (4, .int v4)]) hx hb dL_law_132 rfl hl (by decide) rfl (fun ls hl => ?_)
                refine lv_goto (tgt := 270) hx hb dL_law_133 (by decide) ?_
                obtain ⟨x31, ex31⟩ : ∃ y : Int32, y = v4 + (1 : Int32) := ⟨_, rfl⟩
                have hq := hq x31 ex31
                refine lv_iinc (v := x31) (lv' := [(4, .int x31), (3, .int (0 : Int32)), (6, .int x16), (5, .int x14), (0, .ref b), (1, .ref (ka_a G1 (22, 0, 0))), (2, .ref (ka_a G2 (22, 0, 0)))]) hx hb dL_law_270 hl (k := 6) rfl (by rw [ex31]; rfl) (by decide) rfl (fun ls hl => ?_)
                refine lv_goto (tgt := 52) hx hb dL_law_273 (by decide) ?_
                refine W.widen (k := (cl + 0)) (n := 6 * (cl + 0)) (by omega) (by omega) ?_
                exact ih9 σ28 τ30 (0 : Int32) x31 hq (cl + 0) (by omega) H locs hP hP2 hS ls (lv_sub hl [4, 5, 6, 1, 0] rfl)
              · have hq := hq.1 hc
                refine lv_iconst (v := 1) hx hb dL_law_127 (by decide) ?_
                refine lv_goto (tgt := 132) hx hb dL_law_128 (by decide) ?_
                refine lv_istore_n (lv' := [(3, .int (1 : Int32)), (6, .int x16), (5, .int x14), (0, .ref b), (1, .ref (ka_a G1 (22, 0, 0))), (2, .ref (ka_a G2 (22, 0, 0))), (4, .int v4)]) hx hb dL_law_132 rfl hl (by decide) rfl (fun ls hl => ?_)
                refine lv_goto (tgt := 270) hx hb dL_law_133 (by decide) ?_
                obtain ⟨x32, ex32⟩ : ∃ y : Int32, y = v4 + (1 : Int32) := ⟨_, rfl⟩
                have hq := hq x32 ex32
                refine lv_iinc (v := x32) (lv' := [(4, .int x32), (3, .int (1 : Int32)), (6, .int x16), (5, .int x14), (0, .ref b), (1, .ref (ka_a G1 (22, 0, 0))), (2, .ref (ka_a G2 (22, 0, 0)))]) hx hb dL_law_270 hl (k := 6) rfl (by rw [ex32]; rfl) (by decide) rfl (fun ls hl => ?_)
                refine lv_goto (tgt := 52) hx hb dL_law_273 (by decide) ?_
                refine W.widen (k := (cl + 0)) (n := 6 * (cl + 0)) (by omega) (by omega) ?_
                exact ih9 σ28 τ30 (1 : Int32) x32 hq (cl + 0) (by omega) H locs hP hP2 hS ls (lv_sub hl [4, 5, 6, 1, 0] rfl)
def kw_L_law (σ τ : ka_S) (L : Nat) (xs : Nat → Int32)  : Prop := ¬ (0 : Int32) < 0 ∧
  kw_L_alike σ τ (kf_draw L xs (0 : Int32)) (fun r2 σ3 τ4 =>
  (r2 = (0 : Int32) → ∃ n5 : Nat, n5 ≤ 37 ∧ kw_L_law_52 L xs n5 σ3 τ4 (0 : Int32) (0 : Int32)) ∧
  (¬ r2 = (0 : Int32) → kw_L_errors σ3 (fun r6 σ7 =>
    (r6 = (0 : Int32) → ∃ n8 : Nat, n8 ≤ 37 ∧ kw_L_law_52 L xs n8 σ7 τ4 (0 : Int32) (0 : Int32)) ∧
    (¬ r6 = (0 : Int32) → kw_L_built σ7 (fun r9 σ10 =>
      (r9 = (0 : Int32) → ∃ n11 : Nat, n11 ≤ 37 ∧ kw_L_law_52 L xs n11 σ10 τ4 (0 : Int32) (0 : Int32)) ∧
      (¬ r9 = (0 : Int32) → ∃ n12 : Nat, n12 ≤ 37 ∧ kw_L_law_52 L xs n12 σ10 τ4 (1 : Int32) (0 : Int32)))))))
set_option maxHeartbeats 4000000 in
set_option maxRecDepth 100000 in
/-- the law behind its constructors -/
theorem km_L_law {p : Program} {l : Launch} {e : Env} {s : State} {m : MethodId} {below : List Frame} {meth : Method} {c : Code} {G1 G2 : ka_G} {b L : Nat} {xs : Nat → Int32} (hl0 : l.stackTraces = false) (hI : ka_I2 G1 G2) (C0 : ka_C p s m #[.ref b] meth c code 7 "GlossRowsLaw" (some .boolean)) (hK : ka_Kn G1 s) (hK2 : ka_Kn G2 s) (hT : ka_T9 (ka_A2 G1 G2) s) (hN : kl_Nc s) (hC : klaw_C G1 G2 s b L xs) (hr : meth.sig.returnType = ret) {σ τ : ka_S} (hq : kw_L_law σ τ L xs) {cl : Nat} (hcl : cl + 203242 ≤ 600104) {H : Heap} {locs : List Loc} (hP : ka_P G1 σ H) (hP2 : ka_P G2 τ H) (hS : va_S (ka_A2 G1 G2) s.heap H locs) {ls : Array Slot} (hl : lv_has ls 7 [(0, .ref b), (1, .ref (ka_a G1 (22, 0, 0))), (2, .ref (ka_a G2 (22, 0, 0)))]) : W p l e room_1 s m #[.ref b] below meth c H locs cl (6 * cl) (lw_Z below #[Value.ref b] s) (F0 m 16 ls []) := by
  obtain ⟨hx, hb, -, hml, hown, hts, -⟩ := id C0
  unfold kw_L_law at hq
  refine lv_aload_n hx hb dL_law_16 rfl (lv_at hl 1 rfl) ?_
  refine lv_aload_n hx hb dL_law_17 rfl (lv_at hl 2 rfl) ?_
  refine lv_aload_n hx hb dL_law_18 rfl (lv_at hl 0 rfl) ?_
  refine lv_iconst (v := 0) hx hb dL_law_19 (by decide) ?_
  obtain ⟨hk0, hq⟩ := hq
  refine klaw_draw (rest := [.ref (ka_a G2 (22, 0, 0)), .ref (ka_a G1 (22, 0, 0))]) C0 hC hS hl hk0 kq_257 ⟨by show _ ≤ 600104; omega, by show _ ≤ 7301314; omega⟩ (Nat.le_of_ble_eq_true rfl) dL_law_20 (fun H locs hkp hS => ?_)
  replace hP := hP.far (B := fun _ => False) (fun _ _ h => h) hkp
  replace hP2 := hP2.far (B := fun _ => False) (fun _ _ h => h) hkp
  refine kj2_Si (As := [.ref (ka_a G1 (22, 0, 0)), .ref (ka_a G2 (22, 0, 0)), .int (kf_draw L xs (0 : Int32))]) (rest := []) C0 hK hK2 hT hN hP hP2 hS hl (km_L_alike l hl0 hI hq) kd_L_alike kq_470 ⟨rfl, rfl, Nat.le_of_ble_eq_true rfl, Nat.le_of_ble_eq_true rfl⟩ rfl (Nat.le_of_ble_eq_true rfl) dL_law_23 ⟨by show _ ≤ 600104; omega, by show _ ≤ 7301314; omega⟩ (fun r2 σ3 τ4 H locs hq hP hP2 hS => ?_)
  refine lv_if_eq (tgt := 47) hx hb dL_law_26 (by decide) (fun hc => ?_) (fun hc => ?_)
  · have hq := hq.1 hc
    refine lv_iconst (v := 0) hx hb dL_law_47 (by decide) ?_
    refine lv_istore_n (lv' := [(3, .int (0 : Int32)), (0, .ref b), (1, .ref (ka_a G1 (22, 0, 0))), (2, .ref (ka_a G2 (22, 0, 0)))]) hx hb dL_law_48 rfl hl (by decide) rfl (fun ls hl => ?_)
    refine lv_iconst (v := 0) hx hb dL_law_49 (by decide) ?_
    refine lv_istore (lv' := [(4, .int (0 : Int32)), (3, .int (0 : Int32)), (0, .ref b), (1, .ref (ka_a G1 (22, 0, 0))), (2, .ref (ka_a G2 (22, 0, 0)))]) hx hb dL_law_50 hl (by decide) rfl (fun ls hl => ?_)
    obtain ⟨n5, hn5, hq⟩ := hq
    refine W.widen (k := (cl + 4712)) (n := 6 * (cl + 4712)) (by omega) (by omega) ?_
    exact kb_L_law_52 hl0 hI C0 hK hK2 hT hN hC hr n5 σ3 τ4 (0 : Int32) (0 : Int32) hq (cl + 4712) (by omega) H locs hP hP2 hS ls (lv_sub hl [2, 3, 4, 1, 0] rfl)
  · have hq := hq.2 hc
    refine lv_aload_n hx hb dL_law_29 rfl (lv_at hl 1 rfl) ?_
    refine kj_Si (As := [.ref (ka_a G1 (22, 0, 0))]) (rest := []) C0 hK hT hN hP hS (fun _ h => Or.inl h) hl (km_L_errors l hl0 hI.1 hq) kd_L_errors kq_837 ⟨rfl, rfl, Nat.le_of_ble_eq_true rfl, Nat.le_of_ble_eq_true rfl⟩ rfl (Nat.le_of_ble_eq_true rfl) dL_law_30 ⟨by show _ ≤ 600104; omega, by show _ ≤ 7301314; omega⟩ (fun r6 σ7 H locs hq hP hkp hS => ?_)
    replace hP2 := hP2.far hI.2.2.1 hkp
    refine lv_if_eq (tgt := 47) hx hb dL_law_33 (by decide) (fun hc => ?_) (fun hc => ?_)
    · have hq := hq.1 hc
      refine lv_iconst (v := 0) hx hb dL_law_47 (by decide) ?_
      refine lv_istore_n (lv' := [(3, .int (0 : Int32)), (0, .ref b), (1, .ref (ka_a G1 (22, 0, 0))), (2, .ref (ka_a G2 (22, 0, 0)))]) hx hb dL_law_48 rfl hl (by decide) rfl (fun ls hl => ?_)
      refine lv_iconst (v := 0) hx hb dL_law_49 (by decide) ?_
      refine lv_istore (lv' := [(4, .int (0 : Int32)), (3, .int (0 : Int32)), (0, .ref b), (1, .ref (ka_a G1 (22, 0, 0))), (2, .ref (ka_a G2 (22, 0, 0)))]) hx hb dL_law_50 hl (by decide) rfl (fun ls hl => ?_)
      obtain ⟨n8, hn8, hq⟩ := hq
      refine W.widen (k := (cl + 5205)) (n := 6 * (cl + 5205)) (by omega) (by omega) ?_
      exact kb_L_law_52 hl0 hI C0 hK hK2 hT hN hC hr n8 σ7 τ4 (0 : Int32) (0 : Int32) hq (cl + 5205) (by omega) H locs hP hP2 hS ls (lv_sub hl [2, 3, 4, 1, 0] rfl)
    · have hq := hq.2 hc
      refine lv_aload_n hx hb dL_law_36 rfl (lv_at hl 1 rfl) ?_
      refine kj_Si (As := [.ref (ka_a G1 (22, 0, 0))]) (rest := []) C0 hK hT hN hP hS (fun _ h => Or.inl h) hl (km_L_built l hl0 hI.1 hq) kd_L_built kq_950 ⟨rfl, rfl, Nat.le_of_ble_eq_true rfl, Nat.le_of_ble_eq_true rfl⟩ rfl (Nat.le_of_ble_eq_true rfl) dL_law_37 ⟨by show _ ≤ 600104; omega, by show _ ≤ 7301314; omega⟩ (fun r9 σ10 H locs hq hP hkp hS => ?_)
      replace hP2 := hP2.far hI.2.2.1 hkp
      refine lv_if_eq (tgt := 47) hx hb dL_law_40 (by decide) (fun hc => ?_) (fun hc => ?_)
      · have hq := hq.1 hc
        refine lv_iconst (v := 0) hx hb dL_law_47 (by decide) ?_
        refine lv_istore_n (lv' := [(3, .int (0 : Int32)), (0, .ref b), (1, .ref (ka_a G1 (22, 0, 0))), (2, .ref (ka_a G2 (22, 0, 0)))]) hx hb dL_law_48 rfl hl (by decide) rfl (fun ls hl => ?_)
        refine lv_iconst (v := 0) hx hb dL_law_49 (by decide) ?_
        refine lv_istore (lv' := [(4, .int (0 : Int32)), (3, .int (0 : Int32)), (0, .ref b), (1, .ref (ka_a G1 (22, 0, 0))), (2, .ref (ka_a G2 (22, 0, 0)))]) hx hb dL_law_50 hl (by decide) rfl (fun ls hl => ?_)
        obtain ⟨n11, hn11, hq⟩ := hq
        refine W.widen (k := (cl + 5205)) (n := 6 * (cl + 5205)) (by omega) (by omega) ?_
        exact kb_L_law_52 hl0 hI C0 hK hK2 hT hN hC hr n11 σ10 τ4 (0 : Int32) (0 : Int32) hq (cl + 5205) (by omega) H locs hP hP2 hS ls (lv_sub hl [2, 3, 4, 1, 0] rfl)
      · have hq := hq.2 hc
        refine lv_iconst (v := 1) hx hb dL_law_43 (by decide) ?_
        refine lv_goto (tgt := 48) hx hb dL_law_44 (by decide) ?_
        refine lv_istore_n (lv' := [(3, .int (1 : Int32)), (0, .ref b), (1, .ref (ka_a G1 (22, 0, 0))), (2, .ref (ka_a G2 (22, 0, 0)))]) hx hb dL_law_48 rfl hl (by decide) rfl (fun ls hl => ?_)
        refine lv_iconst (v := 0) hx hb dL_law_49 (by decide) ?_
        refine lv_istore (lv' := [(4, .int (0 : Int32)), (3, .int (1 : Int32)), (0, .ref b), (1, .ref (ka_a G1 (22, 0, 0))), (2, .ref (ka_a G2 (22, 0, 0)))]) hx hb dL_law_50 hl (by decide) rfl (fun ls hl => ?_)
        obtain ⟨n12, hn12, hq⟩ := hq
        refine W.widen (k := (cl + 5205)) (n := 6 * (cl + 5205)) (by omega) (by omega) ?_
        exact kb_L_law_52 hl0 hI C0 hK hK2 hT hN hC hr n12 σ10 τ4 (1 : Int32) (0 : Int32) hq (cl + 5205) (by omega) H locs hP hP2 hS ls (lv_sub hl [2, 3, 4, 1, 0] rfl)
