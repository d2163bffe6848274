/-! ===== two objects at once ===== -/
abbrev ka_A2 (G1 G2 : ka_G) : Nat → Prop := fun q => ka_A G1 q ∨ ka_A G2 q
def ka_I2 (G1 G2 : ka_G) : Prop := ka_I G1 ∧ ka_I G2 ∧ (∀ k, ka_v k → ¬ ka_A G1 (ka_a G2 k)) ∧ ∀ k, ka_v k → ¬ ka_A G2 (ka_a G1 k)
def ka_B2 (G1 G2 : ka_G) (u : ka_S × ka_S) (t : State) : Prop := ka_B G1 u.1 t ∧ ka_B G2 u.2 t
theorem ka_P.far {G : ka_G} {B : Nat → Prop} {σ : ka_S} {H H1 : Heap} (h : ka_P G σ H) (hd : ∀ k, ka_v k → ¬ B (ka_a G k)) (hk : H.size ≤ H1.size ∧ ∀ q : Nat, q < H.size → ¬ B q → H1[q]? = H[q]?) : ka_P G σ H1 := fun k hv => (h k hv).kept (hk.2 _ (h k hv).lt (hd k hv))
def kl_Pc2 (G1 G2 : ka_G) (av : List Value) (σ τ : ka_S) : Array Value → State → Prop := va_Pc av (fun U => ka_B2 G1 G2 (σ, τ) U ∧ ka_T9 (ka_A2 G1 G2) U ∧ kl_Nc U)
abbrev kd2_i (l : Launch) (y : MethodName) (ws : List Cond) (rm : Room) (mc ms : Nat) (G1 G2 : ka_G) (av : List Value) (σ τ : ka_S) (Q : Int32 → ka_S → ka_S → Prop) : Prop := Met l y ws rm (kl_Pc2 G1 G2 av σ τ) (va_Qi (fun r (u : ka_S × ka_S) => Q r u.1 u.2) (ka_B2 G1 G2) (ka_A2 G1 G2)) mc ms (ka_A2 G1 G2)
theorem kl_blind2 {av : List Value} {G1 G2 : ka_G} {σ τ : ka_S} : FrameBlind (kl_Pc2 G1 G2 av σ τ) := fun a U g mk q =>
  ⟨q.1, ⟨⟨q.2.1.1.1, va_K.moved (u := U) (U := U.calling g mk a) (Vm.Alike.refl U.vm) q.2.1.1.2⟩, ⟨q.2.1.2.1, va_K.moved (u := U) (U := U.calling g mk a) (Vm.Alike.refl U.vm) q.2.1.2.2⟩⟩,
    ⟨vx_Zq.moved (u := U) (U := U.calling g mk a) (Vm.Alike.refl U.vm) q.2.2.1.1, vx_Zq.moved (u := U) (U := U.calling g mk a) (Vm.Alike.refl U.vm) q.2.2.1.2.1, ka_Tw_same (s := U) (U := U.calling g mk a) rfl q.2.2.1.2.2.1, fun x hx => by obtain ⟨sa, h⟩ := q.2.2.1.2.2.2 x hx; exact ⟨sa, vk_R.same (U := U.calling g mk a) rfl h⟩⟩,
    fun i hi j hj hij => va_Nc.moved (u := U) (U := U.calling g mk a) (Vm.Alike.refl U.vm) (q.2.2.2 i hi j hj hij)⟩
theorem kj2_of {l : Launch} {y : MethodName} {cc : ByteArray} {nL : Nat} {ret : Option FieldType} {rm : Room} {mc ms : Nat} {G1 G2 : ka_G} {av : List Value} {σ τ : ka_S} {Qc : Array Value → State → Outcome → State → Prop} (own : String) (ho : y.cls = own) (hy : plainName y.cls = true) (hn : (lg_sl av).length ≤ nL)
    (body : ∀ (p : Program) (e : Env) (s : State) (m : MethodId) (below : List Frame) (meth : Method) (c : Code), ka_C p s m av.toArray meth c cc nL own ret → ka_Kn G1 s → ka_Kn G2 s → ka_T9 (ka_A2 G1 G2) s → kl_Nc s → ∀ (H : Heap) (locs : List Loc), ka_P G1 σ H → ka_P G2 τ H → va_S (ka_A2 G1 G2) s.heap H locs → ∀ ls : Array Slot, lv_has ls nL (lv_args 0 av) → W p l e rm s m av.toArray below meth c H locs 0 0 (MQ below Qc av.toArray s mc ms (ka_A2 G1 G2)) (F0 m 0 ls [])) :
    Met l y (kw_ y cc nL ret) rm (kl_Pc2 G1 G2 av σ τ) Qc mc ms (ka_A2 G1 G2) := by
  subst ho
  refine Met.ofW (cc := cc) (maxL := nL) (ret := ret) hy rfl ?_
  intro p e s m args below meth c s₁ B hml hv
  obtain ⟨rfl, ⟨⟨hP, hK⟩, hP2, hK2⟩, hT, hN⟩ := hv
  have hts := atoms_spec (ws := kw_ y cc nL ret) B.pre
  have hl := lv_entry av (n := nL) hn
  rw [lg_entry_eq]
  exact body p e s m below meth c ⟨B.exec, B.bytes, B.returns, hml, findClass_of_methodNamed B.named, fun w hw => hts w (List.mem_cons_of_mem _ hw), B.notSynchronized⟩ hK hK2 hT hN _ _ hP hP2 va_S.rf _ hl
section KT
variable {p : Program} {l : Launch} {e : Env} {R : Room} {s : State} {m : MethodId} {args : Array Value} {below : List Frame} {meth : Method} {c : Code} {H : Heap} {locs : List Loc} {cells slots : Nat} {Q : State → Prop}
variable {cc : ByteArray} {pc : Nat} {ls : Array Slot} {rest : List Value} {G1 G2 : ka_G} {σ τ : ka_S} {own : String} {nL : Nat} {ret : Option FieldType}
theorem kl2_zret {v : Int32} {mc ms : Nat} {Qp : Int32 → ka_S → ka_S → Prop} (C0 : ka_C p s m args meth c cc nL own (some .boolean)) (hK : ka_Kn G1 s) (hK2 : ka_Kn G2 s) (hP : ka_P G1 σ H) (hP2 : ka_P G2 τ H) (hS : va_S (ka_A2 G1 G2) s.heap H locs) (hz : narrow .boolean (.int v) = .int v) (hq : Qp v σ τ) (hdg : decode cc pc = .ok (.ireturn, 1)) (hc : cells ≤ mc ∧ slots ≤ ms) : W p l e R s m args below meth c H locs cells slots (MQ below (va_Qi (fun r (u : ka_S × ka_S) => Qp r u.1 u.2) (ka_B2 G1 G2) (ka_A2 G1 G2)) args s mc ms (ka_A2 G1 G2)) (F0 m pc ls [.int v]) :=
  W.widen hc.1 hc.2 (W.zret (v := v) C0.1 C0.2.1 C0.2.2.1 hz (fun t ht hW => ⟨⟨v, (σ, τ), rfl, hq, ⟨by rw [ht]; exact hP, va_K.moved hW.alike hK⟩, ⟨by rw [ht]; exact hP2, va_K.moved hW.alike hK2⟩⟩, hS.F ht⟩) hS.2.2 hdg C0.2.2.2.2.2.2)
variable {y : MethodName} {bytes : ByteArray} {mL idx n : Nat} {rt : Option FieldType} {rm : Room} {As : List Value}
theorem kj2_Si {Qp : Int32 → ka_S → ka_S → Prop} {c1 s1 : Nat} {lv : List (Nat × Value)} (C0 : ka_C p s m args meth c cc nL own ret) (hK : ka_Kn G1 s) (hK2 : ka_Kn G2 s) (hT : ka_T9 (ka_A2 G1 G2) s) (hN : kl_Nc s) (hP : ka_P G1 σ H) (hP2 : ka_P G2 τ H) (hS : va_S (ka_A2 G1 G2) s.heap H locs) (hl : lv_has ls nL lv) (hM : kd2_i l y (kw_ y bytes mL rt) rm c1 s1 G1 G2 As σ τ Qp) (kd : kd_S y bytes mL rt n) (hlink : Cond.methodLink own idx y ∈ kq_W) (hrm : rm.cells = c1 ∧ rm.slots = s1 ∧ rm.frames + 1 ≤ R.frames ∧ 8 + (mL + 11) + rm.locals ≤ R.locals) (hn : As.length = n) (hW : (rest.map fun v => v.category).sum ≤ 8) (hdg : decode cc pc = .ok (.invokestatic idx, 3)) (hf : cells + c1 ≤ R.cells ∧ slots + s1 ≤ R.slots)
    (kk : ∀ (r : Int32) (σ1 τ1 : ka_S) (H1 : Heap) (locs1 : List Loc), Qp r σ1 τ1 → ka_P G1 σ1 H1 → ka_P G2 τ1 H1 → va_S (ka_A2 G1 G2) s.heap H1 locs1 → W p l e R s m args below meth c H1 locs1 (cells + c1) (slots + s1) Q (F0 m (pc + 3) ls (.int r :: rest))) : W p l e R s m args below meth c H locs cells slots Q (F0 m pc ls (As.reverse ++ rest)) :=
  va_calli (va_runS C0.fix hM (kj_cbS C0 hlink kd hrm) ⟨kl_blind2, fun U hU hW => ⟨rfl, ⟨⟨by rw [hU]; exact hP, va_K.moved hW.alike hK⟩, ⟨by rw [hU]; exact hP2, va_K.moved hW.alike hK2⟩⟩, hT.warm hS hU hW, fun i hi j hj hij => va_Nc.moved hW.alike (hN i hi j hj hij)⟩⟩ rfl hn hl.1 rfl (lv_room hW) hdg hf) hS (fun q _ h => h) (fun q h => h) (fun r u t H1 locs1 ht hvm hw hB hz hk1 hS1 => kk r u.1 u.2 H1 locs1 hw (by rw [← ht]; exact hB.1.1) (by rw [← ht]; exact hB.2.1) hS1)
end KT
/-! law: alike(LGlossRows;LGlossRows;I)Z -/
def rm_L_alike : Room := { frames := 10, cells := 4712, slots := 28272, locals := 224 }
def kw_L_alike_192 (K134 : ka_S → ka_S → Int32 → Int32 → Int32 → Int32 → Prop) (Q : Int32 → ka_S → ka_S → Prop) : Nat → ka_S → ka_S → Int32 → Int32 → Int32 → Int32 → Int32 → Prop
  | 0, _, _, _, _, _, _, _ => False
  | n + 1, σ, τ, v2, v3, v4, v5, v6 => ((64 : Int32) ≤ v6 → ∀ x56 : Int32, x56 = v5 + (1 : Int32) →
      K134 σ τ v2 v3 v4 x56) ∧
    (¬ (64 : Int32) ≤ v6 → (v3 = (0 : Int32) → ∀ x57 : Int32, x57 = v5 + (1 : Int32) →
        K134 σ τ v2 v3 v4 x57) ∧
      (¬ v3 = (0 : Int32) → kw_L_at σ v5 v6 (fun r58 σ59 =>
        kw_L_at τ v5 v6 (fun r60 τ61 =>
        (r58 = r60 → ∀ x63 : Int32, x63 = v6 + (4 : Int32) →
          (kw_L_alike_192 K134 Q n) σ59 τ61 v2 (1 : Int32) v4 v5 x63) ∧
        (¬ r58 = r60 → ∀ x62 : Int32, x62 = v6 + (4 : Int32) →
          (kw_L_alike_192 K134 Q n) σ59 τ61 v2 (0 : Int32) v4 v5 x62)))))
set_option maxHeartbeats 4000000 in
set_option maxRecDepth 100000 in
theorem kb_L_alike_192 {p : Program} {l : Launch} {e : Env} {s : State} {m : MethodId} {below : List Frame} {meth : Method} {c : Code} {G1 G2 : ka_G} {args : Array Value} (hl0 : l.stackTraces = false) (hI : ka_I2 G1 G2) (C0 : ka_C p s m args meth c cL_alike 7 "GlossRowsLaw" (some .boolean)) (hK : ka_Kn G1 s) (hK2 : ka_Kn G2 s) (hT : ka_T9 (ka_A2 G1 G2) s) (hN : kl_Nc s) {Q : Int32 → ka_S → ka_S → Prop} {K134 : ka_S → ka_S → Int32 → Int32 → Int32 → Int32 → Prop} {R134 : Nat} (hk134 : ∀ (σ τ : ka_S) (v2 : Int32) (v3 : Int32) (v4 : Int32) (v5 : Int32), K134 σ τ v2 v3 v4 v5 → ∀ (cl : Nat), cl + R134 ≤ 4712 → ∀ (H : Heap) (locs : List Loc), ka_P G1 σ H → ka_P G2 τ H → va_S (ka_A2 G1 G2) s.heap H locs → ∀ ls : Array Slot, lv_has ls 7 [(0, .ref (ka_a G1 (22, 0, 0))), (1, .ref (ka_a G2 (22, 0, 0))), (2, .int v2), (3, .int v3), (4, .int v4), (5, .int v5)] → W p l e rm_L_alike s m args below meth c H locs cl (6 * cl) (MQ below (va_Qi (fun r (u : ka_S × ka_S) => Q r u.1 u.2) (ka_B2 G1 G2) (ka_A2 G1 G2)) args s 4712 28272 (ka_A2 G1 G2)) (F0 m 134 ls [])) : ∀ (n : Nat) (σ τ : ka_S) (v2 : Int32) (v3 : Int32) (v4 : Int32) (v5 : Int32) (v6 : Int32), kw_L_alike_192 K134 Q n σ τ v2 v3 v4 v5 v6 → ∀ (cl : Nat), cl + 0 + n * 4 + R134 ≤ 4712 → ∀ (H : Heap) (locs : List Loc), ka_P G1 σ H → ka_P G2 τ H → va_S (ka_A2 G1 G2) s.heap H locs → ∀ ls : Array Slot, lv_has ls 7 [(0, .ref (ka_a G1 (22, 0, 0))), (1, .ref (ka_a G2 (22, 0, 0))), (2, .int v2), (3, .int v3), (4, .int v4), (5, .int v5), (6, .int v6)] → W p l e rm_L_alike s m args below meth c H locs cl (6 * cl) (MQ below (va_Qi (fun r (u : ka_S × ka_S) => Q r u.1 u.2) (ka_B2 G1 G2) (ka_A2 G1 G2)) args s 4712 28272 (ka_A2 G1 G2)) (F0 m 192 ls []) := by
  obtain ⟨hx, hb, -, hml, hown, hts, -⟩ := id C0
  intro n
  induction n with
  | zero =>
    intro σ τ v2 v3 v4 v5 v6 hq
    rw [kw_L_alike_192] at hq
    exact hq.elim
  | succ n ih =>
    have ih9 : ∀ (σ τ : ka_S) (v2 : Int32) (v3 : Int32) (v4 : Int32) (v5 : Int32) (v6 : Int32), kw_L_alike_192 K134 Q n σ τ v2 v3 v4 v5 v6 → ∀ (cl : Nat), cl + (0 + n * 4 + R134) ≤ 4712 → ∀ (H : Heap) (locs : List Loc), ka_P G1 σ H → ka_P G2 τ H → va_S (ka_A2 G1 G2) s.heap H locs → ∀ ls : Array Slot, lv_has ls 7 [(0, .ref (ka_a G1 (22, 0, 0))), (1, .ref (ka_a G2 (22, 0, 0))), (2, .int v2), (3, .int v3), (4, .int v4), (5, .int v5), (6, .int v6)] → W p l e rm_L_alike s m args below meth c H locs cl (6 * cl) (MQ below (va_Qi (fun r (u : ka_S × ka_S) => Q r u.1 u.2) (ka_B2 G1 G2) (ka_A2 G1 G2)) args s 4712 28272 (ka_A2 G1 G2)) (F0 m 192 ls []) := fun σ τ v2 v3 v4 v5 v6 hq cl h9 => ih σ τ v2 v3 v4 v5 v6 hq cl (by omega)
    intro σ τ v2 v3 v4 v5 v6 hq cl hcl H locs hP hP2 hS ls hl
    rw [kw_L_alike_192] at hq
    refine lv_iload hx hb dL_alike_192 (lv_at hl 6 rfl) ?_
    refine lv_bipush (v := 64) hx hb dL_alike_194 (by decide) ?_
    refine lv_icmp_ge (tgt := 235) hx hb dL_alike_196 (by decide) (fun hc => ?_) (fun hc => ?_)
    · have hq := hq.1 hc
      obtain ⟨x56, ex56⟩ : ∃ y : Int32, y = v5 + (1 : Int32) := ⟨_, rfl⟩
      have hq := hq x56 ex56
      refine lv_iinc (v := x56) (lv' := [(5, .int x56), (0, .ref (ka_a G1 (22, 0, 0))), (1, .ref (ka_a G2 (22, 0, 0))), (2, .int v2), (3, .int v3), (4, .int v4), (6, .int v6)]) hx hb dL_alike_235 hl (k := 5) rfl (by rw [ex56]; rfl) (by decide) rfl (fun ls hl => ?_)
      refine lv_goto (tgt := 134) hx hb dL_alike_238 (by decide) ?_
      refine W.widen (k := (cl + 0)) (n := 6 * (cl + 0)) (by omega) (by omega) ?_
      exact hk134 σ τ v2 v3 v4 x56 hq (cl + 0) (by omega) H locs hP hP2 hS ls (lv_sub hl [1, 2, 3, 4, 5, 0] rfl)
    · have hq := hq.2 hc
      refine lv_iload_n hx hb dL_alike_199 rfl (lv_at hl 3 rfl) ?_
      refine lv_if_eq (tgt := 235) hx hb dL_alike_200 (by decide) (fun hc => ?_) (fun hc => ?_)
      · have hq := hq.1 hc
        obtain ⟨x57, ex57⟩ : ∃ y : Int32, y = v5 + (1 : Int32) := ⟨_, rfl⟩
        have hq := hq x57 ex57
        refine lv_iinc (v := x57) (lv' := [(5, .int x57), (0, .ref (ka_a G1 (22, 0, 0))), (1, .ref (ka_a G2 (22, 0, 0))), (2, .int v2), (3, .int v3), (4, .int v4), (6, .int v6)]) hx hb dL_alike_235 hl (k := 5) rfl (by rw [ex57]; rfl) (by decide) rfl (fun ls hl => ?_)
        refine lv_goto (tgt := 134) hx hb dL_alike_238 (by decide) ?_
        refine W.widen (k := (cl + 0)) (n := 6 * (cl + 0)) (by omega) (by omega) ?_
        exact hk134 σ τ v2 v3 v4 x57 hq (cl + 0) (by omega) H locs hP hP2 hS ls (lv_sub hl [1, 2, 3, 4, 5, 0] rfl)
      · have hq := hq.2 hc
        refine lv_aload_n hx hb dL_alike_203 rfl (lv_at hl 0 rfl) ?_
        refine lv_iload hx hb dL_alike_204 (lv_at hl 5 rfl) ?_
        refine lv_iload hx hb dL_alike_206 (lv_at hl 6 rfl) ?_
        refine kj_Wl (As := [.ref (ka_a G1 (22, 0, 0)), .int v5, .int v6]) (rest := []) C0 hK hT hN hP hS (fun _ h => Or.inl h) hl (km_L_at l hl0 hI.1 hq) kd_L_at kq_724 ⟨rfl, rfl, Nat.le_of_ble_eq_true rfl, Nat.le_of_ble_eq_true rfl⟩ rfl (Nat.le_of_ble_eq_true rfl) dL_alike_208 ⟨by show _ ≤ 4712; omega, by show _ ≤ 28272; omega⟩ (fun r58 σ59 H locs hq hP hkp hS => ?_)
        replace hP2 := hP2.far hI.2.2.1 hkp
        refine lv_aload_n hx hb dL_alike_211 rfl (lv_at hl 1 rfl) ?_
        refine lv_iload hx hb dL_alike_212 (lv_at hl 5 rfl) ?_
        refine lv_iload hx hb dL_alike_214 (lv_at hl 6 rfl) ?_
        refine kj_Wl (As := [.ref (ka_a G2 (22, 0, 0)), .int v5, .int v6]) (rest := [.long r58]) C0 hK2 hT hN hP2 hS (fun _ h => Or.inr h) hl (km_L_at l hl0 hI.2.1 hq) kd_L_at kq_724 ⟨rfl, rfl, Nat.le_of_ble_eq_true rfl, Nat.le_of_ble_eq_true rfl⟩ rfl (Nat.le_of_ble_eq_true rfl) dL_alike_216 ⟨by show _ ≤ 4712; omega, by show _ ≤ 28272; omega⟩ (fun r60 τ61 H locs hq hP2 hkp hS => ?_)
        replace hP := hP.far hI.2.2.2 hkp
        refine kr_cne (tgt := 227) C0 dL_alike_219 dL_alike_220 (by decide) (fun hc => ?_) (fun hc => ?_)
        · have hq := hq.2 hc
          refine lv_iconst (v := 0) hx hb dL_alike_227 (by decide) ?_
          refine lv_istore_n (lv' := [(3, .int (0 : Int32)), (0, .ref (ka_a G1 (22, 0, 0))), (1, .ref (ka_a G2 (22, 0, 0))), (2, .int v2), (4, .int v4), (5, .int v5), (6, .int v6)]) hx hb dL_alike_228 rfl hl (by decide) rfl (fun ls hl => ?_)
          obtain ⟨x62, ex62⟩ : ∃ y : Int32, y = v6 + (4 : Int32) := ⟨_, rfl⟩
          have hq := hq x62 ex62
          refine lv_iinc (v := x62) (lv' := [(6, .int x62), (3, .int (0 : Int32)), (0, .ref (ka_a G1 (22, 0, 0))), (1, .ref (ka_a G2 (22, 0, 0))), (2, .int v2), (4, .int v4), (5, .int v5)]) hx hb dL_alike_229 hl (k := 6) rfl (by rw [ex62]; rfl) (by decide) rfl (fun ls hl => ?_)
          refine lv_goto (tgt := 192) hx hb dL_alike_232 (by decide) ?_
          refine W.widen (k := (cl + 4)) (n := 6 * (cl + 4)) (by omega) (by omega) ?_
          exact ih9 σ59 τ61 v2 (0 : Int32) v4 v5 x62 hq (cl + 4) (by omega) H locs hP hP2 hS ls (lv_sub hl [2, 3, 4, 1, 5, 6, 0] rfl)
        · have hq := hq.1 hc
          refine lv_iconst (v := 1) hx hb dL_alike_223 (by decide) ?_
          refine lv_goto (tgt := 228) hx hb dL_alike_224 (by decide) ?_
          refine lv_istore_n (lv' := [(3, .int (1 : Int32)), (0, .ref (ka_a G1 (22, 0, 0))), (1, .ref (ka_a G2 (22, 0, 0))), (2, .int v2), (4, .int v4), (5, .int v5), (6, .int v6)]) hx hb dL_alike_228 rfl hl (by decide) rfl (fun ls hl => ?_)
          obtain ⟨x63, ex63⟩ : ∃ y : Int32, y = v6 + (4 : Int32) := ⟨_, rfl⟩
          have hq := hq x63 ex63
          refine lv_iinc (v := x63) (lv' := [(6, .int x63), (3, .int (1 : Int32)), (0, .ref (ka_a G1 (22, 0, 0))), (1, .ref (ka_a G2 (22, 0, 0))), (2, .int v2), (4, .int v4), (5, .int v5)]) hx hb dL_alike_229 hl (k := 6) rfl (by rw [ex63]; rfl) (by decide) rfl (fun ls hl => ?_)
          refine lv_goto (tgt := 192) hx hb dL_alike_232 (by decide) ?_
          refine W.widen (k := (cl + 4)) (n := 6 * (cl + 4)) (by omega) (by omega) ?_
          exact ih9 σ59 τ61 v2 (1 : Int32) v4 v5 x63 hq (cl + 4) (by omega) H locs hP hP2 hS ls (lv_sub hl [2, 3, 4, 1, 5, 6, 0] rfl)
def kw_L_alike_241 (Q : Int32 → ka_S → ka_S → Prop) (σ τ : ka_S) (v2 : Int32) (v3 : Int32) : Prop := ∀ x47 : Int64, x47 = (((10000 : Int64) * ((((1000 : Int32) * ((1 : Int32) + (v2 - v2 / (9 : Int32) * (9 : Int32)))) + ((v2 / (8 : Int32)) - (v2 / (8 : Int32)) / (1000 : Int32) * (1000 : Int32))).toInt64)) + ((v2 - v2 / (10000 : Int32) * (10000 : Int32)).toInt64)) → 
  (v3 = (0 : Int32) → Q (0 : Int32) σ τ) ∧
  (¬ v3 = (0 : Int32) → kw0_L_script σ (2 : Int32) x47 (fun r48 σ49 =>
    kw0_L_script τ (2 : Int32) x47 (fun r50 τ51 =>
    (r48 = r50 → kw0_L_simulate σ49 v2.toInt64 ((1 : Int32) + (v2 - v2 / (30 : Int32) * (30 : Int32))) (fun r52 σ53 =>
      kw0_L_simulate τ51 v2.toInt64 ((1 : Int32) + (v2 - v2 / (30 : Int32) * (30 : Int32))) (fun r54 τ55 =>
      (r52 = r54 → Q (1 : Int32) σ53 τ55) ∧
      (¬ r52 = r54 → Q (0 : Int32) σ53 τ55)))) ∧
    (¬ r48 = r50 → Q (0 : Int32) σ49 τ51))))
set_option maxHeartbeats 4000000 in
set_option maxRecDepth 100000 in
theorem kb_L_alike_241 {p : Program} {l : Launch} {e : Env} {s : State} {m : MethodId} {below : List Frame} {meth : Method} {c : Code} {G1 G2 : ka_G} {args : Array Value} (hl0 : l.stackTraces = false) (hI : ka_I2 G1 G2) (C0 : ka_C p s m args meth c cL_alike 7 "GlossRowsLaw" (some .boolean)) (hK : ka_Kn G1 s) (hK2 : ka_Kn G2 s) (hT : ka_T9 (ka_A2 G1 G2) s) (hN : kl_Nc s) {Q : Int32 → ka_S → ka_S → Prop} : ∀ (σ τ : ka_S) (v2 : Int32) (v3 : Int32), kw_L_alike_241 Q σ τ v2 v3 → ∀ (cl : Nat), cl + 0 ≤ 4712 → ∀ (H : Heap) (locs : List Loc), ka_P G1 σ H → ka_P G2 τ H → va_S (ka_A2 G1 G2) s.heap H locs → ∀ ls : Array Slot, lv_has ls 7 [(0, .ref (ka_a G1 (22, 0, 0))), (1, .ref (ka_a G2 (22, 0, 0))), (2, .int v2), (3, .int v3)] → W p l e rm_L_alike s m args below meth c H locs cl (6 * cl) (MQ below (va_Qi (fun r (u : ka_S × ka_S) => Q r u.1 u.2) (ka_B2 G1 G2) (ka_A2 G1 G2)) args s 4712 28272 (ka_A2 G1 G2)) (F0 m 241 ls []) := by
  obtain ⟨hx, hb, -, hml, hown, hts, -⟩ := id C0
  intro σ τ v2 v3 hq cl hcl H locs hP hP2 hS ls hl
  unfold kw_L_alike_241 at hq
  refine lv_ldc2 hx hb hown (hts _ kq_745) dL_alike_241 ?_
  refine lv_sipush (v := 1000) hx hb dL_alike_244 (by decide) ?_
  refine lv_iconst (v := 1) hx hb dL_alike_247 (by decide) ?_
  refine lv_iload_n hx hb dL_alike_248 rfl (lv_at hl 2 rfl) ?_
  refine lv_bipush (v := 9) hx hb dL_alike_249 (by decide) ?_
  refine lv_irem hx hb dL_alike_251 (by decide) ?_
  refine lv_iadd hx hb dL_alike_252 ?_
  refine lv_imul hx hb dL_alike_253 ?_
  refine lv_iload_n hx hb dL_alike_254 rfl (lv_at hl 2 rfl) ?_
  refine lv_bipush (v := 8) hx hb dL_alike_255 (by decide) ?_
  refine lv_idiv hx hb dL_alike_257 (by decide) ?_
  refine lv_sipush (v := 1000) hx hb dL_alike_258 (by decide) ?_
  refine lv_irem hx hb dL_alike_261 (by decide) ?_
  refine lv_iadd hx hb dL_alike_262 ?_
  refine lv_i2l hx hb dL_alike_263 rfl ?_
  refine lv_lmul hx hb dL_alike_264 ?_
  refine lv_iload_n hx hb dL_alike_265 rfl (lv_at hl 2 rfl) ?_
  refine lv_sipush (v := 10000) hx hb dL_alike_266 (by decide) ?_
  refine lv_irem hx hb dL_alike_269 (by decide) ?_
  refine lv_i2l hx hb dL_alike_270 rfl ?_
  refine lv_ladd hx hb dL_alike_271 ?_
  refine lv_topl (fun x47 ex47 => ?_)
  have hq := hq x47 ex47
  refine lv_lstore (lv' := [(5, .long x47), (0, .ref (ka_a G1 (22, 0, 0))), (1, .ref (ka_a G2 (22, 0, 0))), (2, .int v2), (3, .int v3)]) hx hb dL_alike_272 hl (by decide) rfl (fun ls hl => ?_)
  refine lv_iload_n hx hb dL_alike_274 rfl (lv_at hl 4 rfl) ?_
  refine lv_if_eq (tgt := 328) hx hb dL_alike_275 (by decide) (fun hc => ?_) (fun hc => ?_)
  · have hq := hq.1 hc
    refine lv_iconst (v := 0) hx hb dL_alike_328 (by decide) ?_
    exact kl2_zret C0 hK hK2 hP hP2 hS rfl hq dL_alike_329 ⟨by omega, by omega⟩
  · have hq := hq.2 hc
    refine lv_aload_n hx hb dL_alike_278 rfl (lv_at hl 1 rfl) ?_
    refine lv_iconst (v := 2) hx hb dL_alike_279 (by decide) ?_
    refine lv_lload hx hb dL_alike_280 (lv_at hl 0 rfl) ?_
    refine kj_Wl (As := [.ref (ka_a G1 (22, 0, 0)), .int (2 : Int32), .long x47]) (rest := []) C0 hK hT hN hP hS (fun _ h => Or.inl h) hl (km0_L_script l hl0 hI.1 hq) kd_L_script kq_746 ⟨rfl, rfl, Nat.le_of_ble_eq_true rfl, Nat.le_of_ble_eq_true rfl⟩ rfl (Nat.le_of_ble_eq_true rfl) dL_alike_282 ⟨by show _ ≤ 4712; omega, by show _ ≤ 28272; omega⟩ (fun r48 σ49 H locs hq hP hkp hS => ?_)
    replace hP2 := hP2.far hI.2.2.1 hkp
    refine lv_aload_n hx hb dL_alike_285 rfl (lv_at hl 2 rfl) ?_
    refine lv_iconst (v := 2) hx hb dL_alike_286 (by decide) ?_
    refine lv_lload hx hb dL_alike_287 (lv_at hl 0 rfl) ?_
    refine kj_Wl (As := [.ref (ka_a G2 (22, 0, 0)), .int (2 : Int32), .long x47]) (rest := [.long r48]) C0 hK2 hT hN hP2 hS (fun _ h => Or.inr h) hl (km0_L_script l hl0 hI.2.1 hq) kd_L_script kq_746 ⟨rfl, rfl, Nat.le_of_ble_eq_true rfl, Nat.le_of_ble_eq_true rfl⟩ rfl (Nat.le_of_ble_eq_true rfl) dL_alike_289 ⟨by show _ ≤ 4712; omega, by show _ ≤ 28272; omega⟩ (fun r50 τ51 H locs hq hP2 hkp hS => ?_)
    replace hP := hP.far hI.2.2.2 hkp
    refine kr_cne (tgt := 328) C0 dL_alike_292 dL_alike_293 (by decide) (fun hc => ?_) (fun hc => ?_)
    · have hq := hq.2 hc
      refine lv_iconst (v := 0) hx hb dL_alike_328 (by decide) ?_
      exact kl2_zret C0 hK hK2 hP hP2 hS rfl hq dL_alike_329 ⟨by omega, by omega⟩
    · have hq := hq.1 hc
      refine lv_aload_n hx hb dL_alike_296 rfl (lv_at hl 1 rfl) ?_
      refine lv_iload_n hx hb dL_alike_297 rfl (lv_at hl 3 rfl) ?_
      refine lv_i2l hx hb dL_alike_298 rfl ?_
      refine lv_iconst (v := 1) hx hb dL_alike_299 (by decide) ?_
      refine lv_iload_n hx hb dL_alike_300 rfl (lv_at hl 3 rfl) ?_
      refine lv_bipush (v := 30) hx hb dL_alike_301 (by decide) ?_
      refine lv_irem hx hb dL_alike_303 (by decide) ?_
      refine lv_iadd hx hb dL_alike_304 ?_
      refine kj_Wl (As := [.ref (ka_a G1 (22, 0, 0)), .long v2.toInt64, .int ((1 : Int32) + (v2 - v2 / (30 : Int32) * (30 : Int32)))]) (rest := []) C0 hK hT hN hP hS (fun _ h => Or.inl h) hl (km0_L_simulate l hl0 hI.1 hq) kd_L_simulate kq_818 ⟨rfl, rfl, Nat.le_of_ble_eq_true rfl, Nat.le_of_ble_eq_true rfl⟩ rfl (Nat.le_of_ble_eq_true rfl) dL_alike_305 ⟨by show _ ≤ 4712; omega, by show _ ≤ 28272; omega⟩ (fun r52 σ53 H locs hq hP hkp hS => ?_)
      replace hP2 := hP2.far hI.2.2.1 hkp
      refine lv_aload_n hx hb dL_alike_308 rfl (lv_at hl 2 rfl) ?_
      refine lv_iload_n hx hb dL_alike_309 rfl (lv_at hl 3 rfl) ?_
      refine lv_i2l hx hb dL_alike_310 rfl ?_
      refine lv_iconst (v := 1) hx hb dL_alike_311 (by decide) ?_
      refine lv_iload_n hx hb dL_alike_312 rfl (lv_at hl 3 rfl) ?_
      refine lv_bipush (v := 30) hx hb dL_alike_313 (by decide) ?_
      refine lv_irem hx hb dL_alike_315 (by decide) ?_
      refine lv_iadd hx hb dL_alike_316 ?_
      refine kj_Wl (As := [.ref (ka_a G2 (22, 0, 0)), .long v2.toInt64, .int ((1 : Int32) + (v2 - v2 / (30 : Int32) * (30 : Int32)))]) (rest := [.long r52]) C0 hK2 hT hN hP2 hS (fun _ h => Or.inr h) hl (km0_L_simulate l hl0 hI.2.1 hq) kd_L_simulate kq_818 ⟨rfl, rfl, Nat.le_of_ble_eq_true rfl, Nat.le_of_ble_eq_true rfl⟩ rfl (Nat.le_of_ble_eq_true rfl) dL_alike_317 ⟨by show _ ≤ 4712; omega, by show _ ≤ 28272; omega⟩ (fun r54 τ55 H locs hq hP2 hkp hS => ?_)
      replace hP := hP.far hI.2.2.2 hkp
      refine kr_cne (tgt := 328) C0 dL_alike_320 dL_alike_321 (by decide) (fun hc => ?_) (fun hc => ?_)
      · have hq := hq.2 hc
        refine lv_iconst (v := 0) hx hb dL_alike_328 (by decide) ?_
        exact kl2_zret C0 hK hK2 hP hP2 hS rfl hq dL_alike_329 ⟨by omega, by omega⟩
      · have hq := hq.1 hc
        refine lv_iconst (v := 1) hx hb dL_alike_324 (by decide) ?_
        refine lv_goto (tgt := 329) hx hb dL_alike_325 (by decide) ?_
        exact kl2_zret C0 hK hK2 hP hP2 hS rfl hq dL_alike_329 ⟨by omega, by omega⟩
def kw_L_alike_134 (Q : Int32 → ka_S → ka_S → Prop) : Nat → ka_S → ka_S → Int32 → Int32 → Int32 → Int32 → Prop
  | 0, _, _, _, _, _, _ => False
  | n + 1, σ, τ, v2, v3, v4, v5 => (v4 < v5 → kw_L_alike_241 Q σ τ v2 v3) ∧
    (¬ v4 < v5 → (v3 = (0 : Int32) → kw_L_alike_241 Q σ τ v2 v3) ∧
      (¬ v3 = (0 : Int32) → kw_L_row σ v5 (0 : Int32) (fun r33 σ34 =>
        kw_L_row τ v5 (0 : Int32) (fun r35 τ36 =>
        (r33 = r35 → kw_L_row σ34 v5 (1 : Int32) (fun r39 σ40 =>
          kw_L_row τ36 v5 (1 : Int32) (fun r41 τ42 =>
          (r39 = r41 → ∀ x45 : Int32, x45 = (v2 - v2 / (4 : Int32) * (4 : Int32)) → 
            ∃ n46 : Nat, n46 ≤ 17 ∧ kw_L_alike_192 (kw_L_alike_134 Q n) Q n46 σ40 τ42 v2 (1 : Int32) v4 v5 x45) ∧
          (¬ r39 = r41 → ∀ x43 : Int32, x43 = (v2 - v2 / (4 : Int32) * (4 : Int32)) → 
            ∃ n44 : Nat, n44 ≤ 17 ∧ kw_L_alike_192 (kw_L_alike_134 Q n) Q n44 σ40 τ42 v2 (0 : Int32) v4 v5 x43)))) ∧
        (¬ r33 = r35 → ∀ x37 : Int32, x37 = (v2 - v2 / (4 : Int32) * (4 : Int32)) → 
          ∃ n38 : Nat, n38 ≤ 17 ∧ kw_L_alike_192 (kw_L_alike_134 Q n) Q n38 σ34 τ36 v2 (0 : Int32) v4 v5 x37)))))
set_option maxHeartbeats 4000000 in
set_option maxRecDepth 100000 in
theorem kb_L_alike_134 {p : Program} {l : Launch} {e : Env} {s : State} {m : MethodId} {below : List Frame} {meth : Method} {c : Code} {G1 G2 : ka_G} {args : Array Value} (hl0 : l.stackTraces = false) (hI : ka_I2 G1 G2) (C0 : ka_C p s m args meth c cL_alike 7 "GlossRowsLaw" (some .boolean)) (hK : ka_Kn G1 s) (hK2 : ka_Kn G2 s) (hT : ka_T9 (ka_A2 G1 G2) s) (hN : kl_Nc s) {Q : Int32 → ka_S → ka_S → Prop} : ∀ (n : Nat) (σ τ : ka_S) (v2 : Int32) (v3 : Int32) (v4 : Int32) (v5 : Int32), kw_L_alike_134 Q n σ τ v2 v3 v4 v5 → ∀ (cl : Nat), cl + 0 + n * 76 ≤ 4712 → ∀ (H : Heap) (locs : List Loc), ka_P G1 σ H → ka_P G2 τ H → va_S (ka_A2 G1 G2) s.heap H locs → ∀ ls : Array Slot, lv_has ls 7 [(0, .ref (ka_a G1 (22, 0, 0))), (1, .ref (ka_a G2 (22, 0, 0))), (2, .int v2), (3, .int v3), (4, .int v4), (5, .int v5)] → W p l e rm_L_alike s m args below meth c H locs cl (6 * cl) (MQ below (va_Qi (fun r (u : ka_S × ka_S) => Q r u.1 u.2) (ka_B2 G1 G2) (ka_A2 G1 G2)) args s 4712 28272 (ka_A2 G1 G2)) (F0 m 134 ls []) := by
  obtain ⟨hx, hb, -, hml, hown, hts, -⟩ := id C0
  intro n
  induction n with
  | zero =>
    intro σ τ v2 v3 v4 v5 hq
    rw [kw_L_alike_134] at hq
    exact hq.elim
  | succ n ih =>
    have ih9 : ∀ (σ τ : ka_S) (v2 : Int32) (v3 : Int32) (v4 : Int32) (v5 : Int32), kw_L_alike_134 Q n σ τ v2 v3 v4 v5 → ∀ (cl : Nat), cl + (0 + n * 76) ≤ 4712 → ∀ (H : Heap) (locs : List Loc), ka_P G1 σ H → ka_P G2 τ H → va_S (ka_A2 G1 G2) s.heap H locs → ∀ ls : Array Slot, lv_has ls 7 [(0, .ref (ka_a G1 (22, 0, 0))), (1, .ref (ka_a G2 (22, 0, 0))), (2, .int v2), (3, .int v3), (4, .int v4), (5, .int v5)] → W p l e rm_L_alike s m args below meth c H locs cl (6 * cl) (MQ below (va_Qi (fun r (u : ka_S × ka_S) => Q r u.1 u.2) (ka_B2 G1 G2) (ka_A2 G1 G2)) args s 4712 28272 (ka_A2 G1 G2)) (F0 m 134 ls []) := fun σ τ v2 v3 v4 v5 hq cl h9 => ih σ τ v2 v3 v4 v5 hq cl (by omega)
    intro σ τ v2 v3 v4 v5 hq cl hcl H locs hP hP2 hS ls hl
    rw [kw_L_alike_134] at hq
    refine lv_iload hx hb dL_alike_134 (lv_at hl 5 rfl) ?_
    refine lv_iload hx hb dL_alike_136 (lv_at hl 4 rfl) ?_
    refine lv_icmp_gt (tgt := 241) hx hb dL_alike_138 (by decide) (fun hc => ?_) (fun hc => ?_)
    · have hq := hq.1 hc
      refine W.widen (k := (cl + 0)) (n := 6 * (cl + 0)) (by omega) (by omega) ?_
      exact kb_L_alike_241 hl0 hI C0 hK hK2 hT hN σ τ v2 v3 hq (cl + 0) (by omega) H locs hP hP2 hS ls (lv_sub hl [0, 1, 2, 3] rfl)
    · have hq := hq.2 hc
      refine lv_iload_n hx hb dL_alike_141 rfl (lv_at hl 3 rfl) ?_
      refine lv_if_eq (tgt := 241) hx hb dL_alike_142 (by decide) (fun hc => ?_) (fun hc => ?_)
      · have hq := hq.1 hc
        refine W.widen (k := (cl + 0)) (n := 6 * (cl + 0)) (by omega) (by omega) ?_
        exact kb_L_alike_241 hl0 hI C0 hK hK2 hT hN σ τ v2 v3 hq (cl + 0) (by omega) H locs hP hP2 hS ls (lv_sub hl [0, 1, 2, 3] rfl)
      · have hq := hq.2 hc
        refine lv_aload_n hx hb dL_alike_145 rfl (lv_at hl 0 rfl) ?_
        refine lv_iload hx hb dL_alike_146 (lv_at hl 5 rfl) ?_
        refine lv_iconst (v := 0) hx hb dL_alike_148 (by decide) ?_
        refine kj_Wl (As := [.ref (ka_a G1 (22, 0, 0)), .int v5, .int (0 : Int32)]) (rest := []) C0 hK hT hN hP hS (fun _ h => Or.inl h) hl (km_L_row l hl0 hI.1 hq) kd_L_row kq_687 ⟨rfl, rfl, Nat.le_of_ble_eq_true rfl, Nat.le_of_ble_eq_true rfl⟩ rfl (Nat.le_of_ble_eq_true rfl) dL_alike_149 ⟨by show _ ≤ 4712; omega, by show _ ≤ 28272; omega⟩ (fun r33 σ34 H locs hq hP hkp hS => ?_)
        replace hP2 := hP2.far hI.2.2.1 hkp
        refine lv_aload_n hx hb dL_alike_152 rfl (lv_at hl 1 rfl) ?_
        refine lv_iload hx hb dL_alike_153 (lv_at hl 5 rfl) ?_
        refine lv_iconst (v := 0) hx hb dL_alike_155 (by decide) ?_
        refine kj_Wl (As := [.ref (ka_a G2 (22, 0, 0)), .int v5, .int (0 : Int32)]) (rest := [.long r33]) C0 hK2 hT hN hP2 hS (fun _ h => Or.inr h) hl (km_L_row l hl0 hI.2.1 hq) kd_L_row kq_687 ⟨rfl, rfl, Nat.le_of_ble_eq_true rfl, Nat.le_of_ble_eq_true rfl⟩ rfl (Nat.le_of_ble_eq_true rfl) dL_alike_156 ⟨by show _ ≤ 4712; omega, by show _ ≤ 28272; omega⟩ (fun r35 τ36 H locs hq hP2 hkp hS => ?_)
        replace hP := hP.far hI.2.2.2 hkp
        refine kr_cne (tgt := 185) C0 dL_alike_159 dL_alike_160 (by decide) (fun hc => ?_) (fun hc => ?_)
        · have hq := hq.2 hc
          refine lv_iconst (v := 0) hx hb dL_alike_185 (by decide) ?_
          refine lv_istore_n (lv' := [(3, .int (0 : Int32)), (0, .ref (ka_a G1 (22, 0, 0))), (1, .ref (ka_a G2 (22, 0, 0))), (2, .int v2), (4, .int v4), (5, .int v5)]) hx hb dL_alike_186 rfl hl (by decide) rfl (fun ls hl => ?_)
          refine lv_iload_n hx hb dL_alike_187 rfl (lv_at hl 3 rfl) ?_
          refine lv_iconst (v := 4) hx hb dL_alike_188 (by decide) ?_
          refine lv_irem hx hb dL_alike_189 (by decide) ?_
          refine lv_topi (fun x37 ex37 => ?_)
          have hq := hq x37 ex37
          refine lv_istore (lv' := [(6, .int x37), (3, .int (0 : Int32)), (0, .ref (ka_a G1 (22, 0, 0))), (1, .ref (ka_a G2 (22, 0, 0))), (2, .int v2), (4, .int v4), (5, .int v5)]) hx hb dL_alike_190 hl (by decide) rfl (fun ls hl => ?_)
          obtain ⟨n38, hn38, hq⟩ := hq
          refine W.widen (k := (cl + 4)) (n := 6 * (cl + 4)) (by omega) (by omega) ?_
          exact kb_L_alike_192 (R134 := (0 + n * 76)) hl0 hI C0 hK hK2 hT hN ih9 n38 σ34 τ36 v2 (0 : Int32) v4 v5 x37 hq (cl + 4) (by omega) H locs hP hP2 hS ls (lv_sub hl [2, 3, 4, 1, 5, 6, 0] rfl)
        · have hq := hq.1 hc
          refine lv_aload_n hx hb dL_alike_163 rfl (lv_at hl 0 rfl) ?_
          refine lv_iload hx hb dL_alike_164 (lv_at hl 5 rfl) ?_
          refine lv_iconst (v := 1) hx hb dL_alike_166 (by decide) ?_
          refine kj_Wl (As := [.ref (ka_a G1 (22, 0, 0)), .int v5, .int (1 : Int32)]) (rest := []) C0 hK hT hN hP hS (fun _ h => Or.inl h) hl (km_L_row l hl0 hI.1 hq) kd_L_row kq_687 ⟨rfl, rfl, Nat.le_of_ble_eq_true rfl, Nat.le_of_ble_eq_true rfl⟩ rfl (Nat.le_of_ble_eq_true rfl) dL_alike_167 ⟨by show _ ≤ 4712; omega, by show _ ≤ 28272; omega⟩ (fun r39 σ40 H locs hq hP hkp hS => ?_)
          replace hP2 := hP2.far hI.2.2.1 hkp
          refine lv_aload_n hx hb dL_alike_170 rfl (lv_at hl 1 rfl) ?_
          refine lv_iload hx hb dL_alike_171 (lv_at hl 5 rfl) ?_
          refine lv_iconst (v := 1) hx hb dL_alike_173 (by decide) ?_
          refine kj_Wl (As := [.ref (ka_a G2 (22, 0, 0)), .int v5, .int (1 : Int32)]) (rest := [.long r39]) C0 hK2 hT hN hP2 hS (fun _ h => Or.inr h) hl (km_L_row l hl0 hI.2.1 hq) kd_L_row kq_687 ⟨rfl, rfl, Nat.le_of_ble_eq_true rfl, Nat.le_of_ble_eq_true rfl⟩ rfl (Nat.le_of_ble_eq_true rfl) dL_alike_174 ⟨by show _ ≤ 4712; omega, by show _ ≤ 28272; omega⟩ (fun r41 τ42 H locs hq hP2 hkp hS => ?_)
          replace hP := hP.far hI.2.2.2 hkp
          refine kr_cne (tgt := 185) C0 dL_alike_177 dL_alike_178 (by decide) (fun hc => ?_) (fun hc => ?_)
          · have hq := hq.2 hc
            refine lv_iconst (v := 0) hx hb dL_alike_185 (by decide) ?_
            refine lv_istore_n (lv' := [(3, .int (0 : Int32)), (0, .ref (ka_a G1 (22, 0, 0))), (1, .ref (ka_a G2 (22, 0, 0))), (2, .int v2), (4, .int v4), (5, .int v5)]) hx hb dL_alike_186 rfl hl (by decide) rfl (fun ls hl => ?_)
            refine lv_iload_n hx hb dL_alike_187 rfl (lv_at hl 3 rfl) ?_
            refine lv_iconst (v := 4) hx hb dL_alike_188 (by decide) ?_
            refine lv_irem hx hb dL_alike_189 (by decide) ?_
            refine lv_topi (fun x43 ex43 => ?_)
            have hq := hq x43 ex43
            refine lv_istore (lv' := [(6, .int x43), (3, .int (0 : Int32)), (0, .ref (ka_a G1 (22, 0, 0))), (1, .ref (ka_a G2 (22, 0, 0))), (2, .int v2), (4, .int v4), (5, .int v5)]) hx hb dL_alike_190 hl (by decide) rfl (fun ls hl => ?_)
            obtain ⟨n44, hn44, hq⟩ := hq
            refine W.widen (k := (cl + 8)) (n := 6 * (cl + 8)) (by omega) (by omega) ?_
            exact kb_L_alike_192 (R134 := (0 + n * 76)) hl0 hI C0 hK hK2 hT hN ih9 n44 σ40 τ42 v2 (0 : Int32) v4 v5 x43 hq (cl + 8) (by omega) H locs hP hP2 hS ls (lv_sub hl [2, 3, 4, 1, 5, 6, 0] rfl)
          · have hq := hq.1 hc
            refine lv_iconst (v := 1) hx hb dL_alike_181 (by decide) ?_
            refine lv_goto (tgt := 186) hx hb dL_alike_182 (by decide) ?_
            refine lv_istore_n (lv' := [(3, .int (1 : Int32)), (0, .ref (ka_a G1 (22, 0, 0))), (1, .ref (ka_a G2 (22, 0, 0))), (2, .int v2), (4, .int v4), (5, .int v5)]) hx hb dL_alike_186 rfl hl (by decide) rfl (fun ls hl => ?_)
            refine lv_iload_n hx hb dL_alike_187 rfl (lv_at hl 3 rfl) ?_
            refine lv_iconst (v := 4) hx hb dL_alike_188 (by decide) ?_
            refine lv_irem hx hb dL_alike_189 (by decide) ?_
            refine lv_topi (fun x45 ex45 => ?_)
            have hq := hq x45 ex45
            refine lv_istore (lv' := [(6, .int x45), (3, .int (1 : Int32)), (0, .ref (ka_a G1 (22, 0, 0))), (1, .ref (ka_a G2 (22, 0, 0))), (2, .int v2), (4, .int v4), (5, .int v5)]) hx hb dL_alike_190 hl (by decide) rfl (fun ls hl => ?_)
            obtain ⟨n46, hn46, hq⟩ := hq
            refine W.widen (k := (cl + 8)) (n := 6 * (cl + 8)) (by omega) (by omega) ?_
            exact kb_L_alike_192 (R134 := (0 + n * 76)) hl0 hI C0 hK hK2 hT hN ih9 n46 σ40 τ42 v2 (1 : Int32) v4 v5 x45 hq (cl + 8) (by omega) H locs hP hP2 hS ls (lv_sub hl [2, 3, 4, 1, 5, 6, 0] rfl)
def kw_L_alike_122 (Q : Int32 → ka_S → ka_S → Prop) (σ τ : ka_S) (v2 : Int32) (t0 : Int32) : Prop := kw0_L_about σ (5 : Int32) (fun r29 σ30 =>
  ∀ x31 : Int32, x31 = r29.toInt32 → 
  ∃ n32 : Nat, n32 ≤ 62 ∧ kw_L_alike_134 Q n32 σ30 τ v2 t0 x31 (0 : Int32))
set_option maxHeartbeats 4000000 in
set_option maxRecDepth 100000 in
theorem kb_L_alike_122 {p : Program} {l : Launch} {e : Env} {s : State} {m : MethodId} {below : List Frame} {meth : Method} {c : Code} {G1 G2 : ka_G} {args : Array Value} (hl0 : l.stackTraces = false) (hI : ka_I2 G1 G2) (C0 : ka_C p s m args meth c cL_alike 7 "GlossRowsLaw" (some .boolean)) (hK : ka_Kn G1 s) (hK2 : ka_Kn G2 s) (hT : ka_T9 (ka_A2 G1 G2) s) (hN : kl_Nc s) {Q : Int32 → ka_S → ka_S → Prop} : ∀ (σ τ : ka_S) (v2 : Int32) (t0 : Int32), kw_L_alike_122 Q σ τ v2 t0 → ∀ (cl : Nat), cl + 4712 ≤ 4712 → ∀ (H : Heap) (locs : List Loc), ka_P G1 σ H → ka_P G2 τ H → va_S (ka_A2 G1 G2) s.heap H locs → ∀ ls : Array Slot, lv_has ls 7 [(0, .ref (ka_a G1 (22, 0, 0))), (1, .ref (ka_a G2 (22, 0, 0))), (2, .int v2)] → W p l e rm_L_alike s m args below meth c H locs cl (6 * cl) (MQ below (va_Qi (fun r (u : ka_S × ka_S) => Q r u.1 u.2) (ka_B2 G1 G2) (ka_A2 G1 G2)) args s 4712 28272 (ka_A2 G1 G2)) (F0 m 122 ls [.int t0]) := by
  obtain ⟨hx, hb, -, hml, hown, hts, -⟩ := id C0
  intro σ τ v2 t0 hq cl hcl H locs hP hP2 hS ls hl
  unfold kw_L_alike_122 at hq
  refine lv_istore_n (lv' := [(3, .int t0), (0, .ref (ka_a G1 (22, 0, 0))), (1, .ref (ka_a G2 (22, 0, 0))), (2, .int v2)]) hx hb dL_alike_122 rfl hl (by decide) rfl (fun ls hl => ?_)
  refine lv_aload_n hx hb dL_alike_123 rfl (lv_at hl 1 rfl) ?_
  refine lv_iconst (v := 5) hx hb dL_alike_124 (by decide) ?_
  refine kj_Wl (As := [.ref (ka_a G1 (22, 0, 0)), .int (5 : Int32)]) (rest := []) C0 hK hT hN hP hS (fun _ h => Or.inl h) hl (km0_L_about l hl0 hI.1 hq) kd_L_about kq_478 ⟨rfl, rfl, Nat.le_of_ble_eq_true rfl, Nat.le_of_ble_eq_true rfl⟩ rfl (Nat.le_of_ble_eq_true rfl) dL_alike_125 ⟨by show _ ≤ 4712; omega, by show _ ≤ 28272; omega⟩ (fun r29 σ30 H locs hq hP hkp hS => ?_)
  replace hP2 := hP2.far hI.2.2.1 hkp
  refine lv_l2i hx hb dL_alike_128 rfl ?_
  refine lv_topi (fun x31 ex31 => ?_)
  have hq := hq x31 ex31
  refine lv_istore (lv' := [(4, .int x31), (3, .int t0), (0, .ref (ka_a G1 (22, 0, 0))), (1, .ref (ka_a G2 (22, 0, 0))), (2, .int v2)]) hx hb dL_alike_129 hl (by decide) rfl (fun ls hl => ?_)
  refine lv_iconst (v := 0) hx hb dL_alike_131 (by decide) ?_
  refine lv_istore (lv' := [(5, .int (0 : Int32)), (4, .int x31), (3, .int t0), (0, .ref (ka_a G1 (22, 0, 0))), (1, .ref (ka_a G2 (22, 0, 0))), (2, .int v2)]) hx hb dL_alike_132 hl (by decide) rfl (fun ls hl => ?_)
  obtain ⟨n32, hn32, hq⟩ := hq
  refine W.widen (k := (cl + 0)) (n := 6 * (cl + 0)) (by omega) (by omega) ?_
  exact kb_L_alike_134 hl0 hI C0 hK hK2 hT hN n32 σ30 τ v2 t0 x31 (0 : Int32) hq (cl + 0) (by omega) H locs hP hP2 hS ls (lv_sub hl [3, 4, 5, 2, 1, 0] rfl)
def kw_L_alike_121 (Q : Int32 → ka_S → ka_S → Prop) (σ τ : ka_S) (v2 : Int32) : Prop := kw_L_alike_122 Q σ τ v2 (0 : Int32)
set_option maxHeartbeats 4000000 in
set_option maxRecDepth 100000 in
theorem kb_L_alike_121 {p : Program} {l : Launch} {e : Env} {s : State} {m : MethodId} {below : List Frame} {meth : Method} {c : Code} {G1 G2 : ka_G} {args : Array Value} (hl0 : l.stackTraces = false) (hI : ka_I2 G1 G2) (C0 : ka_C p s m args meth c cL_alike 7 "GlossRowsLaw" (some .boolean)) (hK : ka_Kn G1 s) (hK2 : ka_Kn G2 s) (hT : ka_T9 (ka_A2 G1 G2) s) (hN : kl_Nc s) {Q : Int32 → ka_S → ka_S → Prop} : ∀ (σ τ : ka_S) (v2 : Int32), kw_L_alike_121 Q σ τ v2 → ∀ (cl : Nat), cl + 4712 ≤ 4712 → ∀ (H : Heap) (locs : List Loc), ka_P G1 σ H → ka_P G2 τ H → va_S (ka_A2 G1 G2) s.heap H locs → ∀ ls : Array Slot, lv_has ls 7 [(0, .ref (ka_a G1 (22, 0, 0))), (1, .ref (ka_a G2 (22, 0, 0))), (2, .int v2)] → W p l e rm_L_alike s m args below meth c H locs cl (6 * cl) (MQ below (va_Qi (fun r (u : ka_S × ka_S) => Q r u.1 u.2) (ka_B2 G1 G2) (ka_A2 G1 G2)) args s 4712 28272 (ka_A2 G1 G2)) (F0 m 121 ls []) := by
  obtain ⟨hx, hb, -, hml, hown, hts, -⟩ := id C0
  intro σ τ v2 hq cl hcl H locs hP hP2 hS ls hl
  unfold kw_L_alike_121 at hq
  refine lv_iconst (v := 0) hx hb dL_alike_121 (by decide) ?_
  refine W.widen (k := (cl + 0)) (n := 6 * (cl + 0)) (by omega) (by omega) ?_
  exact kb_L_alike_122 hl0 hI C0 hK hK2 hT hN σ τ v2 (0 : Int32) hq (cl + 0) (by omega) H locs hP hP2 hS ls (lv_sub hl [0, 1, 2] rfl)
def kw_L_alike_54 (Q : Int32 → ka_S → ka_S → Prop) (σ τ : ka_S) (v2 : Int32) : Prop := kw0_L_widthFor σ (v2 - v2 / (40 : Int32) * (40 : Int32)) (fun r17 σ18 =>
  kw0_L_widthFor τ (v2 - v2 / (40 : Int32) * (40 : Int32)) (fun r19 τ20 =>
  (r17 = r19 → kw_X8_empty σ18 (fun r21 σ22 =>
    kw_X8_empty τ20 (fun r23 τ24 =>
    (r21 = r23 → kw0_L_rowsWith σ22 ((10 : Int32) + (v2 - v2 / (51 : Int32) * (51 : Int32))) (v2 - v2 / (2 : Int32) * (2 : Int32)) (fun r25 σ26 =>
      kw0_L_rowsWith τ24 ((10 : Int32) + (v2 - v2 / (51 : Int32) * (51 : Int32))) (v2 - v2 / (2 : Int32) * (2 : Int32)) (fun r27 τ28 =>
      (r25 = r27 → kw_L_alike_122 Q σ26 τ28 v2 (1 : Int32)) ∧
      (¬ r25 = r27 → kw_L_alike_121 Q σ26 τ28 v2)))) ∧
    (¬ r21 = r23 → kw_L_alike_121 Q σ22 τ24 v2)))) ∧
  (¬ r17 = r19 → kw_L_alike_121 Q σ18 τ20 v2)))
set_option maxHeartbeats 4000000 in
set_option maxRecDepth 100000 in
theorem kb_L_alike_54 {p : Program} {l : Launch} {e : Env} {s : State} {m : MethodId} {below : List Frame} {meth : Method} {c : Code} {G1 G2 : ka_G} {args : Array Value} (hl0 : l.stackTraces = false) (hI : ka_I2 G1 G2) (C0 : ka_C p s m args meth c cL_alike 7 "GlossRowsLaw" (some .boolean)) (hK : ka_Kn G1 s) (hK2 : ka_Kn G2 s) (hT : ka_T9 (ka_A2 G1 G2) s) (hN : kl_Nc s) {Q : Int32 → ka_S → ka_S → Prop} : ∀ (σ τ : ka_S) (v2 : Int32), kw_L_alike_54 Q σ τ v2 → ∀ (cl : Nat), cl + 4712 ≤ 4712 → ∀ (H : Heap) (locs : List Loc), ka_P G1 σ H → ka_P G2 τ H → va_S (ka_A2 G1 G2) s.heap H locs → ∀ ls : Array Slot, lv_has ls 7 [(0, .ref (ka_a G1 (22, 0, 0))), (1, .ref (ka_a G2 (22, 0, 0))), (2, .int v2)] → W p l e rm_L_alike s m args below meth c H locs cl (6 * cl) (MQ below (va_Qi (fun r (u : ka_S × ka_S) => Q r u.1 u.2) (ka_B2 G1 G2) (ka_A2 G1 G2)) args s 4712 28272 (ka_A2 G1 G2)) (F0 m 54 ls []) := by
  obtain ⟨hx, hb, -, hml, hown, hts, -⟩ := id C0
  intro σ τ v2 hq cl hcl H locs hP hP2 hS ls hl
  unfold kw_L_alike_54 at hq
  refine lv_aload_n hx hb dL_alike_54 rfl (lv_at hl 0 rfl) ?_
  refine lv_iload_n hx hb dL_alike_55 rfl (lv_at hl 2 rfl) ?_
  refine lv_bipush (v := 40) hx hb dL_alike_56 (by decide) ?_
  refine lv_irem hx hb dL_alike_58 (by decide) ?_
  refine kj_Wl (As := [.ref (ka_a G1 (22, 0, 0)), .int (v2 - v2 / (40 : Int32) * (40 : Int32))]) (rest := []) C0 hK hT hN hP hS (fun _ h => Or.inl h) hl (km0_L_widthFor l hl0 hI.1 hq) kd_L_widthFor kq_659 ⟨rfl, rfl, Nat.le_of_ble_eq_true rfl, Nat.le_of_ble_eq_true rfl⟩ rfl (Nat.le_of_ble_eq_true rfl) dL_alike_59 ⟨by show _ ≤ 4712; omega, by show _ ≤ 28272; omega⟩ (fun r17 σ18 H locs hq hP hkp hS => ?_)
  replace hP2 := hP2.far hI.2.2.1 hkp
  refine lv_aload_n hx hb dL_alike_62 rfl (lv_at hl 1 rfl) ?_
  refine lv_iload_n hx hb dL_alike_63 rfl (lv_at hl 2 rfl) ?_
  refine lv_bipush (v := 40) hx hb dL_alike_64 (by decide) ?_
  refine lv_irem hx hb dL_alike_66 (by decide) ?_
  refine kj_Wl (As := [.ref (ka_a G2 (22, 0, 0)), .int (v2 - v2 / (40 : Int32) * (40 : Int32))]) (rest := [.long r17]) C0 hK2 hT hN hP2 hS (fun _ h => Or.inr h) hl (km0_L_widthFor l hl0 hI.2.1 hq) kd_L_widthFor kq_659 ⟨rfl, rfl, Nat.le_of_ble_eq_true rfl, Nat.le_of_ble_eq_true rfl⟩ rfl (Nat.le_of_ble_eq_true rfl) dL_alike_67 ⟨by show _ ≤ 4712; omega, by show _ ≤ 28272; omega⟩ (fun r19 τ20 H locs hq hP2 hkp hS => ?_)
  replace hP := hP.far hI.2.2.2 hkp
  refine kr_cne (tgt := 121) C0 dL_alike_70 dL_alike_71 (by decide) (fun hc => ?_) (fun hc => ?_)
  · have hq := hq.2 hc
    refine W.widen (k := (cl + 0)) (n := 6 * (cl + 0)) (by omega) (by omega) ?_
    exact kb_L_alike_121 hl0 hI C0 hK hK2 hT hN σ18 τ20 v2 hq (cl + 0) (by omega) H locs hP hP2 hS ls (lv_sub hl [0, 1, 2] rfl)
  · have hq := hq.1 hc
    refine lv_aload_n hx hb dL_alike_74 rfl (lv_at hl 0 rfl) ?_
    refine kj_Vi (k := (22, 0, 0)) (As := []) (rest := []) C0 hK hP hS (fun _ h => Or.inl h) hl (km_X8_empty l hI.1 hq) kd_X8_empty kq_667 (kv_s (by decide) (by decide)) rfl rfl rfl ⟨rfl, rfl, Nat.le_of_ble_eq_true rfl, Nat.le_of_ble_eq_true rfl⟩ rfl (Nat.le_of_ble_eq_true rfl) dL_alike_75 ⟨by show _ ≤ 4712; omega, by show _ ≤ 28272; omega⟩ (fun r21 σ22 H locs hq hP hkp hS => ?_)
    replace hP2 := hP2.far hI.2.2.1 hkp
    refine lv_aload_n hx hb dL_alike_78 rfl (lv_at hl 1 rfl) ?_
    refine kj_Vi (k := (22, 0, 0)) (As := []) (rest := [.int r21]) C0 hK2 hP2 hS (fun _ h => Or.inr h) hl (km_X8_empty l hI.2.1 hq) kd_X8_empty kq_667 (kv_s (by decide) (by decide)) rfl rfl rfl ⟨rfl, rfl, Nat.le_of_ble_eq_true rfl, Nat.le_of_ble_eq_true rfl⟩ rfl (Nat.le_of_ble_eq_true rfl) dL_alike_79 ⟨by show _ ≤ 4712; omega, by show _ ≤ 28272; omega⟩ (fun r23 τ24 H locs hq hP2 hkp hS => ?_)
    replace hP := hP.far hI.2.2.2 hkp
    refine lv_icmp_ne (tgt := 121) hx hb dL_alike_82 (by decide) (fun hc => ?_) (fun hc => ?_)
    · have hq := hq.2 hc
      refine W.widen (k := (cl + 0)) (n := 6 * (cl + 0)) (by omega) (by omega) ?_
      exact kb_L_alike_121 hl0 hI C0 hK hK2 hT hN σ22 τ24 v2 hq (cl + 0) (by omega) H locs hP hP2 hS ls (lv_sub hl [0, 1, 2] rfl)
    · have hq := hq.1 hc
      refine lv_aload_n hx hb dL_alike_85 rfl (lv_at hl 0 rfl) ?_
      refine lv_bipush (v := 10) hx hb dL_alike_86 (by decide) ?_
      refine lv_iload_n hx hb dL_alike_88 rfl (lv_at hl 2 rfl) ?_
      refine lv_bipush (v := 51) hx hb dL_alike_89 (by decide) ?_
      refine lv_irem hx hb dL_alike_91 (by decide) ?_
      refine lv_iadd hx hb dL_alike_92 ?_
      refine lv_iload_n hx hb dL_alike_93 rfl (lv_at hl 2 rfl) ?_
      refine lv_iconst (v := 2) hx hb dL_alike_94 (by decide) ?_
      refine lv_irem hx hb dL_alike_95 (by decide) ?_
      refine kj_Wl (As := [.ref (ka_a G1 (22, 0, 0)), .int ((10 : Int32) + (v2 - v2 / (51 : Int32) * (51 : Int32))), .int (v2 - v2 / (2 : Int32) * (2 : Int32))]) (rest := []) C0 hK hT hN hP hS (fun _ h => Or.inl h) hl (km0_L_rowsWith l hl0 hI.1 hq) kd_L_rowsWith kq_676 ⟨rfl, rfl, Nat.le_of_ble_eq_true rfl, Nat.le_of_ble_eq_true rfl⟩ rfl (Nat.le_of_ble_eq_true rfl) dL_alike_96 ⟨by show _ ≤ 4712; omega, by show _ ≤ 28272; omega⟩ (fun r25 σ26 H locs hq hP hkp hS => ?_)
      replace hP2 := hP2.far hI.2.2.1 hkp
      refine lv_aload_n hx hb dL_alike_99 rfl (lv_at hl 1 rfl) ?_
      refine lv_bipush (v := 10) hx hb dL_alike_100 (by decide) ?_
      refine lv_iload_n hx hb dL_alike_102 rfl (lv_at hl 2 rfl) ?_
      refine lv_bipush (v := 51) hx hb dL_alike_103 (by decide) ?_
      refine lv_irem hx hb dL_alike_105 (by decide) ?_
      refine lv_iadd hx hb dL_alike_106 ?_
      refine lv_iload_n hx hb dL_alike_107 rfl (lv_at hl 2 rfl) ?_
      refine lv_iconst (v := 2) hx hb dL_alike_108 (by decide) ?_
      refine lv_irem hx hb dL_alike_109 (by decide) ?_
      refine kj_Wl (As := [.ref (ka_a G2 (22, 0, 0)), .int ((10 : Int32) + (v2 - v2 / (51 : Int32) * (51 : Int32))), .int (v2 - v2 / (2 : Int32) * (2 : Int32))]) (rest := [.long r25]) C0 hK2 hT hN hP2 hS (fun _ h => Or.inr h) hl (km0_L_rowsWith l hl0 hI.2.1 hq) kd_L_rowsWith kq_676 ⟨rfl, rfl, Nat.le_of_ble_eq_true rfl, Nat.le_of_ble_eq_true rfl⟩ rfl (Nat.le_of_ble_eq_true rfl) dL_alike_110 ⟨by show _ ≤ 4712; omega, by show _ ≤ 28272; omega⟩ (fun r27 τ28 H locs hq hP2 hkp hS => ?_)
      replace hP := hP.far hI.2.2.2 hkp
      refine kr_cne (tgt := 121) C0 dL_alike_113 dL_alike_114 (by decide) (fun hc => ?_) (fun hc => ?_)
      · have hq := hq.2 hc
        refine W.widen (k := (cl + 0)) (n := 6 * (cl + 0)) (by omega) (by omega) ?_
        exact kb_L_alike_121 hl0 hI C0 hK hK2 hT hN σ26 τ28 v2 hq (cl + 0) (by omega) H locs hP hP2 hS ls (lv_sub hl [0, 1, 2] rfl)
      · have hq := hq.1 hc
        refine lv_iconst (v := 1) hx hb dL_alike_117 (by decide) ?_
        refine lv_goto (tgt := 122) hx hb dL_alike_118 (by decide) ?_
        refine W.widen (k := (cl + 0)) (n := 6 * (cl + 0)) (by omega) (by omega) ?_
        exact kb_L_alike_122 hl0 hI C0 hK hK2 hT hN σ26 τ28 v2 (1 : Int32) hq (cl + 0) (by omega) H locs hP hP2 hS ls (lv_sub hl [0, 1, 2] rfl)
def kw_L_alike (σ τ : ka_S) (v2 : Int32) (Q : Int32 → ka_S → ka_S → Prop) : Prop := kw_L_now σ (fun r1 σ2 =>
  kw_L_now τ (fun r3 τ4 =>
  (r1 = r3 → kw_X8_errorPosition σ2 (fun r5 σ6 =>
    kw_X8_errorPosition τ4 (fun r7 τ8 =>
    (r5 = r7 → kw0_L_gap σ6 (v2 - v2 / (9 : Int32) * (9 : Int32)) (fun r9 σ10 =>
      kw0_L_gap τ8 (v2 - v2 / (9 : Int32) * (9 : Int32)) (fun r11 τ12 =>
      (r9 = r11 → kw_X8_mostUsed σ10 (fun r13 σ14 =>
        kw_X8_mostUsed τ12 (fun r15 τ16 =>
        (r13 = r15 → kw_L_alike_54 Q σ14 τ16 v2) ∧
        (¬ r13 = r15 → kw_L_alike_121 Q σ14 τ16 v2)))) ∧
      (¬ r9 = r11 → kw_L_alike_121 Q σ10 τ12 v2)))) ∧
    (¬ r5 = r7 → kw_L_alike_121 Q σ6 τ8 v2)))) ∧
  (¬ r1 = r3 → kw_L_alike_121 Q σ2 τ4 v2)))
set_option maxHeartbeats 4000000 in
set_option maxRecDepth 100000 in
theorem km_L_alike (l : Launch) (hl0 : l.stackTraces = false) {G1 G2 : ka_G} (hI : ka_I2 G1 G2) {σ τ : ka_S} {v2 : Int32} {Q : Int32 → ka_S → ka_S → Prop} (hq : kw_L_alike σ τ v2 Q) : kd2_i l yL_alike (kw_ yL_alike cL_alike 7 (some .boolean)) rm_L_alike 4712 28272 G1 G2 [.ref (ka_a G1 (22, 0, 0)), .ref (ka_a G2 (22, 0, 0)), .int v2] σ τ Q := by
  refine kj2_of "GlossRowsLaw" rfl (by decide) (Nat.le_of_ble_eq_true rfl) ?_
  intro p e s m below meth c C0 hK hK2 hT hN H locs hP hP2 hS ls hl
  obtain ⟨hx, hb, -, hml, hown, hts, -⟩ := id C0
  have hl : lv_has ls 7 [(0, .ref (ka_a G1 (22, 0, 0))), (1, .ref (ka_a G2 (22, 0, 0))), (2, .int v2)] := hl
  unfold kw_L_alike at hq
  refine lv_aload_n hx hb dL_alike_0 rfl (lv_at hl 0 rfl) ?_
  refine kj_Sl (As := [.ref (ka_a G1 (22, 0, 0))]) (rest := []) C0 hK hT hN hP hS (fun _ h => Or.inl h) hl (km_L_now l hl0 hI.1 hq) kd_L_now kq_473 ⟨rfl, rfl, Nat.le_of_ble_eq_true rfl, Nat.le_of_ble_eq_true rfl⟩ rfl (Nat.le_of_ble_eq_true rfl) dL_alike_1 ⟨by show _ ≤ 4712; omega, by show _ ≤ 28272; omega⟩ (fun r1 σ2 H locs hq hP hkp hS => ?_)
  replace hP2 := hP2.far hI.2.2.1 hkp
  refine lv_aload_n hx hb dL_alike_4 rfl (lv_at hl 1 rfl) ?_
  refine kj_Sl (As := [.ref (ka_a G2 (22, 0, 0))]) (rest := [.long r1]) C0 hK2 hT hN hP2 hS (fun _ h => Or.inr h) hl (km_L_now l hl0 hI.2.1 hq) kd_L_now kq_473 ⟨rfl, rfl, Nat.le_of_ble_eq_true rfl, Nat.le_of_ble_eq_true rfl⟩ rfl (Nat.le_of_ble_eq_true rfl) dL_alike_5 ⟨by show _ ≤ 4712; omega, by show _ ≤ 28272; omega⟩ (fun r3 τ4 H locs hq hP2 hkp hS => ?_)
  replace hP := hP.far hI.2.2.2 hkp
  refine kr_cne (tgt := 121) C0 dL_alike_8 dL_alike_9 (by decide) (fun hc => ?_) (fun hc => ?_)
  · have hq := hq.2 hc
    refine W.widen (k := 0) (n := 6 * 0) (by omega) (by omega) ?_
    exact kb_L_alike_121 hl0 hI C0 hK hK2 hT hN σ2 τ4 v2 hq 0 (by omega) H locs hP hP2 hS ls (lv_sub hl [0, 1, 2] rfl)
  · have hq := hq.1 hc
    refine lv_aload_n hx hb dL_alike_12 rfl (lv_at hl 0 rfl) ?_
    refine kj_Vi (k := (22, 0, 0)) (As := []) (rest := []) C0 hK hP hS (fun _ h => Or.inl h) hl (km_X8_errorPosition l hI.1 hq) kd_X8_errorPosition kq_632 (kv_s (by decide) (by decide)) rfl rfl rfl ⟨rfl, rfl, Nat.le_of_ble_eq_true rfl, Nat.le_of_ble_eq_true rfl⟩ rfl (Nat.le_of_ble_eq_true rfl) dL_alike_13 ⟨by show _ ≤ 4712; omega, by show _ ≤ 28272; omega⟩ (fun r5 σ6 H locs hq hP hkp hS => ?_)
    replace hP2 := hP2.far hI.2.2.1 hkp
    refine lv_aload_n hx hb dL_alike_16 rfl (lv_at hl 1 rfl) ?_
    refine kj_Vi (k := (22, 0, 0)) (As := []) (rest := [.int r5]) C0 hK2 hP2 hS (fun _ h => Or.inr h) hl (km_X8_errorPosition l hI.2.1 hq) kd_X8_errorPosition kq_632 (kv_s (by decide) (by decide)) rfl rfl rfl ⟨rfl, rfl, Nat.le_of_ble_eq_true rfl, Nat.le_of_ble_eq_true rfl⟩ rfl (Nat.le_of_ble_eq_true rfl) dL_alike_17 ⟨by show _ ≤ 4712; omega, by show _ ≤ 28272; omega⟩ (fun r7 τ8 H locs hq hP2 hkp hS => ?_)
    replace hP := hP.far hI.2.2.2 hkp
    refine lv_icmp_ne (tgt := 121) hx hb dL_alike_20 (by decide) (fun hc => ?_) (fun hc => ?_)
    · have hq := hq.2 hc
      refine W.widen (k := 0) (n := 6 * 0) (by omega) (by omega) ?_
      exact kb_L_alike_121 hl0 hI C0 hK hK2 hT hN σ6 τ8 v2 hq 0 (by omega) H locs hP hP2 hS ls (lv_sub hl [0, 1, 2] rfl)
    · have hq := hq.1 hc
      refine lv_aload_n hx hb dL_alike_23 rfl (lv_at hl 0 rfl) ?_
      refine lv_iload_n hx hb dL_alike_24 rfl (lv_at hl 2 rfl) ?_
      refine lv_bipush (v := 9) hx hb dL_alike_25 (by decide) ?_
      refine lv_irem hx hb dL_alike_27 (by decide) ?_
      refine kj_Wl (As := [.ref (ka_a G1 (22, 0, 0)), .int (v2 - v2 / (9 : Int32) * (9 : Int32))]) (rest := []) C0 hK hT hN hP hS (fun _ h => Or.inl h) hl (km0_L_gap l hl0 hI.1 hq) kd_L_gap kq_636 ⟨rfl, rfl, Nat.le_of_ble_eq_true rfl, Nat.le_of_ble_eq_true rfl⟩ rfl (Nat.le_of_ble_eq_true rfl) dL_alike_28 ⟨by show _ ≤ 4712; omega, by show _ ≤ 28272; omega⟩ (fun r9 σ10 H locs hq hP hkp hS => ?_)
      replace hP2 := hP2.far hI.2.2.1 hkp
      refine lv_aload_n hx hb dL_alike_31 rfl (lv_at hl 1 rfl) ?_
      refine lv_iload_n hx hb dL_alike_32 rfl (lv_at hl 2 rfl) ?_
      refine lv_bipush (v := 9) hx hb dL_alike_33 (by decide) ?_
      refine lv_irem hx hb dL_alike_35 (by decide) ?_
      refine kj_Wl (As := [.ref (ka_a G2 (22, 0, 0)), .int (v2 - v2 / (9 : Int32) * (9 : Int32))]) (rest := [.long r9]) C0 hK2 hT hN hP2 hS (fun _ h => Or.inr h) hl (km0_L_gap l hl0 hI.2.1 hq) kd_L_gap kq_636 ⟨rfl, rfl, Nat.le_of_ble_eq_true rfl, Nat.le_of_ble_eq_true rfl⟩ rfl (Nat.le_of_ble_eq_true rfl) dL_alike_36 ⟨by show _ ≤ 4712; omega, by show _ ≤ 28272; omega⟩ (fun r11 τ12 H locs hq hP2 hkp hS => ?_)
      replace hP := hP.far hI.2.2.2 hkp
      refine kr_cne (tgt := 121) C0 dL_alike_39 dL_alike_40 (by decide) (fun hc => ?_) (fun hc => ?_)
      · have hq := hq.2 hc
        refine W.widen (k := 0) (n := 6 * 0) (by omega) (by omega) ?_
        exact kb_L_alike_121 hl0 hI C0 hK hK2 hT hN σ10 τ12 v2 hq 0 (by omega) H locs hP hP2 hS ls (lv_sub hl [0, 1, 2] rfl)
      · have hq := hq.1 hc
        refine lv_aload_n hx hb dL_alike_43 rfl (lv_at hl 0 rfl) ?_
        refine kj_Vi (k := (22, 0, 0)) (As := []) (rest := []) C0 hK hP hS (fun _ h => Or.inl h) hl (km_X8_mostUsed l hI.1 hq) kd_X8_mostUsed kq_647 (kv_s (by decide) (by decide)) rfl rfl rfl ⟨rfl, rfl, Nat.le_of_ble_eq_true rfl, Nat.le_of_ble_eq_true rfl⟩ rfl (Nat.le_of_ble_eq_true rfl) dL_alike_44 ⟨by show _ ≤ 4712; omega, by show _ ≤ 28272; omega⟩ (fun r13 σ14 H locs hq hP hkp hS => ?_)
        replace hP2 := hP2.far hI.2.2.1 hkp
        refine lv_aload_n hx hb dL_alike_47 rfl (lv_at hl 1 rfl) ?_
        refine kj_Vi (k := (22, 0, 0)) (As := []) (rest := [.int r13]) C0 hK2 hP2 hS (fun _ h => Or.inr h) hl (km_X8_mostUsed l hI.2.1 hq) kd_X8_mostUsed kq_647 (kv_s (by decide) (by decide)) rfl rfl rfl ⟨rfl, rfl, Nat.le_of_ble_eq_true rfl, Nat.le_of_ble_eq_true rfl⟩ rfl (Nat.le_of_ble_eq_true rfl) dL_alike_48 ⟨by show _ ≤ 4712; omega, by show _ ≤ 28272; omega⟩ (fun r15 τ16 H locs hq hP2 hkp hS => ?_)
        replace hP := hP.far hI.2.2.2 hkp
        refine lv_icmp_ne (tgt := 121) hx hb dL_alike_51 (by decide) (fun hc => ?_) (fun hc => ?_)
        · have hq := hq.2 hc
          refine W.widen (k := 0) (n := 6 * 0) (by omega) (by omega) ?_
          exact kb_L_alike_121 hl0 hI C0 hK hK2 hT hN σ14 τ16 v2 hq 0 (by omega) H locs hP hP2 hS ls (lv_sub hl [0, 1, 2] rfl)
        · have hq := hq.1 hc
          refine W.widen (k := 0) (n := 6 * 0) (by omega) (by omega) ?_
          exact kb_L_alike_54 hl0 hI C0 hK hK2 hT hN σ14 τ16 v2 hq 0 (by omega) H locs hP hP2 hS ls (lv_sub hl [0, 1, 2] rfl)
