/-! ===== the law's methods: contracts, rows ===== -/
def ka_T9 (A : Nat → Prop) (U : State) : Prop := vx_Zq Bundle.tN "UNASSIGNED_STACK" Bundle.steD A U U.heap ∧ vx_Zq Bundle.tN "SUPPRESSED_SENTINEL" Bundle.listD A U U.heap ∧ (∀ w ∈ ka_Tw, va_Nw w U) ∧ ∀ q ∈ ka_Ts, ∃ sa : Nat, vk_R "GlossRows" q.1 q.2 sa U
theorem ka_T9.warm {A : Nat → Prop} {s U : State} {H : Heap} {locs : List Loc} (hT : ka_T9 A s) (hS : va_S A s.heap H locs) (hU : U.heap = H) (hW : s.WarmedH U.vm) : ka_T9 A U := by
  obtain ⟨h1, h2, h3, h4⟩ := hT
  refine ⟨?_, ?_, ka_Tw_warm hW h3, fun q hq => ?_⟩
  · rw [hU]; exact vx_Zq.moved hW.alike (h1.kept hS.2.1)
  · rw [hU]; exact vx_Zq.moved hW.alike (h2.kept hS.2.1)
  · obtain ⟨sa, h⟩ := h4 q hq
    exact ⟨sa, vk_R.warm hW h⟩
theorem ka_T9.G {A : Nat → Prop} {G : ka_G} {U : State} (h : ka_T9 A U) (hA : ∀ q, ka_A G q → A q) : ka_T G U := ⟨h.1.narrow hA, h.2.1.narrow hA, h.2.2⟩
def kl_Nc (U : State) : Prop := ∀ i, i < 3 → ∀ j, j < 3 → i ≠ j → va_Nc (ka_E i) (ka_E j) U
def kl_Pc (G : ka_G) (av : List Value) (σ : ka_S) : Array Value → State → Prop := va_Pc av (fun U => ka_BT G σ U ∧ kl_Nc U)
abbrev kd_i (l : Launch) (y : MethodName) (ws : List Cond) (rm : Room) (mc ms : Nat) (G : ka_G) (av : List Value) (σ : ka_S) (Q : Int32 → ka_S → Prop) : Prop := Met l y ws rm (kl_Pc G av σ) (va_Qi Q (ka_B G) (ka_A G)) mc ms (ka_A G)
abbrev kd_l (l : Launch) (y : MethodName) (ws : List Cond) (rm : Room) (mc ms : Nat) (G : ka_G) (av : List Value) (σ : ka_S) (Q : Int64 → ka_S → Prop) : Prop := Met l y ws rm (kl_Pc G av σ) (va_Ql Q (ka_B G) (ka_A G)) mc ms (ka_A G)
theorem kl_blind {av : List Value} {G : ka_G} {σ : ka_S} : FrameBlind (kl_Pc G av σ) := fun a U g mk q =>
  have h := ka_blindT (av := av) (G := G) (σ := σ) a U g mk ⟨q.1, q.2.1⟩
  ⟨q.1, h.2, fun i hi j hj hij => va_Nc.moved (u := U) (U := U.calling g mk a) (Vm.Alike.refl U.vm) (q.2.2 i hi j hj hij)⟩
abbrev kw_W (y : MethodName) (cc : ByteArray) (nL : Nat) (hh : List (Nat × Nat × Nat × Nat)) : List Cond := .codeWith y cc nL (some .long) hh :: kq_W
/-- the body of a method that catches -/
theorem kl_of {l : Launch} {y : MethodName} {cc : ByteArray} {nL : Nat} {hh : List (Nat × Nat × Nat × Nat)} {rm : Room} {mc ms : Nat} {G : ka_G} {av : List Value} {σ : ka_S} {Qc : Array Value → State → Outcome → State → Prop} (ho : y.cls = "GlossRowsLaw") (hy : plainName y.cls = true) (hn : (lg_sl av).length ≤ nL)
    (body : ∀ (p : Program) (e : Env) (s : State) (m : MethodId) (below : List Frame) (meth : Method) (c : Code), ka_C p s m av.toArray meth c cc nL "GlossRowsLaw" (some .long) → ka_Kn G s → ka_T G s → kl_Nc s → c.exceptionTable.toList = tableOf hh → ∀ (H : Heap) (locs : List Loc), ka_P G σ H → va_S (ka_A G) s.heap H locs → ∀ ls : Array Slot, lv_has ls nL (lv_args 0 av) → W p l e rm s m av.toArray below meth c H locs 0 0 (MQ below Qc av.toArray s mc ms (ka_A G)) (F0 m 0 ls [])) :
    Met l y (kw_W y cc nL hh) rm (kl_Pc G av σ) Qc mc ms (ka_A G) := by
  refine MetFree.of_bodyS (code := cc) (maxLocals := nL) (ret := some .long) hy ?_ ?_
  · intro args s m h hn
    obtain ⟨m9, meth, c, hn9, h1, h2, h3, h4, -, h5, h6, -⟩ := Cond.codeWith_spec (atoms_spec (ws := kw_W y cc nL hh) h _ List.mem_cons_self)
    cases hn.symm.trans hn9
    exact ⟨meth, c, h1, h2, h3, h4, h5, h6⟩
  · intro p e s m args below meth c s₁ B hml hv _
    have hh0 : s₁.heap = s.heap := by rw [B.state]; rfl
    obtain ⟨rfl, ⟨⟨hP, hK⟩, hT⟩, hN⟩ := hv
    have hts := atoms_spec (ws := kw_W y cc nL hh) B.pre
    have hl := lv_entry av (n := nL) hn
    have hown : s.vm.findClass "GlossRowsLaw" = some m.cls := by rw [← ho]; exact findClass_of_methodNamed B.named
    have hx := vx_table (x := y) B (hts _ List.mem_cons_self)
    have K : W p l e rm s m av.toArray below meth c s.heap [] 0 0 (MQ below Qc av.toArray s mc ms (ka_A G)) (entryFrame m av.toArray nL) := by
      rw [lg_entry_eq]
      exact body p e s m below meth c ⟨B.exec, B.bytes, B.returns, hml, hown, fun w hw => hts w (List.mem_cons_of_mem _ hw), B.notSynchronized⟩ hK hT hN hx s.heap [] hP va_S.rf _ hl
    obtain ⟨t, a1, o9, b1, b2, b3⟩ := K s₁ hh0 (Stand.of_body B)
    exact ⟨t, o9, a1, b1, b2, ⟨b3.1, b3.2⟩⟩
/-- the body of a method that catches nothing -/
theorem kj_of {l : Launch} {y : MethodName} {cc : ByteArray} {nL : Nat} {ret : Option FieldType} {rm : Room} {mc ms : Nat} {G : ka_G} {av : List Value} {σ : ka_S} {Qc : Array Value → State → Outcome → State → Prop} (own : String) (ho : y.cls = own) (hy : plainName y.cls = true) (hn : (lg_sl av).length ≤ nL)
    (body : ∀ (p : Program) (e : Env) (s : State) (m : MethodId) (below : List Frame) (meth : Method) (c : Code), ka_C p s m av.toArray meth c cc nL own ret → ka_Kn G s → ka_T9 (ka_A G) s → kl_Nc s → ∀ (H : Heap) (locs : List Loc), ka_P G σ H → va_S (ka_A G) s.heap H locs → ∀ ls : Array Slot, lv_has ls nL (lv_args 0 av) → W p l e rm s m av.toArray below meth c H locs 0 0 (MQ below Qc av.toArray s mc ms (ka_A G)) (F0 m 0 ls [])) :
    Met l y (kw_ y cc nL ret) rm (kl_Pc G av σ) Qc mc ms (ka_A G) := by
  subst ho
  refine Met.ofW (cc := cc) (maxL := nL) (ret := ret) hy rfl ?_
  intro p e s m args below meth c s₁ B hml hv
  obtain ⟨rfl, ⟨⟨hP, hK⟩, hT⟩, hN⟩ := hv
  have hts := atoms_spec (ws := kw_ y cc nL ret) B.pre
  have hl := lv_entry av (n := nL) hn
  rw [lg_entry_eq]
  exact body p e s m below meth c ⟨B.exec, B.bytes, B.returns, hml, findClass_of_methodNamed B.named, fun w hw => hts w (List.mem_cons_of_mem _ hw), B.notSynchronized⟩ hK hT hN _ _ hP va_S.rf _ hl
section KL
variable {p : Program} {l : Launch} {e : Env} {R : Room} {s : State} {m : MethodId} {args : Array Value} {below : List Frame} {meth : Method} {c : Code} {H : Heap} {locs : List Loc} {cells slots : Nat} {Q : State → Prop}
variable {cc : ByteArray} {pc : Nat} {ls : Array Slot} {rest : List Value} {G : ka_G} {A : Nat → Prop} {σ : ka_S} {k : ka_K} {own : String} {nL : Nat} {ret : Option FieldType}
theorem kl_lret {v : Int64} {mc ms : Nat} {Qp : Int64 → ka_S → Prop} (C0 : ka_C p s m args meth c cc nL own (some .long)) (hK : ka_Kn G s) (hP : ka_P G σ H) (hS : va_S (ka_A G) s.heap H locs) (hq : Qp v σ) (hdg : decode cc pc = .ok (.lreturn, 1)) (hc : cells ≤ mc ∧ slots ≤ ms) : W p l e R s m args below meth c H locs cells slots (MQ below (va_Ql Qp (ka_B G) (ka_A G)) args s mc ms (ka_A G)) (F0 m pc ls [.long v]) :=
  W.widen hc.1 hc.2 (kr_lret C0 hK hP hS hq hdg)
theorem kl_iret {v : Int32} {mc ms : Nat} {Qp : Int32 → ka_S → Prop} (C0 : ka_C p s m args meth c cc nL own (some .int)) (hK : ka_Kn G s) (hP : ka_P G σ H) (hS : va_S (ka_A G) s.heap H locs) (hq : Qp v σ) (hdg : decode cc pc = .ok (.ireturn, 1)) (hc : cells ≤ mc ∧ slots ≤ ms) : W p l e R s m args below meth c H locs cells slots (MQ below (va_Qi Qp (ka_B G) (ka_A G)) args s mc ms (ka_A G)) (F0 m pc ls [.int v]) :=
  W.widen hc.1 hc.2 (kr_iret C0 hK hP hS hq hdg)
theorem kl_zret {v : Int32} {mc ms : Nat} {Qp : Int32 → ka_S → Prop} (C0 : ka_C p s m args meth c cc nL own (some .boolean)) (hK : ka_Kn G s) (hP : ka_P G σ H) (hS : va_S (ka_A G) s.heap H locs) (hz : narrow .boolean (.int v) = .int v) (hq : Qp v σ) (hdg : decode cc pc = .ok (.ireturn, 1)) (hc : cells ≤ mc ∧ slots ≤ ms) : W p l e R s m args below meth c H locs cells slots (MQ below (va_Qi Qp (ka_B G) (ka_A G)) args s mc ms (ka_A G)) (F0 m pc ls [.int v]) :=
  W.widen hc.1 hc.2 (kr_zret C0 hK hP hS hz hq hdg)
variable {y : MethodName} {bytes : ByteArray} {mL idx n : Nat} {rt : Option FieldType} {rm : Room} {As : List Value}
/-- a call that may throw; what is thrown stands as an exception of the number E -/
theorem kl_V {Qp : Int32 → ka_S → Prop} {X : Nat → ka_S → Prop} {c1 s1 : Nat} {lv : List (Nat × Value)} (C0 : ka_C p s m args meth c cc nL own ret) (hK : ka_Kn G s) (hT : ka_T G s) (hP : ka_P G σ H) (hS : va_S (ka_A G) s.heap H locs) (hl : lv_has ls nL lv) (hM : kx_i l y (kw_ y bytes mL rt) rm c1 s1 G (.ref (ka_a G k) :: As) σ Qp X) (kd : kd_V y bytes mL rt n) (hlink : Cond.methodLink own idx y ∈ kq_W) (hv : ka_v k) {ci : Nat} {q : vw_C} {fs : List Value} (he : ka_c G σ k = .inr (ci, fs)) (hc : vwCl[ci]? = some q) (hC : q.1 = y.cls)
    (hrm : rm.cells = c1 ∧ rm.slots = s1 ∧ rm.frames + 1 ≤ R.frames ∧ 8 + (mL + 11) + rm.locals ≤ R.locals) (hn : As.length = n) (hW : (rest.map fun v => v.category).sum ≤ 8) (hdg : decode cc pc = .ok (.invokevirtual idx, 3)) (hf : cells + c1 ≤ R.cells ∧ slots + s1 ≤ R.slots)
    (kx : ∀ (j : Nat) (ce : Cell) (q9 : Addr) (σ1 : ka_S) (H1 : Heap) (locs1 : List Loc), X j σ1 → ka_P G σ1 H1 → va_S (ka_A G) s.heap H1 locs1 → H1[q9]? = some ce → ce.vm = .none → s.vm.findClass (ka_E j) = some ce.cls → vx_W p l e R s m args below meth c H1 locs1 (cells + c1) (slots + s1) Q (F0 m pc ls rest) q9)
    (kk : ∀ (r : Int32) (σ1 : ka_S) (H1 : Heap) (locs1 : List Loc), Qp r σ1 → ka_P G σ1 H1 → va_S (ka_A G) s.heap H1 locs1 → W p l e R s m args below meth c H1 locs1 (cells + c1) (slots + s1) Q (F0 m (pc + 3) ls (.int r :: rest))) : W p l e R s m args below meth c H locs cells slots Q (F0 m pc ls (As.reverse ++ .ref (ka_a G k) :: rest)) := by
  refine vx_calli (vx_runV C0.fix hM (kx_cbV C0 hlink kd hrm) (kx_pV hK hT hS hP hv he hc hC) rfl hn hl.1 rfl (lv_room hW) hdg hf) hS (fun q _ h => h) (fun q h => h) (fun q _ h => h)
    (fun E ce q9 u t H1 locs1 ht hvm hw hB hz hk1 hS1 hce hcv hcl => ?_)
    (fun r u t H1 locs1 ht hvm hw hB hz hk1 hS1 => kk r u H1 locs1 hw (by rw [← ht]; exact hB.1) hS1)
  obtain ⟨hE, hB⟩ := hB
  subst hE
  exact kx u.1 ce q9 u.2 H1 locs1 hw (by rw [← ht]; exact hB.1) hS1 hce hcv hcl
theorem kj_Vi {Qp : Int32 → ka_S → Prop} {lv : List (Nat × Value)} (C0 : ka_C p s m args meth c cc nL own ret) (hK : ka_Kn G s) (hP : ka_P G σ H) (hS : va_S A s.heap H locs) (hAG : ∀ q, ka_A G q → A q) (hl : lv_has ls nL lv) (hM : kc_i l y (kw_ y bytes mL rt) rm G (.ref (ka_a G k) :: As) σ Qp) (kd : kd_V y bytes mL rt n) (hlink : Cond.methodLink own idx y ∈ kq_W) (hv : ka_v k) {ci : Nat} {q : vw_C} {fs : List Value} (he : ka_c G σ k = .inr (ci, fs)) (hc : vwCl[ci]? = some q) (hC : q.1 = y.cls) (hrm : rm.cells = 0 ∧ rm.slots = 0 ∧ rm.frames + 1 ≤ R.frames ∧ 8 + (mL + 11) + rm.locals ≤ R.locals) (hn : As.length = n) (hW : (rest.map fun v => v.category).sum ≤ 8) (hdg : decode cc pc = .ok (.invokevirtual idx, 3)) (hf : cells ≤ R.cells ∧ slots ≤ R.slots)
    (kk : ∀ (r : Int32) (σ1 : ka_S) (H1 : Heap) (locs1 : List Loc), Qp r σ1 → ka_P G σ1 H1 → (H.size ≤ H1.size ∧ ∀ q : Nat, q < H.size → ¬ ka_A G q → H1[q]? = H[q]?) → va_S A s.heap H1 locs1 → W p l e R s m args below meth c H1 locs1 cells slots Q (F0 m (pc + 3) ls (.int r :: rest))) : W p l e R s m args below meth c H locs cells slots Q (F0 m pc ls (As.reverse ++ .ref (ka_a G k) :: rest)) :=
  va_calli (va_runV C0.fix hM (kr_cbV C0 hlink kd hrm) (kr_pV hK hP hv he hc hC) rfl hn hl.1 rfl (lv_room hW) hdg hf) hS (fun q _ h => hAG q h) (fun q h => hAG q h) (fun r u t H1 locs1 ht hvm hw hB hz hk1 hS1 => kk r u H1 locs1 hw (by rw [← ht]; exact hB.1) ⟨hz, hk1⟩ hS1)
def kd_W (y : MethodName) (bytes : ByteArray) (mL : Nat) (hh : List (Nat × Nat × Nat × Nat)) (n : Nat) : Prop := Cond.static y ∈ kq_W ∧ Cond.initialized y.cls ∈ kq_W ∧ Cond.codeWith y bytes mL (some .long) hh ∈ kq_W ∧ (y.cls ≠ "java/lang/invoke/MethodHandle" ∧ y.cls ≠ "java/lang/invoke/VarHandle" ∧ (parseMethodDescriptor y.desc).map (fun d => d.parameters.length) = some n)
theorem kj_cbS {c1 s1 : Nat} (C0 : ka_C p s m args meth c cc nL own ret) (hlink : Cond.methodLink own idx y ∈ kq_W) (kd : kd_S y bytes mL rt n) (hrm : rm.cells = c1 ∧ rm.slots = s1 ∧ rm.frames + 1 ≤ R.frames ∧ 8 + (mL + 11) + rm.locals ≤ R.locals) : CallB R s args own idx y bytes mL rt (kw_ y bytes mL rt) rm c1 s1 n ∧ (Cond.static y).before args s = true := by
  obtain ⟨-, -, -, -, -, hts, -⟩ := C0
  obtain ⟨hstat, hini, hcode, hd⟩ := kd
  refine ⟨callB_of (Ts := kq_W) n hts ?_ rfl hrm.1 hrm.2.1 (hts _ hini) (hts _ hlink) hd hrm.2.2, hts _ hstat⟩
  intro w hw
  rcases List.mem_cons.mp hw with h | h
  · subst h; exact ⟨hcode, kq_good hcode⟩
  · exact ⟨h, kq_good h⟩
theorem kj_cbW {c1 s1 : Nat} {hh : List (Nat × Nat × Nat × Nat)} (C0 : ka_C p s m args meth c cc nL own ret) (hlink : Cond.methodLink own idx y ∈ kq_W) (kd : kd_W y bytes mL hh n) (hrm : rm.cells = c1 ∧ rm.slots = s1 ∧ rm.frames + 1 ≤ R.frames ∧ 8 + (mL + 11) + rm.locals ≤ R.locals) : vx_CSW R s args own idx y bytes mL (some .long) hh (kw_W y bytes mL hh) rm c1 s1 n := by
  obtain ⟨-, -, -, -, -, hts, -⟩ := C0
  obtain ⟨hst, hini, hcode, hd⟩ := kd
  refine vx_cwSW (Ts := kq_W) n hts ?_ rfl hrm.1 hrm.2.1 hd hrm.2.2
  intro w hw
  simp only [va_wsS, List.mem_append, List.mem_cons, List.mem_nil_iff, or_false] at hw
  rcases hw with (rfl | rfl | rfl) | rfl | h
  · exact ⟨hlink, kq_good hlink⟩
  · exact ⟨hst, kq_good hst⟩
  · exact ⟨hini, kq_good hini⟩
  · exact ⟨hcode, kq_good hcode⟩
  · exact ⟨h, kq_good h⟩
theorem kj_pS (hK : ka_Kn G s) (hT : ka_T9 A s) (hN : kl_Nc s) (hP : ka_P G σ H) (hS : va_S A s.heap H locs) (hAG : ∀ q, ka_A G q → A q) : PreS s H (kl_Pc G As σ) As := ⟨kl_blind, fun U hU hW => ⟨rfl, ⟨⟨by rw [hU]; exact hP, va_K.moved hW.alike hK⟩, (hT.warm hS hU hW).G hAG⟩, fun i hi j hj hij => va_Nc.moved hW.alike (hN i hi j hj hij)⟩⟩
theorem kj_Si {Qp : Int32 → ka_S → Prop} {c1 s1 : Nat} {lv : List (Nat × Value)} (C0 : ka_C p s m args meth c cc nL own ret) (hK : ka_Kn G s) (hT : ka_T9 A s) (hN : kl_Nc s) (hP : ka_P G σ H) (hS : va_S A s.heap H locs) (hAG : ∀ q, ka_A G q → A q) (hl : lv_has ls nL lv) (hM : kd_i l y (kw_ y bytes mL rt) rm c1 s1 G As σ Qp) (kd : kd_S y bytes mL rt n) (hlink : Cond.methodLink own idx y ∈ kq_W) (hrm : rm.cells = c1 ∧ rm.slots = s1 ∧ rm.frames + 1 ≤ R.frames ∧ 8 + (mL + 11) + rm.locals ≤ R.locals) (hn : As.length = n) (hW : (rest.map fun v => v.category).sum ≤ 8) (hdg : decode cc pc = .ok (.invokestatic idx, 3)) (hf : cells + c1 ≤ R.cells ∧ slots + s1 ≤ R.slots)
    (kk : ∀ (r : Int32) (σ1 : ka_S) (H1 : Heap) (locs1 : List Loc), Qp r σ1 → ka_P G σ1 H1 → (H.size ≤ H1.size ∧ ∀ q : Nat, q < H.size → ¬ ka_A G q → H1[q]? = H[q]?) → va_S A s.heap H1 locs1 → W p l e R s m args below meth c H1 locs1 (cells + c1) (slots + s1) Q (F0 m (pc + 3) ls (.int r :: rest))) : W p l e R s m args below meth c H locs cells slots Q (F0 m pc ls (As.reverse ++ rest)) :=
  va_calli (va_runS C0.fix hM (kj_cbS C0 hlink kd hrm) (kj_pS hK hT hN hP hS hAG) rfl hn hl.1 rfl (lv_room hW) hdg hf) hS (fun q _ h => hAG q h) (fun q h => hAG q h) (fun r u t H1 locs1 ht hvm hw hB hz hk1 hS1 => kk r u H1 locs1 hw (by rw [← ht]; exact hB.1) ⟨hz, hk1⟩ hS1)
theorem kj_Sl {Qp : Int64 → ka_S → Prop} {c1 s1 : Nat} {lv : List (Nat × Value)} (C0 : ka_C p s m args meth c cc nL own ret) (hK : ka_Kn G s) (hT : ka_T9 A s) (hN : kl_Nc s) (hP : ka_P G σ H) (hS : va_S A s.heap H locs) (hAG : ∀ q, ka_A G q → A q) (hl : lv_has ls nL lv) (hM : kd_l l y (kw_ y bytes mL rt) rm c1 s1 G As σ Qp) (kd : kd_S y bytes mL rt n) (hlink : Cond.methodLink own idx y ∈ kq_W) (hrm : rm.cells = c1 ∧ rm.slots = s1 ∧ rm.frames + 1 ≤ R.frames ∧ 8 + (mL + 11) + rm.locals ≤ R.locals) (hn : As.length = n) (hW : (rest.map fun v => v.category).sum ≤ 8) (hdg : decode cc pc = .ok (.invokestatic idx, 3)) (hf : cells + c1 ≤ R.cells ∧ slots + s1 ≤ R.slots)
    (kk : ∀ (r : Int64) (σ1 : ka_S) (H1 : Heap) (locs1 : List Loc), Qp r σ1 → ka_P G σ1 H1 → (H.size ≤ H1.size ∧ ∀ q : Nat, q < H.size → ¬ ka_A G q → H1[q]? = H[q]?) → va_S A s.heap H1 locs1 → W p l e R s m args below meth c H1 locs1 (cells + c1) (slots + s1) Q (F0 m (pc + 3) ls (.long r :: rest))) : W p l e R s m args below meth c H locs cells slots Q (F0 m pc ls (As.reverse ++ rest)) :=
  va_calll (va_runS C0.fix hM (kj_cbS C0 hlink kd hrm) (kj_pS hK hT hN hP hS hAG) rfl hn hl.1 rfl (lv_room hW) hdg hf) hS (fun q _ h => hAG q h) (fun q h => hAG q h) (fun r u t H1 locs1 ht hvm hw hB hz hk1 hS1 => kk r u H1 locs1 hw (by rw [← ht]; exact hB.1) ⟨hz, hk1⟩ hS1)
theorem kj_Wl {Qp : Int64 → ka_S → Prop} {c1 s1 : Nat} {lv : List (Nat × Value)} (C0 : ka_C p s m args meth c cc nL own ret) (hK : ka_Kn G s) (hT : ka_T9 A s) (hN : kl_Nc s) (hP : ka_P G σ H) (hS : va_S A s.heap H locs) (hAG : ∀ q, ka_A G q → A q) (hl : lv_has ls nL lv) {hh : List (Nat × Nat × Nat × Nat)} (hM : kd_l l y (kw_W y bytes mL hh) rm c1 s1 G As σ Qp) (kd : kd_W y bytes mL hh n) (hlink : Cond.methodLink own idx y ∈ kq_W) (hrm : rm.cells = c1 ∧ rm.slots = s1 ∧ rm.frames + 1 ≤ R.frames ∧ 8 + (mL + 11) + rm.locals ≤ R.locals) (hn : As.length = n) (hW : (rest.map fun v => v.category).sum ≤ 8) (hdg : decode cc pc = .ok (.invokestatic idx, 3)) (hf : cells + c1 ≤ R.cells ∧ slots + s1 ≤ R.slots)
    (kk : ∀ (r : Int64) (σ1 : ka_S) (H1 : Heap) (locs1 : List Loc), Qp r σ1 → ka_P G σ1 H1 → (H.size ≤ H1.size ∧ ∀ q : Nat, q < H.size → ¬ ka_A G q → H1[q]? = H[q]?) → va_S A s.heap H1 locs1 → W p l e R s m args below meth c H1 locs1 (cells + c1) (slots + s1) Q (F0 m (pc + 3) ls (.long r :: rest))) : W p l e R s m args below meth c H locs cells slots Q (F0 m pc ls (As.reverse ++ rest)) :=
  va_calll (vx_runSW C0.fix hM (kj_cbW C0 hlink kd hrm) (kj_pS hK hT hN hP hS hAG) rfl hn hl.1 rfl (lv_room hW) hdg hf) hS (fun q _ h => hAG q h) (fun q h => hAG q h) (fun r u t H1 locs1 ht hvm hw hB hz hk1 hS1 => kk r u H1 locs1 hw (by rw [← ht]; exact hB.1) ⟨hz, hk1⟩ hS1)
end KL
theorem kl_ini : Cond.initialized "GlossRowsLaw" ∈ kq_W := kq_0
theorem kl_L_append : Cond.codeWith yL_append cL_append 3 (some .long) [(0, 6, 7, 15), (0, 6, 12, 19)] ∈ kq_W := kq_of 842 (by decide +kernel) rfl
theorem kd_L_append : kd_W yL_append cL_append 3 [(0, 6, 7, 15), (0, 6, 12, 19)] 2 := ⟨kq_841, kl_ini, kl_L_append, by decide +kernel⟩
theorem kl_L_load : Cond.codeWith yL_load cL_load 2 (some .long) [(0, 5, 6, 19)] ∈ kq_W := kq_of 264 (by decide +kernel) rfl
theorem kd_L_load : kd_W yL_load cL_load 2 [(0, 5, 6, 19)] 1 := ⟨kq_263, kl_ini, kl_L_load, by decide +kernel⟩
theorem kl_L_about : Cond.codeWith yL_about cL_about 3 (some .long) [(0, 6, 7, 15)] ∈ kq_W := kq_of 480 (by decide +kernel) rfl
theorem kd_L_about : kd_W yL_about cL_about 3 [(0, 6, 7, 15)] 2 := ⟨kq_479, kl_ini, kl_L_about, by decide +kernel⟩
theorem kl_L_word : Cond.codeWith yL_word cL_word 4 (some .long) [(0, 7, 8, 34), (0, 7, 13, 15)] ∈ kq_W := kq_of 565 (by decide +kernel) rfl
theorem kd_L_word : kd_W yL_word cL_word 4 [(0, 7, 8, 34), (0, 7, 13, 15)] 3 := ⟨kq_564, kl_ini, kl_L_word, by decide +kernel⟩
theorem kl_L_part : Cond.codeWith yL_part cL_part 5 (some .long) [(0, 8, 9, 34), (0, 8, 15, 15)] ∈ kq_W := kq_of 611 (by decide +kernel) rfl
theorem kd_L_part : kd_W yL_part cL_part 5 [(0, 8, 9, 34), (0, 8, 15, 15)] 4 := ⟨kq_610, kl_ini, kl_L_part, by decide +kernel⟩
theorem kl_L_letter : Cond.codeWith yL_letter cL_letter 6 (some .long) [(0, 10, 11, 34), (0, 10, 17, 15)] ∈ kq_W := kq_of 584 (by decide +kernel) rfl
theorem kd_L_letter : kd_W yL_letter cL_letter 6 [(0, 10, 11, 34), (0, 10, 17, 15)] 5 := ⟨kq_583, kl_ini, kl_L_letter, by decide +kernel⟩
theorem kl_L_entry : Cond.codeWith yL_entry cL_entry 5 (some .long) [(0, 8, 9, 34), (0, 8, 15, 15)] ∈ kq_W := kq_of 622 (by decide +kernel) rfl
theorem kd_L_entry : kd_W yL_entry cL_entry 5 [(0, 8, 9, 34), (0, 8, 15, 15)] 4 := ⟨kq_621, kl_ini, kl_L_entry, by decide +kernel⟩
theorem kl_L_row : Cond.codeWith yL_row cL_row 4 (some .long) [(0, 7, 8, 34), (0, 7, 13, 15)] ∈ kq_W := kq_of 689 (by decide +kernel) rfl
theorem kd_L_row : kd_W yL_row cL_row 4 [(0, 7, 8, 34), (0, 7, 13, 15)] 3 := ⟨kq_688, kl_ini, kl_L_row, by decide +kernel⟩
theorem kl_L_at : Cond.codeWith yL_at cL_at 4 (some .long) [(0, 7, 8, 34), (0, 7, 13, 15)] ∈ kq_W := kq_of 726 (by decide +kernel) rfl
theorem kd_L_at : kd_W yL_at cL_at 4 [(0, 7, 8, 34), (0, 7, 13, 15)] 3 := ⟨kq_725, kl_ini, kl_L_at, by decide +kernel⟩
theorem kl_L_insert : Cond.codeWith yL_insert cL_insert 3 (some .long) [(0, 6, 7, 34), (0, 6, 12, 19)] ∈ kq_W := kq_of 855 (by decide +kernel) rfl
theorem kd_L_insert : kd_W yL_insert cL_insert 3 [(0, 6, 7, 34), (0, 6, 12, 19)] 2 := ⟨kq_854, kl_ini, kl_L_insert, by decide +kernel⟩
theorem kl_L_remove : Cond.codeWith yL_remove cL_remove 3 (some .long) [(0, 6, 7, 34)] ∈ kq_W := kq_of 869 (by decide +kernel) rfl
theorem kd_L_remove : kd_W yL_remove cL_remove 3 [(0, 6, 7, 34)] 2 := ⟨kq_868, kl_ini, kl_L_remove, by decide +kernel⟩
theorem kl_L_end : Cond.codeWith yL_end cL_end 3 (some .long) [(0, 6, 7, 34)] ∈ kq_W := kq_of 876 (by decide +kernel) rfl
theorem kd_L_end : kd_W yL_end cL_end 3 [(0, 6, 7, 34)] 2 := ⟨kq_875, kl_ini, kl_L_end, by decide +kernel⟩
theorem kl_L_join : Cond.codeWith yL_join cL_join 3 (some .long) [(0, 6, 7, 34)] ∈ kq_W := kq_of 883 (by decide +kernel) rfl
theorem kd_L_join : kd_W yL_join cL_join 3 [(0, 6, 7, 34)] 2 := ⟨kq_882, kl_ini, kl_L_join, by decide +kernel⟩
theorem kl_L_setFree : Cond.codeWith yL_setFree cL_setFree 3 (some .long) [(0, 6, 7, 34), (0, 6, 12, 19)] ∈ kq_W := kq_of 890 (by decide +kernel) rfl
theorem kd_L_setFree : kd_W yL_setFree cL_setFree 3 [(0, 6, 7, 34), (0, 6, 12, 19)] 2 := ⟨kq_889, kl_ini, kl_L_setFree, by decide +kernel⟩
theorem kl_L_setGloss : Cond.codeWith yL_setGloss cL_setGloss 4 (some .long) [(0, 7, 8, 34), (0, 7, 13, 19)] ∈ kq_W := kq_of 907 (by decide +kernel) rfl
theorem kd_L_setGloss : kd_W yL_setGloss cL_setGloss 4 [(0, 7, 8, 34), (0, 7, 13, 19)] 3 := ⟨kq_906, kl_ini, kl_L_setGloss, by decide +kernel⟩
theorem kl_L_set : Cond.codeWith yL_set cL_set 4 (some .long) [(0, 7, 8, 15)] ∈ kq_W := kq_of 925 (by decide +kernel) rfl
theorem kd_L_set : kd_W yL_set cL_set 4 [(0, 7, 8, 15)] 3 := ⟨kq_924, kl_ini, kl_L_set, by decide +kernel⟩
theorem kl_L_learn : Cond.codeWith yL_learn cL_learn 4 (some .long) [(0, 7, 8, 34), (0, 7, 13, 19)] ∈ kq_W := kq_of 933 (by decide +kernel) rfl
theorem kd_L_learn : kd_W yL_learn cL_learn 4 [(0, 7, 8, 34), (0, 7, 13, 19)] 3 := ⟨kq_932, kl_ini, kl_L_learn, by decide +kernel⟩
theorem kl_L_forget : Cond.codeWith yL_forget cL_forget 3 (some .long) [(0, 6, 7, 34)] ∈ kq_W := kq_of 941 (by decide +kernel) rfl
theorem kd_L_forget : kd_W yL_forget cL_forget 3 [(0, 6, 7, 34)] 2 := ⟨kq_940, kl_ini, kl_L_forget, by decide +kernel⟩
theorem kl_L_undo : Cond.codeWith yL_undo cL_undo 2 (some .long) [(0, 5, 6, 19)] ∈ kq_W := kq_of 968 (by decide +kernel) rfl
theorem kd_L_undo : kd_W yL_undo cL_undo 2 [(0, 5, 6, 19)] 1 := ⟨kq_967, kl_ini, kl_L_undo, by decide +kernel⟩
theorem kl_L_gap : Cond.codeWith yL_gap cL_gap 3 (some .long) [(0, 6, 7, 15)] ∈ kq_W := kq_of 638 (by decide +kernel) rfl
theorem kd_L_gap : kd_W yL_gap cL_gap 3 [(0, 6, 7, 15)] 2 := ⟨kq_637, kl_ini, kl_L_gap, by decide +kernel⟩
theorem kl_L_widthFor : Cond.codeWith yL_widthFor cL_widthFor 3 (some .long) [(0, 6, 7, 15)] ∈ kq_W := kq_of 661 (by decide +kernel) rfl
theorem kd_L_widthFor : kd_W yL_widthFor cL_widthFor 3 [(0, 6, 7, 15)] 2 := ⟨kq_660, kl_ini, kl_L_widthFor, by decide +kernel⟩
theorem kl_L_rowsWith : Cond.codeWith yL_rowsWith cL_rowsWith 4 (some .long) [(0, 7, 8, 15)] ∈ kq_W := kq_of 678 (by decide +kernel) rfl
theorem kd_L_rowsWith : kd_W yL_rowsWith cL_rowsWith 4 [(0, 7, 8, 15)] 3 := ⟨kq_677, kl_ini, kl_L_rowsWith, by decide +kernel⟩
theorem kl_L_script : Cond.codeWith yL_script cL_script 5 (some .long) [(0, 7, 8, 15)] ∈ kq_W := kq_of 748 (by decide +kernel) rfl
theorem kd_L_script : kd_W yL_script cL_script 5 [(0, 7, 8, 15)] 3 := ⟨kq_747, kl_ini, kl_L_script, by decide +kernel⟩
theorem kl_L_simulate : Cond.codeWith yL_simulate cL_simulate 5 (some .long) [(0, 7, 8, 15)] ∈ kq_W := kq_of 820 (by decide +kernel) rfl
theorem kd_L_simulate : kd_W yL_simulate cL_simulate 5 [(0, 7, 8, 15)] 3 := ⟨kq_819, kl_ini, kl_L_simulate, by decide +kernel⟩
theorem kl_L_save : Cond.codeWith yL_save cL_save 3 (some .long) [(0, 6, 7, 34)] ∈ kq_W := kq_of 427 (by decide +kernel) rfl
theorem kd_L_save : kd_W yL_save cL_save 3 [(0, 6, 7, 34)] 2 := ⟨kq_426, kl_ini, kl_L_save, by decide +kernel⟩
theorem kl_L_restore : Cond.codeWith yL_restore cL_restore 3 (some .long) [(0, 6, 7, 34), (0, 6, 12, 19)] ∈ kq_W := kq_of 464 (by decide +kernel) rfl
theorem kd_L_restore : kd_W yL_restore cL_restore 3 [(0, 6, 7, 34), (0, 6, 12, 19)] 2 := ⟨kq_463, kl_ini, kl_L_restore, by decide +kernel⟩
theorem kd_L_words : kd_S yL_words cL_words 1 (some .int) 1 := ⟨kq_561, kl_ini, kq_562, by decide +kernel⟩
theorem kd_L_now : kd_S yL_now cL_now 6 (some .long) 1 := ⟨kq_474, kl_ini, kq_475, by decide +kernel⟩
theorem kd_L_alike : kd_S yL_alike cL_alike 7 (some .boolean) 3 := ⟨kq_471, kl_ini, kq_472, by decide +kernel⟩
theorem kd_L_errors : kd_S yL_errors cL_errors 10 (some .boolean) 1 := ⟨kq_838, kl_ini, kq_839, by decide +kernel⟩
theorem kd_L_built : kd_S yL_built cL_built 37 (some .boolean) 1 := ⟨kq_951, kl_ini, kq_952, by decide +kernel⟩
theorem kd_L_follows : kd_S yL_follows cL_follows 27 (some .boolean) 2 := ⟨kq_963, kl_ini, kq_964, by decide +kernel⟩
theorem kd_L_tells : kd_S yL_tells cL_tells 9 (some .boolean) 3 := ⟨kq_983, kl_ini, kq_984, by decide +kernel⟩
theorem kd_L_act : kd_S yL_act cL_act 5 (some .long) 3 := ⟨kq_990, kl_ini, kq_991, by decide +kernel⟩
theorem kd_L_in : kd_S yL_in cL_in 6 (some .boolean) 3 := ⟨kq_955, kl_ini, kq_956, by decide +kernel⟩
theorem kd_L_draw : kd_S yL_draw cL_draw 2 (some .int) 2 := ⟨kq_258, kl_ini, kq_259, by decide +kernel⟩
def kw_L_append (σ : ka_S) (v1 : Int32) (Q : Int64 → ka_S → Prop) : Prop := kw_X8_append σ v1 (fun r σ1 => Q r.toInt64 σ1) (fun j σ1 => match j with | 0 => Q (-9000000000000000002 : Int64) σ1 | 1 => Q (-9000000000000000003 : Int64) σ1 | _ => False)
def rm_L_append : Room := { frames := 7, cells := 1, slots := 6, locals := 103 }
set_option maxHeartbeats 4000000 in
set_option maxRecDepth 100000 in
theorem km_L_append (l : Launch) (hl0 : l.stackTraces = false) {G : ka_G} (hI : ka_I G) {σ : ka_S} {v1 : Int32} {Q : Int64 → ka_S → Prop} (hq : kw_L_append σ v1 Q) : kd_l l yL_append (kw_W yL_append cL_append 3 [(0, 6, 7, 15), (0, 6, 12, 19)]) rm_L_append 1 6 G [.ref (ka_a G (22, 0, 0)), .int v1] σ Q := by
  refine kl_of rfl (by decide) (Nat.le_of_ble_eq_true rfl) ?_
  intro p e s m below meth c C0 hK hT hN htab H locs hP hS ls hl
  obtain ⟨hx, hb, -, hml, hown, hts, -⟩ := id C0
  have hl : lv_has ls 3 [(0, .ref (ka_a G (22, 0, 0))), (1, .int v1)] := hl
  unfold kw_L_append at hq
  refine lv_aload_n hx hb dL_append_0 rfl (lv_at hl 0 rfl) ?_
  refine lv_iload_n hx hb dL_append_1 rfl (lv_at hl 1 rfl) ?_
  refine kl_V (k := (22, 0, 0)) (As := [.int v1]) (rest := []) C0 hK hT hP hS hl (km_X8_append l hl0 hI hq) kd_X8_append kq_843 (kv_s (by decide) (by decide)) rfl rfl rfl ⟨rfl, rfl, Nat.le_of_ble_eq_true rfl, Nat.le_of_ble_eq_true rfl⟩ rfl (Nat.le_of_ble_eq_true rfl) dL_append_2 ⟨Nat.le_of_ble_eq_true rfl, Nat.le_of_ble_eq_true rfl⟩ (fun j ce q9 σ1 H locs hj hP hS hce hcv hcl => ?_) (fun r σ1 H locs hq hP hS => ?_)
  · match j, hj, hcl with
    | 0, hj, hcl =>
      refine vx_catch (own := "GlossRowsLaw") (name := ka_E 0) (E := ka_E 0) hown [] ⟨0, 6, 7, 15⟩ [⟨0, 6, 12, 19⟩] (by rw [htab]; rfl) (fun z hz => absurd hz List.not_mem_nil) (by decide) (by decide) (hts _ kq_481) (va_Nw.use rfl (hT.2.2.1 (Cond.castable (ka_E 0) (ka_E 0)) (List.mem_of_getElem? (i := 5) rfl))) hce hcv hcl ?_
      refine lv_astore_n (lv' := [(2, .ref q9), (0, .ref (ka_a G (22, 0, 0))), (1, .int v1)]) hx hb dL_append_7 rfl hl (by decide) rfl (fun ls hl => ?_)
      refine lv_ldc2 hx hb hown (hts _ kq_558) dL_append_8 ?_
      exact kl_lret C0 hK hP hS hj dL_append_11 ⟨Nat.le_of_ble_eq_true rfl, Nat.le_of_ble_eq_true rfl⟩
    | 1, hj, hcl =>
      refine vx_catch (own := "GlossRowsLaw") (name := ka_E 1) (E := ka_E 1) hown [⟨0, 6, 7, 15⟩] ⟨0, 6, 12, 19⟩ [] (by rw [htab]; rfl) (fun z hz => Or.inr (by obtain rfl := List.mem_singleton.mp hz; exact ⟨by decide, ka_E 0, hts _ kq_481, hN 1 (by decide) 0 (by decide) (by decide)⟩)) (by decide) (by decide) (hts _ kq_265) (va_Nw.use rfl (hT.2.2.1 (Cond.castable (ka_E 1) (ka_E 1)) (List.mem_of_getElem? (i := 0) rfl))) hce hcv hcl ?_
      refine lv_astore_n (lv' := [(2, .ref q9), (0, .ref (ka_a G (22, 0, 0))), (1, .int v1)]) hx hb dL_append_12 rfl hl (by decide) rfl (fun ls hl => ?_)
      refine lv_ldc2 hx hb hown (hts _ kq_424) dL_append_13 ?_
      exact kl_lret C0 hK hP hS hj dL_append_16 ⟨Nat.le_of_ble_eq_true rfl, Nat.le_of_ble_eq_true rfl⟩
    | n + 2, hj, hcl => exact absurd hj (fun h => h)
  · refine lv_i2l hx hb dL_append_5 rfl ?_
    exact kl_lret C0 hK hP hS hq dL_append_6 ⟨Nat.le_of_ble_eq_true rfl, Nat.le_of_ble_eq_true rfl⟩
def kw_L_load (σ : ka_S) (Q : Int64 → ka_S → Prop) : Prop := kw_X8_load σ (fun r σ1 => Q r.toInt64 σ1) (fun j σ1 => match j with | 0 => False | 1 => Q (-9000000000000000003 : Int64) σ1 | _ => False)
def rm_L_load : Room := { frames := 7, cells := 1, slots := 6, locals := 145 }
set_option maxHeartbeats 4000000 in
set_option maxRecDepth 100000 in
theorem km_L_load (l : Launch) (hl0 : l.stackTraces = false) {G : ka_G} (hI : ka_I G) {σ : ka_S} {Q : Int64 → ka_S → Prop} (hq : kw_L_load σ Q) : kd_l l yL_load (kw_W yL_load cL_load 2 [(0, 5, 6, 19)]) rm_L_load 1 6 G [.ref (ka_a G (22, 0, 0))] σ Q := by
  refine kl_of rfl (by decide) (Nat.le_of_ble_eq_true rfl) ?_
  intro p e s m below meth c C0 hK hT hN htab H locs hP hS ls hl
  obtain ⟨hx, hb, -, hml, hown, hts, -⟩ := id C0
  have hl : lv_has ls 2 [(0, .ref (ka_a G (22, 0, 0)))] := hl
  unfold kw_L_load at hq
  refine lv_aload_n hx hb dL_load_0 rfl (lv_at hl 0 rfl) ?_
  refine kl_V (k := (22, 0, 0)) (As := []) (rest := []) C0 hK hT hP hS hl (km_X8_load l hl0 hI hq) kd_X8_load kq_266 (kv_s (by decide) (by decide)) rfl rfl rfl ⟨rfl, rfl, Nat.le_of_ble_eq_true rfl, Nat.le_of_ble_eq_true rfl⟩ rfl (Nat.le_of_ble_eq_true rfl) dL_load_1 ⟨Nat.le_of_ble_eq_true rfl, Nat.le_of_ble_eq_true rfl⟩ (fun j ce q9 σ1 H locs hj hP hS hce hcv hcl => ?_) (fun r σ1 H locs hq hP hS => ?_)
  · match j, hj, hcl with
    | 0, hj, hcl => exact absurd hj (fun h => h)
    | 1, hj, hcl =>
      refine vx_catch (own := "GlossRowsLaw") (name := ka_E 1) (E := ka_E 1) hown [] ⟨0, 5, 6, 19⟩ [] (by rw [htab]; rfl) (fun z hz => absurd hz List.not_mem_nil) (by decide) (by decide) (hts _ kq_265) (va_Nw.use rfl (hT.2.2.1 (Cond.castable (ka_E 1) (ka_E 1)) (List.mem_of_getElem? (i := 0) rfl))) hce hcv hcl ?_
      refine lv_astore_n (lv' := [(1, .ref q9), (0, .ref (ka_a G (22, 0, 0)))]) hx hb dL_load_6 rfl hl (by decide) rfl (fun ls hl => ?_)
      refine lv_ldc2 hx hb hown (hts _ kq_424) dL_load_7 ?_
      exact kl_lret C0 hK hP hS hj dL_load_10 ⟨Nat.le_of_ble_eq_true rfl, Nat.le_of_ble_eq_true rfl⟩
    | n + 2, hj, hcl => exact absurd hj (fun h => h)
  · refine lv_i2l hx hb dL_load_4 rfl ?_
    exact kl_lret C0 hK hP hS hq dL_load_5 ⟨Nat.le_of_ble_eq_true rfl, Nat.le_of_ble_eq_true rfl⟩
def kw_L_about (σ : ka_S) (v1 : Int32) (Q : Int64 → ka_S → Prop) : Prop := kw_X8_about σ v1 (fun r σ1 => Q r.toInt64 σ1) (fun j σ1 => match j with | 0 => Q (-9000000000000000002 : Int64) σ1 | 1 => False | _ => False)
def rm_L_about : Room := { frames := 7, cells := 1, slots := 6, locals := 157 }
set_option maxHeartbeats 4000000 in
set_option maxRecDepth 100000 in
theorem km_L_about (l : Launch) (hl0 : l.stackTraces = false) {G : ka_G} (hI : ka_I G) {σ : ka_S} {v1 : Int32} {Q : Int64 → ka_S → Prop} (hq : kw_L_about σ v1 Q) : kd_l l yL_about (kw_W yL_about cL_about 3 [(0, 6, 7, 15)]) rm_L_about 1 6 G [.ref (ka_a G (22, 0, 0)), .int v1] σ Q := by
  refine kl_of rfl (by decide) (Nat.le_of_ble_eq_true rfl) ?_
  intro p e s m below meth c C0 hK hT hN htab H locs hP hS ls hl
  obtain ⟨hx, hb, -, hml, hown, hts, -⟩ := id C0
  have hl : lv_has ls 3 [(0, .ref (ka_a G (22, 0, 0))), (1, .int v1)] := hl
  unfold kw_L_about at hq
  refine lv_aload_n hx hb dL_about_0 rfl (lv_at hl 0 rfl) ?_
  refine lv_iload_n hx hb dL_about_1 rfl (lv_at hl 1 rfl) ?_
  refine kl_V (k := (22, 0, 0)) (As := [.int v1]) (rest := []) C0 hK hT hP hS hl (km_X8_about l hl0 hI hq) kd_X8_about kq_482 (kv_s (by decide) (by decide)) rfl rfl rfl ⟨rfl, rfl, Nat.le_of_ble_eq_true rfl, Nat.le_of_ble_eq_true rfl⟩ rfl (Nat.le_of_ble_eq_true rfl) dL_about_2 ⟨Nat.le_of_ble_eq_true rfl, Nat.le_of_ble_eq_true rfl⟩ (fun j ce q9 σ1 H locs hj hP hS hce hcv hcl => ?_) (fun r σ1 H locs hq hP hS => ?_)
  · match j, hj, hcl with
    | 0, hj, hcl =>
      refine vx_catch (own := "GlossRowsLaw") (name := ka_E 0) (E := ka_E 0) hown [] ⟨0, 6, 7, 15⟩ [] (by rw [htab]; rfl) (fun z hz => absurd hz List.not_mem_nil) (by decide) (by decide) (hts _ kq_481) (va_Nw.use rfl (hT.2.2.1 (Cond.castable (ka_E 0) (ka_E 0)) (List.mem_of_getElem? (i := 5) rfl))) hce hcv hcl ?_
      refine lv_astore_n (lv' := [(2, .ref q9), (0, .ref (ka_a G (22, 0, 0))), (1, .int v1)]) hx hb dL_about_7 rfl hl (by decide) rfl (fun ls hl => ?_)
      refine lv_ldc2 hx hb hown (hts _ kq_558) dL_about_8 ?_
      exact kl_lret C0 hK hP hS hj dL_about_11 ⟨Nat.le_of_ble_eq_true rfl, Nat.le_of_ble_eq_true rfl⟩
    | 1, hj, hcl => exact absurd hj (fun h => h)
    | n + 2, hj, hcl => exact absurd hj (fun h => h)
  · refine lv_i2l hx hb dL_about_5 rfl ?_
    exact kl_lret C0 hK hP hS hq dL_about_6 ⟨Nat.le_of_ble_eq_true rfl, Nat.le_of_ble_eq_true rfl⟩
def kw_L_word (σ : ka_S) (v1 : Int32) (v2 : Int32) (Q : Int64 → ka_S → Prop) : Prop := kw_X8_word σ v1 v2 (fun r σ1 => Q r.toInt64 σ1) (fun j σ1 => match j with | 0 => Q (-9000000000000000002 : Int64) σ1 | 1 => False | _ => Q (-9000000000000000001 : Int64) σ1)
def rm_L_word : Room := { frames := 8, cells := 2, slots := 12, locals := 158 }
set_option maxHeartbeats 4000000 in
set_option maxRecDepth 100000 in
theorem km_L_word (l : Launch) (hl0 : l.stackTraces = false) {G : ka_G} (hI : ka_I G) {σ : ka_S} {v1 : Int32} {v2 : Int32} {Q : Int64 → ka_S → Prop} (hq : kw_L_word σ v1 v2 Q) : kd_l l yL_word (kw_W yL_word cL_word 4 [(0, 7, 8, 34), (0, 7, 13, 15)]) rm_L_word 2 12 G [.ref (ka_a G (22, 0, 0)), .int v1, .int v2] σ Q := by
  refine kl_of rfl (by decide) (Nat.le_of_ble_eq_true rfl) ?_
  intro p e s m below meth c C0 hK hT hN htab H locs hP hS ls hl
  obtain ⟨hx, hb, -, hml, hown, hts, -⟩ := id C0
  have hl : lv_has ls 4 [(0, .ref (ka_a G (22, 0, 0))), (1, .int v1), (2, .int v2)] := hl
  unfold kw_L_word at hq
  refine lv_aload_n hx hb dL_word_0 rfl (lv_at hl 0 rfl) ?_
  refine lv_iload_n hx hb dL_word_1 rfl (lv_at hl 1 rfl) ?_
  refine lv_iload_n hx hb dL_word_2 rfl (lv_at hl 2 rfl) ?_
  refine kl_V (k := (22, 0, 0)) (As := [.int v1, .int v2]) (rest := []) C0 hK hT hP hS hl (km_X8_word l hl0 hI hq) kd_X8_word kq_566 (kv_s (by decide) (by decide)) rfl rfl rfl ⟨rfl, rfl, Nat.le_of_ble_eq_true rfl, Nat.le_of_ble_eq_true rfl⟩ rfl (Nat.le_of_ble_eq_true rfl) dL_word_3 ⟨Nat.le_of_ble_eq_true rfl, Nat.le_of_ble_eq_true rfl⟩ (fun j ce q9 σ1 H locs hj hP hS hce hcv hcl => ?_) (fun r σ1 H locs hq hP hS => ?_)
  · match j, hj, hcl with
    | 0, hj, hcl =>
      refine vx_catch (own := "GlossRowsLaw") (name := ka_E 0) (E := ka_E 0) hown [⟨0, 7, 8, 34⟩] ⟨0, 7, 13, 15⟩ [] (by rw [htab]; rfl) (fun z hz => Or.inr (by obtain rfl := List.mem_singleton.mp hz; exact ⟨by decide, ka_E 2, hts _ kq_428, hN 0 (by decide) 2 (by decide) (by decide)⟩)) (by decide) (by decide) (hts _ kq_481) (va_Nw.use rfl (hT.2.2.1 (Cond.castable (ka_E 0) (ka_E 0)) (List.mem_of_getElem? (i := 5) rfl))) hce hcv hcl ?_
      refine lv_astore_n (lv' := [(3, .ref q9), (0, .ref (ka_a G (22, 0, 0))), (1, .int v1), (2, .int v2)]) hx hb dL_word_13 rfl hl (by decide) rfl (fun ls hl => ?_)
      refine lv_ldc2 hx hb hown (hts _ kq_558) dL_word_14 ?_
      exact kl_lret C0 hK hP hS hj dL_word_17 ⟨Nat.le_of_ble_eq_true rfl, Nat.le_of_ble_eq_true rfl⟩
    | 1, hj, hcl => exact absurd hj (fun h => h)
    | n + 2, hj, hcl =>
      refine vx_catch (own := "GlossRowsLaw") (name := ka_E 2) (E := ka_E 2) hown [] ⟨0, 7, 8, 34⟩ [⟨0, 7, 13, 15⟩] (by rw [htab]; rfl) (fun z hz => absurd hz List.not_mem_nil) (by decide) (by decide) (hts _ kq_428) (va_Nw.use rfl (hT.2.2.1 (Cond.castable (ka_E 2) (ka_E 2)) (List.mem_of_getElem? (i := 4) rfl))) hce hcv hcl ?_
      refine lv_astore_n (lv' := [(3, .ref q9), (0, .ref (ka_a G (22, 0, 0))), (1, .int v1), (2, .int v2)]) hx hb dL_word_8 rfl hl (by decide) rfl (fun ls hl => ?_)
      refine lv_ldc2 hx hb hown (hts _ kq_461) dL_word_9 ?_
      exact kl_lret C0 hK hP hS hj dL_word_12 ⟨Nat.le_of_ble_eq_true rfl, Nat.le_of_ble_eq_true rfl⟩
  · refine lv_i2l hx hb dL_word_6 rfl ?_
    exact kl_lret C0 hK hP hS hq dL_word_7 ⟨Nat.le_of_ble_eq_true rfl, Nat.le_of_ble_eq_true rfl⟩
def kw_L_part (σ : ka_S) (v1 : Int32) (v2 : Int32) (v3 : Int32) (Q : Int64 → ka_S → Prop) : Prop := kw_X8_part σ v1 v2 v3 (fun r σ1 => Q r.toInt64 σ1) (fun j σ1 => match j with | 0 => Q (-9000000000000000002 : Int64) σ1 | 1 => False | _ => Q (-9000000000000000001 : Int64) σ1)
def rm_L_part : Room := { frames := 8, cells := 2, slots := 12, locals := 127 }
set_option maxHeartbeats 4000000 in
set_option maxRecDepth 100000 in
theorem km_L_part (l : Launch) (hl0 : l.stackTraces = false) {G : ka_G} (hI : ka_I G) {σ : ka_S} {v1 : Int32} {v2 : Int32} {v3 : Int32} {Q : Int64 → ka_S → Prop} (hq : kw_L_part σ v1 v2 v3 Q) : kd_l l yL_part (kw_W yL_part cL_part 5 [(0, 8, 9, 34), (0, 8, 15, 15)]) rm_L_part 2 12 G [.ref (ka_a G (22, 0, 0)), .int v1, .int v2, .int v3] σ Q := by
  refine kl_of rfl (by decide) (Nat.le_of_ble_eq_true rfl) ?_
  intro p e s m below meth c C0 hK hT hN htab H locs hP hS ls hl
  obtain ⟨hx, hb, -, hml, hown, hts, -⟩ := id C0
  have hl : lv_has ls 5 [(0, .ref (ka_a G (22, 0, 0))), (1, .int v1), (2, .int v2), (3, .int v3)] := hl
  unfold kw_L_part at hq
  refine lv_aload_n hx hb dL_part_0 rfl (lv_at hl 0 rfl) ?_
  refine lv_iload_n hx hb dL_part_1 rfl (lv_at hl 1 rfl) ?_
  refine lv_iload_n hx hb dL_part_2 rfl (lv_at hl 2 rfl) ?_
  refine lv_iload_n hx hb dL_part_3 rfl (lv_at hl 3 rfl) ?_
  refine kl_V (k := (22, 0, 0)) (As := [.int v1, .int v2, .int v3]) (rest := []) C0 hK hT hP hS hl (km_X8_part l hl0 hI hq) kd_X8_part kq_612 (kv_s (by decide) (by decide)) rfl rfl rfl ⟨rfl, rfl, Nat.le_of_ble_eq_true rfl, Nat.le_of_ble_eq_true rfl⟩ rfl (Nat.le_of_ble_eq_true rfl) dL_part_4 ⟨Nat.le_of_ble_eq_true rfl, Nat.le_of_ble_eq_true rfl⟩ (fun j ce q9 σ1 H locs hj hP hS hce hcv hcl => ?_) (fun r σ1 H locs hq hP hS => ?_)
  · match j, hj, hcl with
    | 0, hj, hcl =>
      refine vx_catch (own := "GlossRowsLaw") (name := ka_E 0) (E := ka_E 0) hown [⟨0, 8, 9, 34⟩] ⟨0, 8, 15, 15⟩ [] (by rw [htab]; rfl) (fun z hz => Or.inr (by obtain rfl := List.mem_singleton.mp hz; exact ⟨by decide, ka_E 2, hts _ kq_428, hN 0 (by decide) 2 (by decide) (by decide)⟩)) (by decide) (by decide) (hts _ kq_481) (va_Nw.use rfl (hT.2.2.1 (Cond.castable (ka_E 0) (ka_E 0)) (List.mem_of_getElem? (i := 5) rfl))) hce hcv hcl ?_
      refine lv_astore (lv' := [(4, .ref q9), (0, .ref (ka_a G (22, 0, 0))), (1, .int v1), (2, .int v2), (3, .int v3)]) hx hb dL_part_15 hl (by decide) rfl (fun ls hl => ?_)
      refine lv_ldc2 hx hb hown (hts _ kq_558) dL_part_17 ?_
      exact kl_lret C0 hK hP hS hj dL_part_20 ⟨Nat.le_of_ble_eq_true rfl, Nat.le_of_ble_eq_true rfl⟩
    | 1, hj, hcl => exact absurd hj (fun h => h)
    | n + 2, hj, hcl =>
      refine vx_catch (own := "GlossRowsLaw") (name := ka_E 2) (E := ka_E 2) hown [] ⟨0, 8, 9, 34⟩ [⟨0, 8, 15, 15⟩] (by rw [htab]; rfl) (fun z hz => absurd hz List.not_mem_nil) (by decide) (by decide) (hts _ kq_428) (va_Nw.use rfl (hT.2.2.1 (Cond.castable (ka_E 2) (ka_E 2)) (List.mem_of_getElem? (i := 4) rfl))) hce hcv hcl ?_
      refine lv_astore (lv' := [(4, .ref q9), (0, .ref (ka_a G (22, 0, 0))), (1, .int v1), (2, .int v2), (3, .int v3)]) hx hb dL_part_9 hl (by decide) rfl (fun ls hl => ?_)
      refine lv_ldc2 hx hb hown (hts _ kq_461) dL_part_11 ?_
      exact kl_lret C0 hK hP hS hj dL_part_14 ⟨Nat.le_of_ble_eq_true rfl, Nat.le_of_ble_eq_true rfl⟩
  · refine lv_i2l hx hb dL_part_7 rfl ?_
    exact kl_lret C0 hK hP hS hq dL_part_8 ⟨Nat.le_of_ble_eq_true rfl, Nat.le_of_ble_eq_true rfl⟩
def kw_L_letter (σ : ka_S) (v1 : Int32) (v2 : Int32) (v3 : Int32) (v4 : Int32) (Q : Int64 → ka_S → Prop) : Prop := kw_X8_letter σ v1 v2 v3 v4 (fun r σ1 => Q r.toInt64 σ1) (fun j σ1 => match j with | 0 => Q (-9000000000000000002 : Int64) σ1 | 1 => False | _ => Q (-9000000000000000001 : Int64) σ1)
def rm_L_letter : Room := { frames := 8, cells := 2, slots := 12, locals := 128 }
set_option maxHeartbeats 4000000 in
set_option maxRecDepth 100000 in
theorem km_L_letter (l : Launch) (hl0 : l.stackTraces = false) {G : ka_G} (hI : ka_I G) {σ : ka_S} {v1 : Int32} {v2 : Int32} {v3 : Int32} {v4 : Int32} {Q : Int64 → ka_S → Prop} (hq : kw_L_letter σ v1 v2 v3 v4 Q) : kd_l l yL_letter (kw_W yL_letter cL_letter 6 [(0, 10, 11, 34), (0, 10, 17, 15)]) rm_L_letter 2 12 G [.ref (ka_a G (22, 0, 0)), .int v1, .int v2, .int v3, .int v4] σ Q := by
  refine kl_of rfl (by decide) (Nat.le_of_ble_eq_true rfl) ?_
  intro p e s m below meth c C0 hK hT hN htab H locs hP hS ls hl
  obtain ⟨hx, hb, -, hml, hown, hts, -⟩ := id C0
  have hl : lv_has ls 6 [(0, .ref (ka_a G (22, 0, 0))), (1, .int v1), (2, .int v2), (3, .int v3), (4, .int v4)] := hl
  unfold kw_L_letter at hq
  refine lv_aload_n hx hb dL_letter_0 rfl (lv_at hl 0 rfl) ?_
  refine lv_iload_n hx hb dL_letter_1 rfl (lv_at hl 1 rfl) ?_
  refine lv_iload_n hx hb dL_letter_2 rfl (lv_at hl 2 rfl) ?_
  refine lv_iload_n hx hb dL_letter_3 rfl (lv_at hl 3 rfl) ?_
  refine lv_iload hx hb dL_letter_4 (lv_at hl 4 rfl) ?_
  refine kl_V (k := (22, 0, 0)) (As := [.int v1, .int v2, .int v3, .int v4]) (rest := []) C0 hK hT hP hS hl (km_X8_letter l hl0 hI hq) kd_X8_letter kq_585 (kv_s (by decide) (by decide)) rfl rfl rfl ⟨rfl, rfl, Nat.le_of_ble_eq_true rfl, Nat.le_of_ble_eq_true rfl⟩ rfl (Nat.le_of_ble_eq_true rfl) dL_letter_6 ⟨Nat.le_of_ble_eq_true rfl, Nat.le_of_ble_eq_true rfl⟩ (fun j ce q9 σ1 H locs hj hP hS hce hcv hcl => ?_) (fun r σ1 H locs hq hP hS => ?_)
  · match j, hj, hcl with
    | 0, hj, hcl =>
      refine vx_catch (own := "GlossRowsLaw") (name := ka_E 0) (E := ka_E 0) hown [⟨0, 10, 11, 34⟩] ⟨0, 10, 17, 15⟩ [] (by rw [htab]; rfl) (fun z hz => Or.inr (by obtain rfl := List.mem_singleton.mp hz; exact ⟨by decide, ka_E 2, hts _ kq_428, hN 0 (by decide) 2 (by decide) (by decide)⟩)) (by decide) (by decide) (hts _ kq_481) (va_Nw.use rfl (hT.2.2.1 (Cond.castable (ka_E 0) (ka_E 0)) (List.mem_of_getElem? (i := 5) rfl))) hce hcv hcl ?_
      refine lv_astore (lv' := [(5, .ref q9), (0, .ref (ka_a G (22, 0, 0))), (1, .int v1), (2, .int v2), (3, .int v3), (4, .int v4)]) hx hb dL_letter_17 hl (by decide) rfl (fun ls hl => ?_)
      refine lv_ldc2 hx hb hown (hts _ kq_558) dL_letter_19 ?_
      exact kl_lret C0 hK hP hS hj dL_letter_22 ⟨Nat.le_of_ble_eq_true rfl, Nat.le_of_ble_eq_true rfl⟩
    | 1, hj, hcl => exact absurd hj (fun h => h)
    | n + 2, hj, hcl =>
      refine vx_catch (own := "GlossRowsLaw") (name := ka_E 2) (E := ka_E 2) hown [] ⟨0, 10, 11, 34⟩ [⟨0, 10, 17, 15⟩] (by rw [htab]; rfl) (fun z hz => absurd hz List.not_mem_nil) (by decide) (by decide) (hts _ kq_428) (va_Nw.use rfl (hT.2.2.1 (Cond.castable (ka_E 2) (ka_E 2)) (List.mem_of_getElem? (i := 4) rfl))) hce hcv hcl ?_
      refine lv_astore (lv' := [(5, .ref q9), (0, .ref (ka_a G (22, 0, 0))), (1, .int v1), (2, .int v2), (3, .int v3), (4, .int v4)]) hx hb dL_letter_11 hl (by decide) rfl (fun ls hl => ?_)
      refine lv_ldc2 hx hb hown (hts _ kq_461) dL_letter_13 ?_
      exact kl_lret C0 hK hP hS hj dL_letter_16 ⟨Nat.le_of_ble_eq_true rfl, Nat.le_of_ble_eq_true rfl⟩
  · refine lv_i2l hx hb dL_letter_9 rfl ?_
    exact kl_lret C0 hK hP hS hq dL_letter_10 ⟨Nat.le_of_ble_eq_true rfl, Nat.le_of_ble_eq_true rfl⟩
def kw_L_entry (σ : ka_S) (v1 : Int32) (v2 : Int32) (v3 : Int32) (Q : Int64 → ka_S → Prop) : Prop := kw_X8_entry σ v1 v2 v3 (fun r σ1 => Q r.toInt64 σ1) (fun j σ1 => match j with | 0 => Q (-9000000000000000002 : Int64) σ1 | 1 => False | _ => Q (-9000000000000000001 : Int64) σ1)
def rm_L_entry : Room := { frames := 8, cells := 2, slots := 12, locals := 126 }
set_option maxHeartbeats 4000000 in
set_option maxRecDepth 100000 in
theorem km_L_entry (l : Launch) (hl0 : l.stackTraces = false) {G : ka_G} (hI : ka_I G) {σ : ka_S} {v1 : Int32} {v2 : Int32} {v3 : Int32} {Q : Int64 → ka_S → Prop} (hq : kw_L_entry σ v1 v2 v3 Q) : kd_l l yL_entry (kw_W yL_entry cL_entry 5 [(0, 8, 9, 34), (0, 8, 15, 15)]) rm_L_entry 2 12 G [.ref (ka_a G (22, 0, 0)), .int v1, .int v2, .int v3] σ Q := by
  refine kl_of rfl (by decide) (Nat.le_of_ble_eq_true rfl) ?_
  intro p e s m below meth c C0 hK hT hN htab H locs hP hS ls hl
  obtain ⟨hx, hb, -, hml, hown, hts, -⟩ := id C0
  have hl : lv_has ls 5 [(0, .ref (ka_a G (22, 0, 0))), (1, .int v1), (2, .int v2), (3, .int v3)] := hl
  unfold kw_L_entry at hq
  refine lv_aload_n hx hb dL_entry_0 rfl (lv_at hl 0 rfl) ?_
  refine lv_iload_n hx hb dL_entry_1 rfl (lv_at hl 1 rfl) ?_
  refine lv_iload_n hx hb dL_entry_2 rfl (lv_at hl 2 rfl) ?_
  refine lv_iload_n hx hb dL_entry_3 rfl (lv_at hl 3 rfl) ?_
  refine kl_V (k := (22, 0, 0)) (As := [.int v1, .int v2, .int v3]) (rest := []) C0 hK hT hP hS hl (km_X8_entry l hl0 hI hq) kd_X8_entry kq_623 (kv_s (by decide) (by decide)) rfl rfl rfl ⟨rfl, rfl, Nat.le_of_ble_eq_true rfl, Nat.le_of_ble_eq_true rfl⟩ rfl (Nat.le_of_ble_eq_true rfl) dL_entry_4 ⟨Nat.le_of_ble_eq_true rfl, Nat.le_of_ble_eq_true rfl⟩ (fun j ce q9 σ1 H locs hj hP hS hce hcv hcl => ?_) (fun r σ1 H locs hq hP hS => ?_)
  · match j, hj, hcl with
    | 0, hj, hcl =>
      refine vx_catch (own := "GlossRowsLaw") (name := ka_E 0) (E := ka_E 0) hown [⟨0, 8, 9, 34⟩] ⟨0, 8, 15, 15⟩ [] (by rw [htab]; rfl) (fun z hz => Or.inr (by obtain rfl := List.mem_singleton.mp hz; exact ⟨by decide, ka_E 2, hts _ kq_428, hN 0 (by decide) 2 (by decide) (by decide)⟩)) (by decide) (by decide) (hts _ kq_481) (va_Nw.use rfl (hT.2.2.1 (Cond.castable (ka_E 0) (ka_E 0)) (List.mem_of_getElem? (i := 5) rfl))) hce hcv hcl ?_
      refine lv_astore (lv' := [(4, .ref q9), (0, .ref (ka_a G (22, 0, 0))), (1, .int v1), (2, .int v2), (3, .int v3)]) hx hb dL_entry_15 hl (by decide) rfl (fun ls hl => ?_)
      refine lv_ldc2 hx hb hown (hts _ kq_558) dL_entry_17 ?_
      exact kl_lret C0 hK hP hS hj dL_entry_20 ⟨Nat.le_of_ble_eq_true rfl, Nat.le_of_ble_eq_true rfl⟩
    | 1, hj, hcl => exact absurd hj (fun h => h)
    | n + 2, hj, hcl =>
      refine vx_catch (own := "GlossRowsLaw") (name := ka_E 2) (E := ka_E 2) hown [] ⟨0, 8, 9, 34⟩ [⟨0, 8, 15, 15⟩] (by rw [htab]; rfl) (fun z hz => absurd hz List.not_mem_nil) (by decide) (by decide) (hts _ kq_428) (va_Nw.use rfl (hT.2.2.1 (Cond.castable (ka_E 2) (ka_E 2)) (List.mem_of_getElem? (i := 4) rfl))) hce hcv hcl ?_
      refine lv_astore (lv' := [(4, .ref q9), (0, .ref (ka_a G (22, 0, 0))), (1, .int v1), (2, .int v2), (3, .int v3)]) hx hb dL_entry_9 hl (by decide) rfl (fun ls hl => ?_)
      refine lv_ldc2 hx hb hown (hts _ kq_461) dL_entry_11 ?_
      exact kl_lret C0 hK hP hS hj dL_entry_14 ⟨Nat.le_of_ble_eq_true rfl, Nat.le_of_ble_eq_true rfl⟩
  · refine lv_i2l hx hb dL_entry_7 rfl ?_
    exact kl_lret C0 hK hP hS hq dL_entry_8 ⟨Nat.le_of_ble_eq_true rfl, Nat.le_of_ble_eq_true rfl⟩
def kw_L_row (σ : ka_S) (v1 : Int32) (v2 : Int32) (Q : Int64 → ka_S → Prop) : Prop := kw_X8_row σ v1 v2 (fun r σ1 => Q r.toInt64 σ1) (fun j σ1 => match j with | 0 => Q (-9000000000000000002 : Int64) σ1 | 1 => False | _ => Q (-9000000000000000001 : Int64) σ1)
def rm_L_row : Room := { frames := 8, cells := 2, slots := 12, locals := 179 }
set_option maxHeartbeats 4000000 in
set_option maxRecDepth 100000 in
theorem km_L_row (l : Launch) (hl0 : l.stackTraces = false) {G : ka_G} (hI : ka_I G) {σ : ka_S} {v1 : Int32} {v2 : Int32} {Q : Int64 → ka_S → Prop} (hq : kw_L_row σ v1 v2 Q) : kd_l l yL_row (kw_W yL_row cL_row 4 [(0, 7, 8, 34), (0, 7, 13, 15)]) rm_L_row 2 12 G [.ref (ka_a G (22, 0, 0)), .int v1, .int v2] σ Q := by
  refine kl_of rfl (by decide) (Nat.le_of_ble_eq_true rfl) ?_
  intro p e s m below meth c C0 hK hT hN htab H locs hP hS ls hl
  obtain ⟨hx, hb, -, hml, hown, hts, -⟩ := id C0
  have hl : lv_has ls 4 [(0, .ref (ka_a G (22, 0, 0))), (1, .int v1), (2, .int v2)] := hl
  unfold kw_L_row at hq
  refine lv_aload_n hx hb dL_row_0 rfl (lv_at hl 0 rfl) ?_
  refine lv_iload_n hx hb dL_row_1 rfl (lv_at hl 1 rfl) ?_
  refine lv_iload_n hx hb dL_row_2 rfl (lv_at hl 2 rfl) ?_
  refine kl_V (k := (22, 0, 0)) (As := [.int v1, .int v2]) (rest := []) C0 hK hT hP hS hl (km_X8_row l hl0 hI hq) kd_X8_row kq_690 (kv_s (by decide) (by decide)) rfl rfl rfl ⟨rfl, rfl, Nat.le_of_ble_eq_true rfl, Nat.le_of_ble_eq_true rfl⟩ rfl (Nat.le_of_ble_eq_true rfl) dL_row_3 ⟨Nat.le_of_ble_eq_true rfl, Nat.le_of_ble_eq_true rfl⟩ (fun j ce q9 σ1 H locs hj hP hS hce hcv hcl => ?_) (fun r σ1 H locs hq hP hS => ?_)
  · match j, hj, hcl with
    | 0, hj, hcl =>
      refine vx_catch (own := "GlossRowsLaw") (name := ka_E 0) (E := ka_E 0) hown [⟨0, 7, 8, 34⟩] ⟨0, 7, 13, 15⟩ [] (by rw [htab]; rfl) (fun z hz => Or.inr (by obtain rfl := List.mem_singleton.mp hz; exact ⟨by decide, ka_E 2, hts _ kq_428, hN 0 (by decide) 2 (by decide) (by decide)⟩)) (by decide) (by decide) (hts _ kq_481) (va_Nw.use rfl (hT.2.2.1 (Cond.castable (ka_E 0) (ka_E 0)) (List.mem_of_getElem? (i := 5) rfl))) hce hcv hcl ?_
      refine lv_astore_n (lv' := [(3, .ref q9), (0, .ref (ka_a G (22, 0, 0))), (1, .int v1), (2, .int v2)]) hx hb dL_row_13 rfl hl (by decide) rfl (fun ls hl => ?_)
      refine lv_ldc2 hx hb hown (hts _ kq_558) dL_row_14 ?_
      exact kl_lret C0 hK hP hS hj dL_row_17 ⟨Nat.le_of_ble_eq_true rfl, Nat.le_of_ble_eq_true rfl⟩
    | 1, hj, hcl => exact absurd hj (fun h => h)
    | n + 2, hj, hcl =>
      refine vx_catch (own := "GlossRowsLaw") (name := ka_E 2) (E := ka_E 2) hown [] ⟨0, 7, 8, 34⟩ [⟨0, 7, 13, 15⟩] (by rw [htab]; rfl) (fun z hz => absurd hz List.not_mem_nil) (by decide) (by decide) (hts _ kq_428) (va_Nw.use rfl (hT.2.2.1 (Cond.castable (ka_E 2) (ka_E 2)) (List.mem_of_getElem? (i := 4) rfl))) hce hcv hcl ?_
      refine lv_astore_n (lv' := [(3, .ref q9), (0, .ref (ka_a G (22, 0, 0))), (1, .int v1), (2, .int v2)]) hx hb dL_row_8 rfl hl (by decide) rfl (fun ls hl => ?_)
      refine lv_ldc2 hx hb hown (hts _ kq_461) dL_row_9 ?_
      exact kl_lret C0 hK hP hS hj dL_row_12 ⟨Nat.le_of_ble_eq_true rfl, Nat.le_of_ble_eq_true rfl⟩
  · refine lv_i2l hx hb dL_row_6 rfl ?_
    exact kl_lret C0 hK hP hS hq dL_row_7 ⟨Nat.le_of_ble_eq_true rfl, Nat.le_of_ble_eq_true rfl⟩
def kw_L_at (σ : ka_S) (v1 : Int32) (v2 : Int32) (Q : Int64 → ka_S → Prop) : Prop := kw_X8_at σ v1 v2 (fun r σ1 => Q r.toInt64 σ1) (fun j σ1 => match j with | 0 => Q (-9000000000000000002 : Int64) σ1 | 1 => False | _ => Q (-9000000000000000001 : Int64) σ1)
def rm_L_at : Room := { frames := 8, cells := 2, slots := 12, locals := 179 }
set_option maxHeartbeats 4000000 in
set_option maxRecDepth 100000 in
theorem km_L_at (l : Launch) (hl0 : l.stackTraces = false) {G : ka_G} (hI : ka_I G) {σ : ka_S} {v1 : Int32} {v2 : Int32} {Q : Int64 → ka_S → Prop} (hq : kw_L_at σ v1 v2 Q) : kd_l l yL_at (kw_W yL_at cL_at 4 [(0, 7, 8, 34), (0, 7, 13, 15)]) rm_L_at 2 12 G [.ref (ka_a G (22, 0, 0)), .int v1, .int v2] σ Q := by
  refine kl_of rfl (by decide) (Nat.le_of_ble_eq_true rfl) ?_
  intro p e s m below meth c C0 hK hT hN htab H locs hP hS ls hl
  obtain ⟨hx, hb, -, hml, hown, hts, -⟩ := id C0
  have hl : lv_has ls 4 [(0, .ref (ka_a G (22, 0, 0))), (1, .int v1), (2, .int v2)] := hl
  unfold kw_L_at at hq
  refine lv_aload_n hx hb dL_at_0 rfl (lv_at hl 0 rfl) ?_
  refine lv_iload_n hx hb dL_at_1 rfl (lv_at hl 1 rfl) ?_
  refine lv_iload_n hx hb dL_at_2 rfl (lv_at hl 2 rfl) ?_
  refine kl_V (k := (22, 0, 0)) (As := [.int v1, .int v2]) (rest := []) C0 hK hT hP hS hl (km_X8_at l hl0 hI hq) kd_X8_at kq_727 (kv_s (by decide) (by decide)) rfl rfl rfl ⟨rfl, rfl, Nat.le_of_ble_eq_true rfl, Nat.le_of_ble_eq_true rfl⟩ rfl (Nat.le_of_ble_eq_true rfl) dL_at_3 ⟨Nat.le_of_ble_eq_true rfl, Nat.le_of_ble_eq_true rfl⟩ (fun j ce q9 σ1 H locs hj hP hS hce hcv hcl => ?_) (fun r σ1 H locs hq hP hS => ?_)
  · match j, hj, hcl with
    | 0, hj, hcl =>
      refine vx_catch (own := "GlossRowsLaw") (name := ka_E 0) (E := ka_E 0) hown [⟨0, 7, 8, 34⟩] ⟨0, 7, 13, 15⟩ [] (by rw [htab]; rfl) (fun z hz => Or.inr (by obtain rfl := List.mem_singleton.mp hz; exact ⟨by decide, ka_E 2, hts _ kq_428, hN 0 (by decide) 2 (by decide) (by decide)⟩)) (by decide) (by decide) (hts _ kq_481) (va_Nw.use rfl (hT.2.2.1 (Cond.castable (ka_E 0) (ka_E 0)) (List.mem_of_getElem? (i := 5) rfl))) hce hcv hcl ?_
      refine lv_astore_n (lv' := [(3, .ref q9), (0, .ref (ka_a G (22, 0, 0))), (1, .int v1), (2, .int v2)]) hx hb dL_at_13 rfl hl (by decide) rfl (fun ls hl => ?_)
      refine lv_ldc2 hx hb hown (hts _ kq_558) dL_at_14 ?_
      exact kl_lret C0 hK hP hS hj dL_at_17 ⟨Nat.le_of_ble_eq_true rfl, Nat.le_of_ble_eq_true rfl⟩
    | 1, hj, hcl => exact absurd hj (fun h => h)
    | n + 2, hj, hcl =>
      refine vx_catch (own := "GlossRowsLaw") (name := ka_E 2) (E := ka_E 2) hown [] ⟨0, 7, 8, 34⟩ [⟨0, 7, 13, 15⟩] (by rw [htab]; rfl) (fun z hz => absurd hz List.not_mem_nil) (by decide) (by decide) (hts _ kq_428) (va_Nw.use rfl (hT.2.2.1 (Cond.castable (ka_E 2) (ka_E 2)) (List.mem_of_getElem? (i := 4) rfl))) hce hcv hcl ?_
      refine lv_astore_n (lv' := [(3, .ref q9), (0, .ref (ka_a G (22, 0, 0))), (1, .int v1), (2, .int v2)]) hx hb dL_at_8 rfl hl (by decide) rfl (fun ls hl => ?_)
      refine lv_ldc2 hx hb hown (hts _ kq_461) dL_at_9 ?_
      exact kl_lret C0 hK hP hS hj dL_at_12 ⟨Nat.le_of_ble_eq_true rfl, Nat.le_of_ble_eq_true rfl⟩
  · refine lv_i2l hx hb dL_at_6 rfl ?_
    exact kl_lret C0 hK hP hS hq dL_at_7 ⟨Nat.le_of_ble_eq_true rfl, Nat.le_of_ble_eq_true rfl⟩
def kw_L_insert (σ : ka_S) (v1 : Int32) (Q : Int64 → ka_S → Prop) : Prop := kw_X8_insert σ v1 (fun r σ1 => Q r.toInt64 σ1) (fun j σ1 => match j with | 0 => False | 1 => Q (-9000000000000000003 : Int64) σ1 | _ => Q (-9000000000000000001 : Int64) σ1)
def rm_L_insert : Room := { frames := 7, cells := 1, slots := 6, locals := 145 }
set_option maxHeartbeats 4000000 in
set_option maxRecDepth 100000 in
theorem km_L_insert (l : Launch) (hl0 : l.stackTraces = false) {G : ka_G} (hI : ka_I G) {σ : ka_S} {v1 : Int32} {Q : Int64 → ka_S → Prop} (hq : kw_L_insert σ v1 Q) : kd_l l yL_insert (kw_W yL_insert cL_insert 3 [(0, 6, 7, 34), (0, 6, 12, 19)]) rm_L_insert 1 6 G [.ref (ka_a G (22, 0, 0)), .int v1] σ Q := by
  refine kl_of rfl (by decide) (Nat.le_of_ble_eq_true rfl) ?_
  intro p e s m below meth c C0 hK hT hN htab H locs hP hS ls hl
  obtain ⟨hx, hb, -, hml, hown, hts, -⟩ := id C0
  have hl : lv_has ls 3 [(0, .ref (ka_a G (22, 0, 0))), (1, .int v1)] := hl
  unfold kw_L_insert at hq
  refine lv_aload_n hx hb dL_insert_0 rfl (lv_at hl 0 rfl) ?_
  refine lv_iload_n hx hb dL_insert_1 rfl (lv_at hl 1 rfl) ?_
  refine kl_V (k := (22, 0, 0)) (As := [.int v1]) (rest := []) C0 hK hT hP hS hl (km_X8_insert l hl0 hI hq) kd_X8_insert kq_856 (kv_s (by decide) (by decide)) rfl rfl rfl ⟨rfl, rfl, Nat.le_of_ble_eq_true rfl, Nat.le_of_ble_eq_true rfl⟩ rfl (Nat.le_of_ble_eq_true rfl) dL_insert_2 ⟨Nat.le_of_ble_eq_true rfl, Nat.le_of_ble_eq_true rfl⟩ (fun j ce q9 σ1 H locs hj hP hS hce hcv hcl => ?_) (fun r σ1 H locs hq hP hS => ?_)
  · match j, hj, hcl with
    | 0, hj, hcl => exact absurd hj (fun h => h)
    | 1, hj, hcl =>
      refine vx_catch (own := "GlossRowsLaw") (name := ka_E 1) (E := ka_E 1) hown [⟨0, 6, 7, 34⟩] ⟨0, 6, 12, 19⟩ [] (by rw [htab]; rfl) (fun z hz => Or.inr (by obtain rfl := List.mem_singleton.mp hz; exact ⟨by decide, ka_E 2, hts _ kq_428, hN 1 (by decide) 2 (by decide) (by decide)⟩)) (by decide) (by decide) (hts _ kq_265) (va_Nw.use rfl (hT.2.2.1 (Cond.castable (ka_E 1) (ka_E 1)) (List.mem_of_getElem? (i := 0) rfl))) hce hcv hcl ?_
      refine lv_astore_n (lv' := [(2, .ref q9), (0, .ref (ka_a G (22, 0, 0))), (1, .int v1)]) hx hb dL_insert_12 rfl hl (by decide) rfl (fun ls hl => ?_)
      refine lv_ldc2 hx hb hown (hts _ kq_424) dL_insert_13 ?_
      exact kl_lret C0 hK hP hS hj dL_insert_16 ⟨Nat.le_of_ble_eq_true rfl, Nat.le_of_ble_eq_true rfl⟩
    | n + 2, hj, hcl =>
      refine vx_catch (own := "GlossRowsLaw") (name := ka_E 2) (E := ka_E 2) hown [] ⟨0, 6, 7, 34⟩ [⟨0, 6, 12, 19⟩] (by rw [htab]; rfl) (fun z hz => absurd hz List.not_mem_nil) (by decide) (by decide) (hts _ kq_428) (va_Nw.use rfl (hT.2.2.1 (Cond.castable (ka_E 2) (ka_E 2)) (List.mem_of_getElem? (i := 4) rfl))) hce hcv hcl ?_
      refine lv_astore_n (lv' := [(2, .ref q9), (0, .ref (ka_a G (22, 0, 0))), (1, .int v1)]) hx hb dL_insert_7 rfl hl (by decide) rfl (fun ls hl => ?_)
      refine lv_ldc2 hx hb hown (hts _ kq_461) dL_insert_8 ?_
      exact kl_lret C0 hK hP hS hj dL_insert_11 ⟨Nat.le_of_ble_eq_true rfl, Nat.le_of_ble_eq_true rfl⟩
  · refine lv_i2l hx hb dL_insert_5 rfl ?_
    exact kl_lret C0 hK hP hS hq dL_insert_6 ⟨Nat.le_of_ble_eq_true rfl, Nat.le_of_ble_eq_true rfl⟩
def kw_L_remove (σ : ka_S) (v1 : Int32) (Q : Int64 → ka_S → Prop) : Prop := kw_X8_remove σ v1 (fun r σ1 => Q r.toInt64 σ1) (fun j σ1 => match j with | 0 => False | 1 => False | _ => Q (-9000000000000000001 : Int64) σ1)
def rm_L_remove : Room := { frames := 8, cells := 1, slots := 6, locals := 124 }
set_option maxHeartbeats 4000000 in
set_option maxRecDepth 100000 in
theorem km_L_remove (l : Launch) (hl0 : l.stackTraces = false) {G : ka_G} (hI : ka_I G) {σ : ka_S} {v1 : Int32} {Q : Int64 → ka_S → Prop} (hq : kw_L_remove σ v1 Q) : kd_l l yL_remove (kw_W yL_remove cL_remove 3 [(0, 6, 7, 34)]) rm_L_remove 1 6 G [.ref (ka_a G (22, 0, 0)), .int v1] σ Q := by
  refine kl_of rfl (by decide) (Nat.le_of_ble_eq_true rfl) ?_
  intro p e s m below meth c C0 hK hT hN htab H locs hP hS ls hl
  obtain ⟨hx, hb, -, hml, hown, hts, -⟩ := id C0
  have hl : lv_has ls 3 [(0, .ref (ka_a G (22, 0, 0))), (1, .int v1)] := hl
  unfold kw_L_remove at hq
  refine lv_aload_n hx hb dL_remove_0 rfl (lv_at hl 0 rfl) ?_
  refine lv_iload_n hx hb dL_remove_1 rfl (lv_at hl 1 rfl) ?_
  refine kl_V (k := (22, 0, 0)) (As := [.int v1]) (rest := []) C0 hK hT hP hS hl (km_X8_remove l hl0 hI hq) kd_X8_remove kq_870 (kv_s (by decide) (by decide)) rfl rfl rfl ⟨rfl, rfl, Nat.le_of_ble_eq_true rfl, Nat.le_of_ble_eq_true rfl⟩ rfl (Nat.le_of_ble_eq_true rfl) dL_remove_2 ⟨Nat.le_of_ble_eq_true rfl, Nat.le_of_ble_eq_true rfl⟩ (fun j ce q9 σ1 H locs hj hP hS hce hcv hcl => ?_) (fun r σ1 H locs hq hP hS => ?_)
  · match j, hj, hcl with
    | 0, hj, hcl => exact absurd hj (fun h => h)
    | 1, hj, hcl => exact absurd hj (fun h => h)
    | n + 2, hj, hcl =>
      refine vx_catch (own := "GlossRowsLaw") (name := ka_E 2) (E := ka_E 2) hown [] ⟨0, 6, 7, 34⟩ [] (by rw [htab]; rfl) (fun z hz => absurd hz List.not_mem_nil) (by decide) (by decide) (hts _ kq_428) (va_Nw.use rfl (hT.2.2.1 (Cond.castable (ka_E 2) (ka_E 2)) (List.mem_of_getElem? (i := 4) rfl))) hce hcv hcl ?_
      refine lv_astore_n (lv' := [(2, .ref q9), (0, .ref (ka_a G (22, 0, 0))), (1, .int v1)]) hx hb dL_remove_7 rfl hl (by decide) rfl (fun ls hl => ?_)
      refine lv_ldc2 hx hb hown (hts _ kq_461) dL_remove_8 ?_
      exact kl_lret C0 hK hP hS hj dL_remove_11 ⟨Nat.le_of_ble_eq_true rfl, Nat.le_of_ble_eq_true rfl⟩
  · refine lv_i2l hx hb dL_remove_5 rfl ?_
    exact kl_lret C0 hK hP hS hq dL_remove_6 ⟨Nat.le_of_ble_eq_true rfl, Nat.le_of_ble_eq_true rfl⟩
def kw_L_end (σ : ka_S) (v1 : Int32) (Q : Int64 → ka_S → Prop) : Prop := kw_X8_end σ v1 (fun r σ1 => Q r.toInt64 σ1) (fun j σ1 => match j with | 0 => False | 1 => False | _ => Q (-9000000000000000001 : Int64) σ1)
def rm_L_end : Room := { frames := 8, cells := 1, slots := 6, locals := 124 }
set_option maxHeartbeats 4000000 in
set_option maxRecDepth 100000 in
theorem km_L_end (l : Launch) (hl0 : l.stackTraces = false) {G : ka_G} (hI : ka_I G) {σ : ka_S} {v1 : Int32} {Q : Int64 → ka_S → Prop} (hq : kw_L_end σ v1 Q) : kd_l l yL_end (kw_W yL_end cL_end 3 [(0, 6, 7, 34)]) rm_L_end 1 6 G [.ref (ka_a G (22, 0, 0)), .int v1] σ Q := by
  refine kl_of rfl (by decide) (Nat.le_of_ble_eq_true rfl) ?_
  intro p e s m below meth c C0 hK hT hN htab H locs hP hS ls hl
  obtain ⟨hx, hb, -, hml, hown, hts, -⟩ := id C0
  have hl : lv_has ls 3 [(0, .ref (ka_a G (22, 0, 0))), (1, .int v1)] := hl
  unfold kw_L_end at hq
  refine lv_aload_n hx hb dL_end_0 rfl (lv_at hl 0 rfl) ?_
  refine lv_iload_n hx hb dL_end_1 rfl (lv_at hl 1 rfl) ?_
  refine kl_V (k := (22, 0, 0)) (As := [.int v1]) (rest := []) C0 hK hT hP hS hl (km_X8_end l hl0 hI hq) kd_X8_end kq_877 (kv_s (by decide) (by decide)) rfl rfl rfl ⟨rfl, rfl, Nat.le_of_ble_eq_true rfl, Nat.le_of_ble_eq_true rfl⟩ rfl (Nat.le_of_ble_eq_true rfl) dL_end_2 ⟨Nat.le_of_ble_eq_true rfl, Nat.le_of_ble_eq_true rfl⟩ (fun j ce q9 σ1 H locs hj hP hS hce hcv hcl => ?_) (fun r σ1 H locs hq hP hS => ?_)
  · match j, hj, hcl with
    | 0, hj, hcl => exact absurd hj (fun h => h)
    | 1, hj, hcl => exact absurd hj (fun h => h)
    | n + 2, hj, hcl =>
      refine vx_catch (own := "GlossRowsLaw") (name := ka_E 2) (E := ka_E 2) hown [] ⟨0, 6, 7, 34⟩ [] (by rw [htab]; rfl) (fun z hz => absurd hz List.not_mem_nil) (by decide) (by decide) (hts _ kq_428) (va_Nw.use rfl (hT.2.2.1 (Cond.castable (ka_E 2) (ka_E 2)) (List.mem_of_getElem? (i := 4) rfl))) hce hcv hcl ?_
      refine lv_astore_n (lv' := [(2, .ref q9), (0, .ref (ka_a G (22, 0, 0))), (1, .int v1)]) hx hb dL_end_7 rfl hl (by decide) rfl (fun ls hl => ?_)
      refine lv_ldc2 hx hb hown (hts _ kq_461) dL_end_8 ?_
      exact kl_lret C0 hK hP hS hj dL_end_11 ⟨Nat.le_of_ble_eq_true rfl, Nat.le_of_ble_eq_true rfl⟩
  · refine lv_i2l hx hb dL_end_5 rfl ?_
    exact kl_lret C0 hK hP hS hq dL_end_6 ⟨Nat.le_of_ble_eq_true rfl, Nat.le_of_ble_eq_true rfl⟩
def kw_L_join (σ : ka_S) (v1 : Int32) (Q : Int64 → ka_S → Prop) : Prop := kw_X8_join σ v1 (fun r σ1 => Q r.toInt64 σ1) (fun j σ1 => match j with | 0 => False | 1 => False | _ => Q (-9000000000000000001 : Int64) σ1)
def rm_L_join : Room := { frames := 8, cells := 1, slots := 6, locals := 124 }
set_option maxHeartbeats 4000000 in
set_option maxRecDepth 100000 in
theorem km_L_join (l : Launch) (hl0 : l.stackTraces = false) {G : ka_G} (hI : ka_I G) {σ : ka_S} {v1 : Int32} {Q : Int64 → ka_S → Prop} (hq : kw_L_join σ v1 Q) : kd_l l yL_join (kw_W yL_join cL_join 3 [(0, 6, 7, 34)]) rm_L_join 1 6 G [.ref (ka_a G (22, 0, 0)), .int v1] σ Q := by
  refine kl_of rfl (by decide) (Nat.le_of_ble_eq_true rfl) ?_
  intro p e s m below meth c C0 hK hT hN htab H locs hP hS ls hl
  obtain ⟨hx, hb, -, hml, hown, hts, -⟩ := id C0
  have hl : lv_has ls 3 [(0, .ref (ka_a G (22, 0, 0))), (1, .int v1)] := hl
  unfold kw_L_join at hq
  refine lv_aload_n hx hb dL_join_0 rfl (lv_at hl 0 rfl) ?_
  refine lv_iload_n hx hb dL_join_1 rfl (lv_at hl 1 rfl) ?_
  refine kl_V (k := (22, 0, 0)) (As := [.int v1]) (rest := []) C0 hK hT hP hS hl (km_X8_join l hl0 hI hq) kd_X8_join kq_884 (kv_s (by decide) (by decide)) rfl rfl rfl ⟨rfl, rfl, Nat.le_of_ble_eq_true rfl, Nat.le_of_ble_eq_true rfl⟩ rfl (Nat.le_of_ble_eq_true rfl) dL_join_2 ⟨Nat.le_of_ble_eq_true rfl, Nat.le_of_ble_eq_true rfl⟩ (fun j ce q9 σ1 H locs hj hP hS hce hcv hcl => ?_) (fun r σ1 H locs hq hP hS => ?_)
  · match j, hj, hcl with
    | 0, hj, hcl => exact absurd hj (fun h => h)
    | 1, hj, hcl => exact absurd hj (fun h => h)
    | n + 2, hj, hcl =>
      refine vx_catch (own := "GlossRowsLaw") (name := ka_E 2) (E := ka_E 2) hown [] ⟨0, 6, 7, 34⟩ [] (by rw [htab]; rfl) (fun z hz => absurd hz List.not_mem_nil) (by decide) (by decide) (hts _ kq_428) (va_Nw.use rfl (hT.2.2.1 (Cond.castable (ka_E 2) (ka_E 2)) (List.mem_of_getElem? (i := 4) rfl))) hce hcv hcl ?_
      refine lv_astore_n (lv' := [(2, .ref q9), (0, .ref (ka_a G (22, 0, 0))), (1, .int v1)]) hx hb dL_join_7 rfl hl (by decide) rfl (fun ls hl => ?_)
      refine lv_ldc2 hx hb hown (hts _ kq_461) dL_join_8 ?_
      exact kl_lret C0 hK hP hS hj dL_join_11 ⟨Nat.le_of_ble_eq_true rfl, Nat.le_of_ble_eq_true rfl⟩
  · refine lv_i2l hx hb dL_join_5 rfl ?_
    exact kl_lret C0 hK hP hS hq dL_join_6 ⟨Nat.le_of_ble_eq_true rfl, Nat.le_of_ble_eq_true rfl⟩
def kw_L_setFree (σ : ka_S) (v1 : Int32) (Q : Int64 → ka_S → Prop) : Prop := kw_X8_setFree σ v1 (fun r σ1 => Q r.toInt64 σ1) (fun j σ1 => match j with | 0 => False | 1 => Q (-9000000000000000003 : Int64) σ1 | _ => Q (-9000000000000000001 : Int64) σ1)
def rm_L_setFree : Room := { frames := 8, cells := 2, slots := 12, locals := 124 }
set_option maxHeartbeats 4000000 in
set_option maxRecDepth 100000 in
theorem km_L_setFree (l : Launch) (hl0 : l.stackTraces = false) {G : ka_G} (hI : ka_I G) {σ : ka_S} {v1 : Int32} {Q : Int64 → ka_S → Prop} (hq : kw_L_setFree σ v1 Q) : kd_l l yL_setFree (kw_W yL_setFree cL_setFree 3 [(0, 6, 7, 34), (0, 6, 12, 19)]) rm_L_setFree 2 12 G [.ref (ka_a G (22, 0, 0)), .int v1] σ Q := by
  refine kl_of rfl (by decide) (Nat.le_of_ble_eq_true rfl) ?_
  intro p e s m below meth c C0 hK hT hN htab H locs hP hS ls hl
  obtain ⟨hx, hb, -, hml, hown, hts, -⟩ := id C0
  have hl : lv_has ls 3 [(0, .ref (ka_a G (22, 0, 0))), (1, .int v1)] := hl
  unfold kw_L_setFree at hq
  refine lv_aload_n hx hb dL_setFree_0 rfl (lv_at hl 0 rfl) ?_
  refine lv_iload_n hx hb dL_setFree_1 rfl (lv_at hl 1 rfl) ?_
  refine kl_V (k := (22, 0, 0)) (As := [.int v1]) (rest := []) C0 hK hT hP hS hl (km_X8_setFree l hl0 hI hq) kd_X8_setFree kq_891 (kv_s (by decide) (by decide)) rfl rfl rfl ⟨rfl, rfl, Nat.le_of_ble_eq_true rfl, Nat.le_of_ble_eq_true rfl⟩ rfl (Nat.le_of_ble_eq_true rfl) dL_setFree_2 ⟨Nat.le_of_ble_eq_true rfl, Nat.le_of_ble_eq_true rfl⟩ (fun j ce q9 σ1 H locs hj hP hS hce hcv hcl => ?_) (fun r σ1 H locs hq hP hS => ?_)
  · match j, hj, hcl with
    | 0, hj, hcl => exact absurd hj (fun h => h)
    | 1, hj, hcl =>
      refine vx_catch (own := "GlossRowsLaw") (name := ka_E 1) (E := ka_E 1) hown [⟨0, 6, 7, 34⟩] ⟨0, 6, 12, 19⟩ [] (by rw [htab]; rfl) (fun z hz => Or.inr (by obtain rfl := List.mem_singleton.mp hz; exact ⟨by decide, ka_E 2, hts _ kq_428, hN 1 (by decide) 2 (by decide) (by decide)⟩)) (by decide) (by decide) (hts _ kq_265) (va_Nw.use rfl (hT.2.2.1 (Cond.castable (ka_E 1) (ka_E 1)) (List.mem_of_getElem? (i := 0) rfl))) hce hcv hcl ?_
      refine lv_astore_n (lv' := [(2, .ref q9), (0, .ref (ka_a G (22, 0, 0))), (1, .int v1)]) hx hb dL_setFree_12 rfl hl (by decide) rfl (fun ls hl => ?_)
      refine lv_ldc2 hx hb hown (hts _ kq_424) dL_setFree_13 ?_
      exact kl_lret C0 hK hP hS hj dL_setFree_16 ⟨Nat.le_of_ble_eq_true rfl, Nat.le_of_ble_eq_true rfl⟩
    | n + 2, hj, hcl =>
      refine vx_catch (own := "GlossRowsLaw") (name := ka_E 2) (E := ka_E 2) hown [] ⟨0, 6, 7, 34⟩ [⟨0, 6, 12, 19⟩] (by rw [htab]; rfl) (fun z hz => absurd hz List.not_mem_nil) (by decide) (by decide) (hts _ kq_428) (va_Nw.use rfl (hT.2.2.1 (Cond.castable (ka_E 2) (ka_E 2)) (List.mem_of_getElem? (i := 4) rfl))) hce hcv hcl ?_
      refine lv_astore_n (lv' := [(2, .ref q9), (0, .ref (ka_a G (22, 0, 0))), (1, .int v1)]) hx hb dL_setFree_7 rfl hl (by decide) rfl (fun ls hl => ?_)
      refine lv_ldc2 hx hb hown (hts _ kq_461) dL_setFree_8 ?_
      exact kl_lret C0 hK hP hS hj dL_setFree_11 ⟨Nat.le_of_ble_eq_true rfl, Nat.le_of_ble_eq_true rfl⟩
  · refine lv_i2l hx hb dL_setFree_5 rfl ?_
    exact kl_lret C0 hK hP hS hq dL_setFree_6 ⟨Nat.le_of_ble_eq_true rfl, Nat.le_of_ble_eq_true rfl⟩
def kw_L_setGloss (σ : ka_S) (v1 : Int32) (v2 : Int32) (Q : Int64 → ka_S → Prop) : Prop := kw_X8_setGloss σ v1 v2 (fun r σ1 => Q r.toInt64 σ1) (fun j σ1 => match j with | 0 => False | 1 => Q (-9000000000000000003 : Int64) σ1 | _ => Q (-9000000000000000001 : Int64) σ1)
def rm_L_setGloss : Room := { frames := 8, cells := 2, slots := 12, locals := 126 }
set_option maxHeartbeats 4000000 in
set_option maxRecDepth 100000 in
theorem km_L_setGloss (l : Launch) (hl0 : l.stackTraces = false) {G : ka_G} (hI : ka_I G) {σ : ka_S} {v1 : Int32} {v2 : Int32} {Q : Int64 → ka_S → Prop} (hq : kw_L_setGloss σ v1 v2 Q) : kd_l l yL_setGloss (kw_W yL_setGloss cL_setGloss 4 [(0, 7, 8, 34), (0, 7, 13, 19)]) rm_L_setGloss 2 12 G [.ref (ka_a G (22, 0, 0)), .int v1, .int v2] σ Q := by
  refine kl_of rfl (by decide) (Nat.le_of_ble_eq_true rfl) ?_
  intro p e s m below meth c C0 hK hT hN htab H locs hP hS ls hl
  obtain ⟨hx, hb, -, hml, hown, hts, -⟩ := id C0
  have hl : lv_has ls 4 [(0, .ref (ka_a G (22, 0, 0))), (1, .int v1), (2, .int v2)] := hl
  unfold kw_L_setGloss at hq
  refine lv_aload_n hx hb dL_setGloss_0 rfl (lv_at hl 0 rfl) ?_
  refine lv_iload_n hx hb dL_setGloss_1 rfl (lv_at hl 1 rfl) ?_
  refine lv_iload_n hx hb dL_setGloss_2 rfl (lv_at hl 2 rfl) ?_
  refine kl_V (k := (22, 0, 0)) (As := [.int v1, .int v2]) (rest := []) C0 hK hT hP hS hl (km_X8_setGloss l hl0 hI hq) kd_X8_setGloss kq_908 (kv_s (by decide) (by decide)) rfl rfl rfl ⟨rfl, rfl, Nat.le_of_ble_eq_true rfl, Nat.le_of_ble_eq_true rfl⟩ rfl (Nat.le_of_ble_eq_true rfl) dL_setGloss_3 ⟨Nat.le_of_ble_eq_true rfl, Nat.le_of_ble_eq_true rfl⟩ (fun j ce q9 σ1 H locs hj hP hS hce hcv hcl => ?_) (fun r σ1 H locs hq hP hS => ?_)
  · match j, hj, hcl with
    | 0, hj, hcl => exact absurd hj (fun h => h)
    | 1, hj, hcl =>
      refine vx_catch (own := "GlossRowsLaw") (name := ka_E 1) (E := ka_E 1) hown [⟨0, 7, 8, 34⟩] ⟨0, 7, 13, 19⟩ [] (by rw [htab]; rfl) (fun z hz => Or.inr (by obtain rfl := List.mem_singleton.mp hz; exact ⟨by decide, ka_E 2, hts _ kq_428, hN 1 (by decide) 2 (by decide) (by decide)⟩)) (by decide) (by decide) (hts _ kq_265) (va_Nw.use rfl (hT.2.2.1 (Cond.castable (ka_E 1) (ka_E 1)) (List.mem_of_getElem? (i := 0) rfl))) hce hcv hcl ?_
      refine lv_astore_n (lv' := [(3, .ref q9), (0, .ref (ka_a G (22, 0, 0))), (1, .int v1), (2, .int v2)]) hx hb dL_setGloss_13 rfl hl (by decide) rfl (fun ls hl => ?_)
      refine lv_ldc2 hx hb hown (hts _ kq_424) dL_setGloss_14 ?_
      exact kl_lret C0 hK hP hS hj dL_setGloss_17 ⟨Nat.le_of_ble_eq_true rfl, Nat.le_of_ble_eq_true rfl⟩
    | n + 2, hj, hcl =>
      refine vx_catch (own := "GlossRowsLaw") (name := ka_E 2) (E := ka_E 2) hown [] ⟨0, 7, 8, 34⟩ [⟨0, 7, 13, 19⟩] (by rw [htab]; rfl) (fun z hz => absurd hz List.not_mem_nil) (by decide) (by decide) (hts _ kq_428) (va_Nw.use rfl (hT.2.2.1 (Cond.castable (ka_E 2) (ka_E 2)) (List.mem_of_getElem? (i := 4) rfl))) hce hcv hcl ?_
      refine lv_astore_n (lv' := [(3, .ref q9), (0, .ref (ka_a G (22, 0, 0))), (1, .int v1), (2, .int v2)]) hx hb dL_setGloss_8 rfl hl (by decide) rfl (fun ls hl => ?_)
      refine lv_ldc2 hx hb hown (hts _ kq_461) dL_setGloss_9 ?_
      exact kl_lret C0 hK hP hS hj dL_setGloss_12 ⟨Nat.le_of_ble_eq_true rfl, Nat.le_of_ble_eq_true rfl⟩
  · refine lv_i2l hx hb dL_setGloss_6 rfl ?_
    exact kl_lret C0 hK hP hS hq dL_setGloss_7 ⟨Nat.le_of_ble_eq_true rfl, Nat.le_of_ble_eq_true rfl⟩
def kw_L_set (σ : ka_S) (v1 : Int32) (v2 : Int32) (Q : Int64 → ka_S → Prop) : Prop := kw_X8_set σ v1 v2 (fun r σ1 => Q r.toInt64 σ1) (fun j σ1 => match j with | 0 => Q (-9000000000000000002 : Int64) σ1 | 1 => False | _ => False)
def rm_L_set : Room := { frames := 7, cells := 1, slots := 6, locals := 104 }
set_option maxHeartbeats 4000000 in
set_option maxRecDepth 100000 in
theorem km_L_set (l : Launch) (hl0 : l.stackTraces = false) {G : ka_G} (hI : ka_I G) {σ : ka_S} {v1 : Int32} {v2 : Int32} {Q : Int64 → ka_S → Prop} (hq : kw_L_set σ v1 v2 Q) : kd_l l yL_set (kw_W yL_set cL_set 4 [(0, 7, 8, 15)]) rm_L_set 1 6 G [.ref (ka_a G (22, 0, 0)), .int v1, .int v2] σ Q := by
  refine kl_of rfl (by decide) (Nat.le_of_ble_eq_true rfl) ?_
  intro p e s m below meth c C0 hK hT hN htab H locs hP hS ls hl
  obtain ⟨hx, hb, -, hml, hown, hts, -⟩ := id C0
  have hl : lv_has ls 4 [(0, .ref (ka_a G (22, 0, 0))), (1, .int v1), (2, .int v2)] := hl
  unfold kw_L_set at hq
  refine lv_aload_n hx hb dL_set_0 rfl (lv_at hl 0 rfl) ?_
  refine lv_iload_n hx hb dL_set_1 rfl (lv_at hl 1 rfl) ?_
  refine lv_iload_n hx hb dL_set_2 rfl (lv_at hl 2 rfl) ?_
  refine kl_V (k := (22, 0, 0)) (As := [.int v1, .int v2]) (rest := []) C0 hK hT hP hS hl (km_X8_set l hl0 hI hq) kd_X8_set kq_926 (kv_s (by decide) (by decide)) rfl rfl rfl ⟨rfl, rfl, Nat.le_of_ble_eq_true rfl, Nat.le_of_ble_eq_true rfl⟩ rfl (Nat.le_of_ble_eq_true rfl) dL_set_3 ⟨Nat.le_of_ble_eq_true rfl, Nat.le_of_ble_eq_true rfl⟩ (fun j ce q9 σ1 H locs hj hP hS hce hcv hcl => ?_) (fun r σ1 H locs hq hP hS => ?_)
  · match j, hj, hcl with
    | 0, hj, hcl =>
      refine vx_catch (own := "GlossRowsLaw") (name := ka_E 0) (E := ka_E 0) hown [] ⟨0, 7, 8, 15⟩ [] (by rw [htab]; rfl) (fun z hz => absurd hz List.not_mem_nil) (by decide) (by decide) (hts _ kq_481) (va_Nw.use rfl (hT.2.2.1 (Cond.castable (ka_E 0) (ka_E 0)) (List.mem_of_getElem? (i := 5) rfl))) hce hcv hcl ?_
      refine lv_astore_n (lv' := [(3, .ref q9), (0, .ref (ka_a G (22, 0, 0))), (1, .int v1), (2, .int v2)]) hx hb dL_set_8 rfl hl (by decide) rfl (fun ls hl => ?_)
      refine lv_ldc2 hx hb hown (hts _ kq_558) dL_set_9 ?_
      exact kl_lret C0 hK hP hS hj dL_set_12 ⟨Nat.le_of_ble_eq_true rfl, Nat.le_of_ble_eq_true rfl⟩
    | 1, hj, hcl => exact absurd hj (fun h => h)
    | n + 2, hj, hcl => exact absurd hj (fun h => h)
  · refine lv_i2l hx hb dL_set_6 rfl ?_
    exact kl_lret C0 hK hP hS hq dL_set_7 ⟨Nat.le_of_ble_eq_true rfl, Nat.le_of_ble_eq_true rfl⟩
def kw_L_learn (σ : ka_S) (v1 : Int32) (v2 : Int32) (Q : Int64 → ka_S → Prop) : Prop := kw_X8_learn σ v1 v2 (fun r σ1 => Q r.toInt64 σ1) (fun j σ1 => match j with | 0 => False | 1 => Q (-9000000000000000003 : Int64) σ1 | _ => Q (-9000000000000000001 : Int64) σ1)
def rm_L_learn : Room := { frames := 8, cells := 2, slots := 12, locals := 126 }
set_option maxHeartbeats 4000000 in
set_option maxRecDepth 100000 in
theorem km_L_learn (l : Launch) (hl0 : l.stackTraces = false) {G : ka_G} (hI : ka_I G) {σ : ka_S} {v1 : Int32} {v2 : Int32} {Q : Int64 → ka_S → Prop} (hq : kw_L_learn σ v1 v2 Q) : kd_l l yL_learn (kw_W yL_learn cL_learn 4 [(0, 7, 8, 34), (0, 7, 13, 19)]) rm_L_learn 2 12 G [.ref (ka_a G (22, 0, 0)), .int v1, .int v2] σ Q := by
  refine kl_of rfl (by decide) (Nat.le_of_ble_eq_true rfl) ?_
  intro p e s m below meth c C0 hK hT hN htab H locs hP hS ls hl
  obtain ⟨hx, hb, -, hml, hown, hts, -⟩ := id C0
  have hl : lv_has ls 4 [(0, .ref (ka_a G (22, 0, 0))), (1, .int v1), (2, .int v2)] := hl
  unfold kw_L_learn at hq
  refine lv_aload_n hx hb dL_learn_0 rfl (lv_at hl 0 rfl) ?_
  refine lv_iload_n hx hb dL_learn_1 rfl (lv_at hl 1 rfl) ?_
  refine lv_iload_n hx hb dL_learn_2 rfl (lv_at hl 2 rfl) ?_
  refine kl_V (k := (22, 0, 0)) (As := [.int v1, .int v2]) (rest := []) C0 hK hT hP hS hl (km_X8_learn l hl0 hI hq) kd_X8_learn kq_934 (kv_s (by decide) (by decide)) rfl rfl rfl ⟨rfl, rfl, Nat.le_of_ble_eq_true rfl, Nat.le_of_ble_eq_true rfl⟩ rfl (Nat.le_of_ble_eq_true rfl) dL_learn_3 ⟨Nat.le_of_ble_eq_true rfl, Nat.le_of_ble_eq_true rfl⟩ (fun j ce q9 σ1 H locs hj hP hS hce hcv hcl => ?_) (fun r σ1 H locs hq hP hS => ?_)
  · match j, hj, hcl with
    | 0, hj, hcl => exact absurd hj (fun h => h)
    | 1, hj, hcl =>
      refine vx_catch (own := "GlossRowsLaw") (name := ka_E 1) (E := ka_E 1) hown [⟨0, 7, 8, 34⟩] ⟨0, 7, 13, 19⟩ [] (by rw [htab]; rfl) (fun z hz => Or.inr (by obtain rfl := List.mem_singleton.mp hz; exact ⟨by decide, ka_E 2, hts _ kq_428, hN 1 (by decide) 2 (by decide) (by decide)⟩)) (by decide) (by decide) (hts _ kq_265) (va_Nw.use rfl (hT.2.2.1 (Cond.castable (ka_E 1) (ka_E 1)) (List.mem_of_getElem? (i := 0) rfl))) hce hcv hcl ?_
      refine lv_astore_n (lv' := [(3, .ref q9), (0, .ref (ka_a G (22, 0, 0))), (1, .int v1), (2, .int v2)]) hx hb dL_learn_13 rfl hl (by decide) rfl (fun ls hl => ?_)
      refine lv_ldc2 hx hb hown (hts _ kq_424) dL_learn_14 ?_
      exact kl_lret C0 hK hP hS hj dL_learn_17 ⟨Nat.le_of_ble_eq_true rfl, Nat.le_of_ble_eq_true rfl⟩
    | n + 2, hj, hcl =>
      refine vx_catch (own := "GlossRowsLaw") (name := ka_E 2) (E := ka_E 2) hown [] ⟨0, 7, 8, 34⟩ [⟨0, 7, 13, 19⟩] (by rw [htab]; rfl) (fun z hz => absurd hz List.not_mem_nil) (by decide) (by decide) (hts _ kq_428) (va_Nw.use rfl (hT.2.2.1 (Cond.castable (ka_E 2) (ka_E 2)) (List.mem_of_getElem? (i := 4) rfl))) hce hcv hcl ?_
      refine lv_astore_n (lv' := [(3, .ref q9), (0, .ref (ka_a G (22, 0, 0))), (1, .int v1), (2, .int v2)]) hx hb dL_learn_8 rfl hl (by decide) rfl (fun ls hl => ?_)
      refine lv_ldc2 hx hb hown (hts _ kq_461) dL_learn_9 ?_
      exact kl_lret C0 hK hP hS hj dL_learn_12 ⟨Nat.le_of_ble_eq_true rfl, Nat.le_of_ble_eq_true rfl⟩
  · refine lv_i2l hx hb dL_learn_6 rfl ?_
    exact kl_lret C0 hK hP hS hq dL_learn_7 ⟨Nat.le_of_ble_eq_true rfl, Nat.le_of_ble_eq_true rfl⟩
def kw_L_forget (σ : ka_S) (v1 : Int32) (Q : Int64 → ka_S → Prop) : Prop := kw_X8_forget σ v1 (fun r σ1 => Q r.toInt64 σ1) (fun j σ1 => match j with | 0 => False | 1 => False | _ => Q (-9000000000000000001 : Int64) σ1)
def rm_L_forget : Room := { frames := 8, cells := 1, slots := 6, locals := 124 }
set_option maxHeartbeats 4000000 in
set_option maxRecDepth 100000 in
theorem km_L_forget (l : Launch) (hl0 : l.stackTraces = false) {G : ka_G} (hI : ka_I G) {σ : ka_S} {v1 : Int32} {Q : Int64 → ka_S → Prop} (hq : kw_L_forget σ v1 Q) : kd_l l yL_forget (kw_W yL_forget cL_forget 3 [(0, 6, 7, 34)]) rm_L_forget 1 6 G [.ref (ka_a G (22, 0, 0)), .int v1] σ Q := by
  refine kl_of rfl (by decide) (Nat.le_of_ble_eq_true rfl) ?_
  intro p e s m below meth c C0 hK hT hN htab H locs hP hS ls hl
  obtain ⟨hx, hb, -, hml, hown, hts, -⟩ := id C0
  have hl : lv_has ls 3 [(0, .ref (ka_a G (22, 0, 0))), (1, .int v1)] := hl
  unfold kw_L_forget at hq
  refine lv_aload_n hx hb dL_forget_0 rfl (lv_at hl 0 rfl) ?_
  refine lv_iload_n hx hb dL_forget_1 rfl (lv_at hl 1 rfl) ?_
  refine kl_V (k := (22, 0, 0)) (As := [.int v1]) (rest := []) C0 hK hT hP hS hl (km_X8_forget l hl0 hI hq) kd_X8_forget kq_942 (kv_s (by decide) (by decide)) rfl rfl rfl ⟨rfl, rfl, Nat.le_of_ble_eq_true rfl, Nat.le_of_ble_eq_true rfl⟩ rfl (Nat.le_of_ble_eq_true rfl) dL_forget_2 ⟨Nat.le_of_ble_eq_true rfl, Nat.le_of_ble_eq_true rfl⟩ (fun j ce q9 σ1 H locs hj hP hS hce hcv hcl => ?_) (fun r σ1 H locs hq hP hS => ?_)
  · match j, hj, hcl with
    | 0, hj, hcl => exact absurd hj (fun h => h)
    | 1, hj, hcl => exact absurd hj (fun h => h)
    | n + 2, hj, hcl =>
      refine vx_catch (own := "GlossRowsLaw") (name := ka_E 2) (E := ka_E 2) hown [] ⟨0, 6, 7, 34⟩ [] (by rw [htab]; rfl) (fun z hz => absurd hz List.not_mem_nil) (by decide) (by decide) (hts _ kq_428) (va_Nw.use rfl (hT.2.2.1 (Cond.castable (ka_E 2) (ka_E 2)) (List.mem_of_getElem? (i := 4) rfl))) hce hcv hcl ?_
      refine lv_astore_n (lv' := [(2, .ref q9), (0, .ref (ka_a G (22, 0, 0))), (1, .int v1)]) hx hb dL_forget_7 rfl hl (by decide) rfl (fun ls hl => ?_)
      refine lv_ldc2 hx hb hown (hts _ kq_461) dL_forget_8 ?_
      exact kl_lret C0 hK hP hS hj dL_forget_11 ⟨Nat.le_of_ble_eq_true rfl, Nat.le_of_ble_eq_true rfl⟩
  · refine lv_i2l hx hb dL_forget_5 rfl ?_
    exact kl_lret C0 hK hP hS hq dL_forget_6 ⟨Nat.le_of_ble_eq_true rfl, Nat.le_of_ble_eq_true rfl⟩
def kw_L_undo (σ : ka_S) (Q : Int64 → ka_S → Prop) : Prop := kw_X8_undo σ (fun r σ1 => Q r.toInt64 σ1) (fun j σ1 => match j with | 0 => False | 1 => Q (-9000000000000000003 : Int64) σ1 | _ => False)
def rm_L_undo : Room := { frames := 7, cells := 1, slots := 6, locals := 102 }
set_option maxHeartbeats 4000000 in
set_option maxRecDepth 100000 in
theorem km_L_undo (l : Launch) (hl0 : l.stackTraces = false) {G : ka_G} (hI : ka_I G) {σ : ka_S} {Q : Int64 → ka_S → Prop} (hq : kw_L_undo σ Q) : kd_l l yL_undo (kw_W yL_undo cL_undo 2 [(0, 5, 6, 19)]) rm_L_undo 1 6 G [.ref (ka_a G (22, 0, 0))] σ Q := by
  refine kl_of rfl (by decide) (Nat.le_of_ble_eq_true rfl) ?_
  intro p e s m below meth c C0 hK hT hN htab H locs hP hS ls hl
  obtain ⟨hx, hb, -, hml, hown, hts, -⟩ := id C0
  have hl : lv_has ls 2 [(0, .ref (ka_a G (22, 0, 0)))] := hl
  unfold kw_L_undo at hq
  refine lv_aload_n hx hb dL_undo_0 rfl (lv_at hl 0 rfl) ?_
  refine kl_V (k := (22, 0, 0)) (As := []) (rest := []) C0 hK hT hP hS hl (km_X8_undo l hl0 hI hq) kd_X8_undo kq_969 (kv_s (by decide) (by decide)) rfl rfl rfl ⟨rfl, rfl, Nat.le_of_ble_eq_true rfl, Nat.le_of_ble_eq_true rfl⟩ rfl (Nat.le_of_ble_eq_true rfl) dL_undo_1 ⟨Nat.le_of_ble_eq_true rfl, Nat.le_of_ble_eq_true rfl⟩ (fun j ce q9 σ1 H locs hj hP hS hce hcv hcl => ?_) (fun r σ1 H locs hq hP hS => ?_)
  · match j, hj, hcl with
    | 0, hj, hcl => exact absurd hj (fun h => h)
    | 1, hj, hcl =>
      refine vx_catch (own := "GlossRowsLaw") (name := ka_E 1) (E := ka_E 1) hown [] ⟨0, 5, 6, 19⟩ [] (by rw [htab]; rfl) (fun z hz => absurd hz List.not_mem_nil) (by decide) (by decide) (hts _ kq_265) (va_Nw.use rfl (hT.2.2.1 (Cond.castable (ka_E 1) (ka_E 1)) (List.mem_of_getElem? (i := 0) rfl))) hce hcv hcl ?_
      refine lv_astore_n (lv' := [(1, .ref q9), (0, .ref (ka_a G (22, 0, 0)))]) hx hb dL_undo_6 rfl hl (by decide) rfl (fun ls hl => ?_)
      refine lv_ldc2 hx hb hown (hts _ kq_424) dL_undo_7 ?_
      exact kl_lret C0 hK hP hS hj dL_undo_10 ⟨Nat.le_of_ble_eq_true rfl, Nat.le_of_ble_eq_true rfl⟩
    | n + 2, hj, hcl => exact absurd hj (fun h => h)
  · refine lv_i2l hx hb dL_undo_4 rfl ?_
    exact kl_lret C0 hK hP hS hq dL_undo_5 ⟨Nat.le_of_ble_eq_true rfl, Nat.le_of_ble_eq_true rfl⟩
def kw_L_gap (σ : ka_S) (v1 : Int32) (Q : Int64 → ka_S → Prop) : Prop := kw_X8_gap σ v1 (fun r σ1 => Q r.toInt64 σ1) (fun j σ1 => match j with | 0 => Q (-9000000000000000002 : Int64) σ1 | 1 => False | _ => False)
def rm_L_gap : Room := { frames := 8, cells := 1, slots := 6, locals := 124 }
set_option maxHeartbeats 4000000 in
set_option maxRecDepth 100000 in
theorem km_L_gap (l : Launch) (hl0 : l.stackTraces = false) {G : ka_G} (hI : ka_I G) {σ : ka_S} {v1 : Int32} {Q : Int64 → ka_S → Prop} (hq : kw_L_gap σ v1 Q) : kd_l l yL_gap (kw_W yL_gap cL_gap 3 [(0, 6, 7, 15)]) rm_L_gap 1 6 G [.ref (ka_a G (22, 0, 0)), .int v1] σ Q := by
  refine kl_of rfl (by decide) (Nat.le_of_ble_eq_true rfl) ?_
  intro p e s m below meth c C0 hK hT hN htab H locs hP hS ls hl
  obtain ⟨hx, hb, -, hml, hown, hts, -⟩ := id C0
  have hl : lv_has ls 3 [(0, .ref (ka_a G (22, 0, 0))), (1, .int v1)] := hl
  unfold kw_L_gap at hq
  refine lv_aload_n hx hb dL_gap_0 rfl (lv_at hl 0 rfl) ?_
  refine lv_iload_n hx hb dL_gap_1 rfl (lv_at hl 1 rfl) ?_
  refine kl_V (k := (22, 0, 0)) (As := [.int v1]) (rest := []) C0 hK hT hP hS hl (km_X8_gap l hl0 hI hq) kd_X8_gap kq_639 (kv_s (by decide) (by decide)) rfl rfl rfl ⟨rfl, rfl, Nat.le_of_ble_eq_true rfl, Nat.le_of_ble_eq_true rfl⟩ rfl (Nat.le_of_ble_eq_true rfl) dL_gap_2 ⟨Nat.le_of_ble_eq_true rfl, Nat.le_of_ble_eq_true rfl⟩ (fun j ce q9 σ1 H locs hj hP hS hce hcv hcl => ?_) (fun r σ1 H locs hq hP hS => ?_)
  · match j, hj, hcl with
    | 0, hj, hcl =>
      refine vx_catch (own := "GlossRowsLaw") (name := ka_E 0) (E := ka_E 0) hown [] ⟨0, 6, 7, 15⟩ [] (by rw [htab]; rfl) (fun z hz => absurd hz List.not_mem_nil) (by decide) (by decide) (hts _ kq_481) (va_Nw.use rfl (hT.2.2.1 (Cond.castable (ka_E 0) (ka_E 0)) (List.mem_of_getElem? (i := 5) rfl))) hce hcv hcl ?_
      refine lv_astore_n (lv' := [(2, .ref q9), (0, .ref (ka_a G (22, 0, 0))), (1, .int v1)]) hx hb dL_gap_7 rfl hl (by decide) rfl (fun ls hl => ?_)
      refine lv_ldc2 hx hb hown (hts _ kq_558) dL_gap_8 ?_
      exact kl_lret C0 hK hP hS hj dL_gap_11 ⟨Nat.le_of_ble_eq_true rfl, Nat.le_of_ble_eq_true rfl⟩
    | 1, hj, hcl => exact absurd hj (fun h => h)
    | n + 2, hj, hcl => exact absurd hj (fun h => h)
  · refine lv_i2l hx hb dL_gap_5 rfl ?_
    exact kl_lret C0 hK hP hS hq dL_gap_6 ⟨Nat.le_of_ble_eq_true rfl, Nat.le_of_ble_eq_true rfl⟩
def kw_L_widthFor (σ : ka_S) (v1 : Int32) (Q : Int64 → ka_S → Prop) : Prop := kw_X8_widthFor σ v1 (fun r σ1 => Q r.toInt64 σ1) (fun j σ1 => match j with | 0 => Q (-9000000000000000002 : Int64) σ1 | 1 => False | _ => False)
def rm_L_widthFor : Room := { frames := 7, cells := 1, slots := 6, locals := 137 }
set_option maxHeartbeats 4000000 in
set_option maxRecDepth 100000 in
theorem km_L_widthFor (l : Launch) (hl0 : l.stackTraces = false) {G : ka_G} (hI : ka_I G) {σ : ka_S} {v1 : Int32} {Q : Int64 → ka_S → Prop} (hq : kw_L_widthFor σ v1 Q) : kd_l l yL_widthFor (kw_W yL_widthFor cL_widthFor 3 [(0, 6, 7, 15)]) rm_L_widthFor 1 6 G [.ref (ka_a G (22, 0, 0)), .int v1] σ Q := by
  refine kl_of rfl (by decide) (Nat.le_of_ble_eq_true rfl) ?_
  intro p e s m below meth c C0 hK hT hN htab H locs hP hS ls hl
  obtain ⟨hx, hb, -, hml, hown, hts, -⟩ := id C0
  have hl : lv_has ls 3 [(0, .ref (ka_a G (22, 0, 0))), (1, .int v1)] := hl
  unfold kw_L_widthFor at hq
  refine lv_aload_n hx hb dL_widthFor_0 rfl (lv_at hl 0 rfl) ?_
  refine lv_iload_n hx hb dL_widthFor_1 rfl (lv_at hl 1 rfl) ?_
  refine kl_V (k := (22, 0, 0)) (As := [.int v1]) (rest := []) C0 hK hT hP hS hl (km_X8_widthFor l hl0 hI hq) kd_X8_widthFor kq_662 (kv_s (by decide) (by decide)) rfl rfl rfl ⟨rfl, rfl, Nat.le_of_ble_eq_true rfl, Nat.le_of_ble_eq_true rfl⟩ rfl (Nat.le_of_ble_eq_true rfl) dL_widthFor_2 ⟨Nat.le_of_ble_eq_true rfl, Nat.le_of_ble_eq_true rfl⟩ (fun j ce q9 σ1 H locs hj hP hS hce hcv hcl => ?_) (fun r σ1 H locs hq hP hS => ?_)
  · match j, hj, hcl with
    | 0, hj, hcl =>
      refine vx_catch (own := "GlossRowsLaw") (name := ka_E 0) (E := ka_E 0) hown [] ⟨0, 6, 7, 15⟩ [] (by rw [htab]; rfl) (fun z hz => absurd hz List.not_mem_nil) (by decide) (by decide) (hts _ kq_481) (va_Nw.use rfl (hT.2.2.1 (Cond.castable (ka_E 0) (ka_E 0)) (List.mem_of_getElem? (i := 5) rfl))) hce hcv hcl ?_
      refine lv_astore_n (lv' := [(2, .ref q9), (0, .ref (ka_a G (22, 0, 0))), (1, .int v1)]) hx hb dL_widthFor_7 rfl hl (by decide) rfl (fun ls hl => ?_)
      refine lv_ldc2 hx hb hown (hts _ kq_558) dL_widthFor_8 ?_
      exact kl_lret C0 hK hP hS hj dL_widthFor_11 ⟨Nat.le_of_ble_eq_true rfl, Nat.le_of_ble_eq_true rfl⟩
    | 1, hj, hcl => exact absurd hj (fun h => h)
    | n + 2, hj, hcl => exact absurd hj (fun h => h)
  · refine lv_i2l hx hb dL_widthFor_5 rfl ?_
    exact kl_lret C0 hK hP hS hq dL_widthFor_6 ⟨Nat.le_of_ble_eq_true rfl, Nat.le_of_ble_eq_true rfl⟩
def kw_L_rowsWith (σ : ka_S) (v1 : Int32) (v2 : Int32) (Q : Int64 → ka_S → Prop) : Prop := kw_X8_rowsWith σ v1 v2 (fun r σ1 => Q r.toInt64 σ1) (fun j σ1 => match j with | 0 => Q (-9000000000000000002 : Int64) σ1 | 1 => False | _ => False)
def rm_L_rowsWith : Room := { frames := 7, cells := 1, slots := 6, locals := 137 }
set_option maxHeartbeats 4000000 in
set_option maxRecDepth 100000 in
theorem km_L_rowsWith (l : Launch) (hl0 : l.stackTraces = false) {G : ka_G} (hI : ka_I G) {σ : ka_S} {v1 : Int32} {v2 : Int32} {Q : Int64 → ka_S → Prop} (hq : kw_L_rowsWith σ v1 v2 Q) : kd_l l yL_rowsWith (kw_W yL_rowsWith cL_rowsWith 4 [(0, 7, 8, 15)]) rm_L_rowsWith 1 6 G [.ref (ka_a G (22, 0, 0)), .int v1, .int v2] σ Q := by
  refine kl_of rfl (by decide) (Nat.le_of_ble_eq_true rfl) ?_
  intro p e s m below meth c C0 hK hT hN htab H locs hP hS ls hl
  obtain ⟨hx, hb, -, hml, hown, hts, -⟩ := id C0
  have hl : lv_has ls 4 [(0, .ref (ka_a G (22, 0, 0))), (1, .int v1), (2, .int v2)] := hl
  unfold kw_L_rowsWith at hq
  refine lv_aload_n hx hb dL_rowsWith_0 rfl (lv_at hl 0 rfl) ?_
  refine lv_iload_n hx hb dL_rowsWith_1 rfl (lv_at hl 1 rfl) ?_
  refine lv_iload_n hx hb dL_rowsWith_2 rfl (lv_at hl 2 rfl) ?_
  refine kl_V (k := (22, 0, 0)) (As := [.int v1, .int v2]) (rest := []) C0 hK hT hP hS hl (km_X8_rowsWith l hl0 hI hq) kd_X8_rowsWith kq_679 (kv_s (by decide) (by decide)) rfl rfl rfl ⟨rfl, rfl, Nat.le_of_ble_eq_true rfl, Nat.le_of_ble_eq_true rfl⟩ rfl (Nat.le_of_ble_eq_true rfl) dL_rowsWith_3 ⟨Nat.le_of_ble_eq_true rfl, Nat.le_of_ble_eq_true rfl⟩ (fun j ce q9 σ1 H locs hj hP hS hce hcv hcl => ?_) (fun r σ1 H locs hq hP hS => ?_)
  · match j, hj, hcl with
    | 0, hj, hcl =>
      refine vx_catch (own := "GlossRowsLaw") (name := ka_E 0) (E := ka_E 0) hown [] ⟨0, 7, 8, 15⟩ [] (by rw [htab]; rfl) (fun z hz => absurd hz List.not_mem_nil) (by decide) (by decide) (hts _ kq_481) (va_Nw.use rfl (hT.2.2.1 (Cond.castable (ka_E 0) (ka_E 0)) (List.mem_of_getElem? (i := 5) rfl))) hce hcv hcl ?_
      refine lv_astore_n (lv' := [(3, .ref q9), (0, .ref (ka_a G (22, 0, 0))), (1, .int v1), (2, .int v2)]) hx hb dL_rowsWith_8 rfl hl (by decide) rfl (fun ls hl => ?_)
      refine lv_ldc2 hx hb hown (hts _ kq_558) dL_rowsWith_9 ?_
      exact kl_lret C0 hK hP hS hj dL_rowsWith_12 ⟨Nat.le_of_ble_eq_true rfl, Nat.le_of_ble_eq_true rfl⟩
    | 1, hj, hcl => exact absurd hj (fun h => h)
    | n + 2, hj, hcl => exact absurd hj (fun h => h)
  · refine lv_i2l hx hb dL_rowsWith_6 rfl ?_
    exact kl_lret C0 hK hP hS hq dL_rowsWith_7 ⟨Nat.le_of_ble_eq_true rfl, Nat.le_of_ble_eq_true rfl⟩
def kw_L_script (σ : ka_S) (v1 : Int32) (v2 : Int64) (Q : Int64 → ka_S → Prop) : Prop := kw_X8_runScript σ v1 v2 (fun r σ1 => Q r.toInt64 σ1) (fun j σ1 => match j with | 0 => Q (-9000000000000000002 : Int64) σ1 | 1 => False | _ => False)
def rm_L_script : Room := { frames := 8, cells := 1, slots := 6, locals := 184 }
set_option maxHeartbeats 4000000 in
set_option maxRecDepth 100000 in
theorem km_L_script (l : Launch) (hl0 : l.stackTraces = false) {G : ka_G} (hI : ka_I G) {σ : ka_S} {v1 : Int32} {v2 : Int64} {Q : Int64 → ka_S → Prop} (hq : kw_L_script σ v1 v2 Q) : kd_l l yL_script (kw_W yL_script cL_script 5 [(0, 7, 8, 15)]) rm_L_script 1 6 G [.ref (ka_a G (22, 0, 0)), .int v1, .long v2] σ Q := by
  refine kl_of rfl (by decide) (Nat.le_of_ble_eq_true rfl) ?_
  intro p e s m below meth c C0 hK hT hN htab H locs hP hS ls hl
  obtain ⟨hx, hb, -, hml, hown, hts, -⟩ := id C0
  have hl : lv_has ls 5 [(0, .ref (ka_a G (22, 0, 0))), (1, .int v1), (2, .long v2)] := hl
  unfold kw_L_script at hq
  refine lv_aload_n hx hb dL_script_0 rfl (lv_at hl 0 rfl) ?_
  refine lv_iload_n hx hb dL_script_1 rfl (lv_at hl 1 rfl) ?_
  refine lv_lload_n hx hb dL_script_2 rfl (lv_at hl 2 rfl) ?_
  refine kl_V (k := (22, 0, 0)) (As := [.int v1, .long v2]) (rest := []) C0 hK hT hP hS hl (km_X8_runScript l hl0 hI hq) kd_X8_runScript kq_749 (kv_s (by decide) (by decide)) rfl rfl rfl ⟨rfl, rfl, Nat.le_of_ble_eq_true rfl, Nat.le_of_ble_eq_true rfl⟩ rfl (Nat.le_of_ble_eq_true rfl) dL_script_3 ⟨Nat.le_of_ble_eq_true rfl, Nat.le_of_ble_eq_true rfl⟩ (fun j ce q9 σ1 H locs hj hP hS hce hcv hcl => ?_) (fun r σ1 H locs hq hP hS => ?_)
  · match j, hj, hcl with
    | 0, hj, hcl =>
      refine vx_catch (own := "GlossRowsLaw") (name := ka_E 0) (E := ka_E 0) hown [] ⟨0, 7, 8, 15⟩ [] (by rw [htab]; rfl) (fun z hz => absurd hz List.not_mem_nil) (by decide) (by decide) (hts _ kq_481) (va_Nw.use rfl (hT.2.2.1 (Cond.castable (ka_E 0) (ka_E 0)) (List.mem_of_getElem? (i := 5) rfl))) hce hcv hcl ?_
      refine lv_astore (lv' := [(4, .ref q9), (0, .ref (ka_a G (22, 0, 0))), (1, .int v1), (2, .long v2)]) hx hb dL_script_8 hl (by decide) rfl (fun ls hl => ?_)
      refine lv_ldc2 hx hb hown (hts _ kq_558) dL_script_10 ?_
      exact kl_lret C0 hK hP hS hj dL_script_13 ⟨Nat.le_of_ble_eq_true rfl, Nat.le_of_ble_eq_true rfl⟩
    | 1, hj, hcl => exact absurd hj (fun h => h)
    | n + 2, hj, hcl => exact absurd hj (fun h => h)
  · refine lv_i2l hx hb dL_script_6 rfl ?_
    exact kl_lret C0 hK hP hS hq dL_script_7 ⟨Nat.le_of_ble_eq_true rfl, Nat.le_of_ble_eq_true rfl⟩
def kw_L_simulate (σ : ka_S) (v1 : Int64) (v3 : Int32) (Q : Int64 → ka_S → Prop) : Prop := kw_X8_simulate σ v1 v3 (fun r σ1 => Q r.toInt64 σ1) (fun j σ1 => match j with | 0 => Q (-9000000000000000002 : Int64) σ1 | 1 => False | _ => False)
def rm_L_simulate : Room := { frames := 7, cells := 1, slots := 6, locals := 163 }
set_option maxHeartbeats 4000000 in
set_option maxRecDepth 100000 in
theorem km_L_simulate (l : Launch) (hl0 : l.stackTraces = false) {G : ka_G} (hI : ka_I G) {σ : ka_S} {v1 : Int64} {v3 : Int32} {Q : Int64 → ka_S → Prop} (hq : kw_L_simulate σ v1 v3 Q) : kd_l l yL_simulate (kw_W yL_simulate cL_simulate 5 [(0, 7, 8, 15)]) rm_L_simulate 1 6 G [.ref (ka_a G (22, 0, 0)), .long v1, .int v3] σ Q := by
  refine kl_of rfl (by decide) (Nat.le_of_ble_eq_true rfl) ?_
  intro p e s m below meth c C0 hK hT hN htab H locs hP hS ls hl
  obtain ⟨hx, hb, -, hml, hown, hts, -⟩ := id C0
  have hl : lv_has ls 5 [(0, .ref (ka_a G (22, 0, 0))), (1, .long v1), (3, .int v3)] := hl
  unfold kw_L_simulate at hq
  refine lv_aload_n hx hb dL_simulate_0 rfl (lv_at hl 0 rfl) ?_
  refine lv_lload_n hx hb dL_simulate_1 rfl (lv_at hl 1 rfl) ?_
  refine lv_iload_n hx hb dL_simulate_2 rfl (lv_at hl 2 rfl) ?_
  refine kl_V (k := (22, 0, 0)) (As := [.long v1, .int v3]) (rest := []) C0 hK hT hP hS hl (km_X8_simulate l hl0 hI hq) kd_X8_simulate kq_821 (kv_s (by decide) (by decide)) rfl rfl rfl ⟨rfl, rfl, Nat.le_of_ble_eq_true rfl, Nat.le_of_ble_eq_true rfl⟩ rfl (Nat.le_of_ble_eq_true rfl) dL_simulate_3 ⟨Nat.le_of_ble_eq_true rfl, Nat.le_of_ble_eq_true rfl⟩ (fun j ce q9 σ1 H locs hj hP hS hce hcv hcl => ?_) (fun r σ1 H locs hq hP hS => ?_)
  · match j, hj, hcl with
    | 0, hj, hcl =>
      refine vx_catch (own := "GlossRowsLaw") (name := ka_E 0) (E := ka_E 0) hown [] ⟨0, 7, 8, 15⟩ [] (by rw [htab]; rfl) (fun z hz => absurd hz List.not_mem_nil) (by decide) (by decide) (hts _ kq_481) (va_Nw.use rfl (hT.2.2.1 (Cond.castable (ka_E 0) (ka_E 0)) (List.mem_of_getElem? (i := 5) rfl))) hce hcv hcl ?_
      refine lv_astore (lv' := [(4, .ref q9), (0, .ref (ka_a G (22, 0, 0))), (1, .long v1), (3, .int v3)]) hx hb dL_simulate_8 hl (by decide) rfl (fun ls hl => ?_)
      refine lv_ldc2 hx hb hown (hts _ kq_558) dL_simulate_10 ?_
      exact kl_lret C0 hK hP hS hj dL_simulate_13 ⟨Nat.le_of_ble_eq_true rfl, Nat.le_of_ble_eq_true rfl⟩
    | 1, hj, hcl => exact absurd hj (fun h => h)
    | n + 2, hj, hcl => exact absurd hj (fun h => h)
  · refine lv_i2l hx hb dL_simulate_6 rfl ?_
    exact kl_lret C0 hK hP hS hq dL_simulate_7 ⟨Nat.le_of_ble_eq_true rfl, Nat.le_of_ble_eq_true rfl⟩
def kw_L_save (σ : ka_S) (v1 : Int32) (Q : Int64 → ka_S → Prop) : Prop := kw_X8_save σ v1 (fun r σ1 => Q r.toInt64 σ1) (fun j σ1 => match j with | 0 => False | 1 => False | _ => Q (-9000000000000000001 : Int64) σ1)
def rm_L_save : Room := { frames := 8, cells := 1, slots := 6, locals := 124 }
set_option maxHeartbeats 4000000 in
set_option maxRecDepth 100000 in
theorem km_L_save (l : Launch) (hl0 : l.stackTraces = false) {G : ka_G} (hI : ka_I G) {σ : ka_S} {v1 : Int32} {Q : Int64 → ka_S → Prop} (hq : kw_L_save σ v1 Q) : kd_l l yL_save (kw_W yL_save cL_save 3 [(0, 6, 7, 34)]) rm_L_save 1 6 G [.ref (ka_a G (22, 0, 0)), .int v1] σ Q := by
  refine kl_of rfl (by decide) (Nat.le_of_ble_eq_true rfl) ?_
  intro p e s m below meth c C0 hK hT hN htab H locs hP hS ls hl
  obtain ⟨hx, hb, -, hml, hown, hts, -⟩ := id C0
  have hl : lv_has ls 3 [(0, .ref (ka_a G (22, 0, 0))), (1, .int v1)] := hl
  unfold kw_L_save at hq
  refine lv_aload_n hx hb dL_save_0 rfl (lv_at hl 0 rfl) ?_
  refine lv_iload_n hx hb dL_save_1 rfl (lv_at hl 1 rfl) ?_
  refine kl_V (k := (22, 0, 0)) (As := [.int v1]) (rest := []) C0 hK hT hP hS hl (km_X8_save l hl0 hI hq) kd_X8_save kq_429 (kv_s (by decide) (by decide)) rfl rfl rfl ⟨rfl, rfl, Nat.le_of_ble_eq_true rfl, Nat.le_of_ble_eq_true rfl⟩ rfl (Nat.le_of_ble_eq_true rfl) dL_save_2 ⟨Nat.le_of_ble_eq_true rfl, Nat.le_of_ble_eq_true rfl⟩ (fun j ce q9 σ1 H locs hj hP hS hce hcv hcl => ?_) (fun r σ1 H locs hq hP hS => ?_)
  · match j, hj, hcl with
    | 0, hj, hcl => exact absurd hj (fun h => h)
    | 1, hj, hcl => exact absurd hj (fun h => h)
    | n + 2, hj, hcl =>
      refine vx_catch (own := "GlossRowsLaw") (name := ka_E 2) (E := ka_E 2) hown [] ⟨0, 6, 7, 34⟩ [] (by rw [htab]; rfl) (fun z hz => absurd hz List.not_mem_nil) (by decide) (by decide) (hts _ kq_428) (va_Nw.use rfl (hT.2.2.1 (Cond.castable (ka_E 2) (ka_E 2)) (List.mem_of_getElem? (i := 4) rfl))) hce hcv hcl ?_
      refine lv_astore_n (lv' := [(2, .ref q9), (0, .ref (ka_a G (22, 0, 0))), (1, .int v1)]) hx hb dL_save_7 rfl hl (by decide) rfl (fun ls hl => ?_)
      refine lv_ldc2 hx hb hown (hts _ kq_461) dL_save_8 ?_
      exact kl_lret C0 hK hP hS hj dL_save_11 ⟨Nat.le_of_ble_eq_true rfl, Nat.le_of_ble_eq_true rfl⟩
  · refine lv_i2l hx hb dL_save_5 rfl ?_
    exact kl_lret C0 hK hP hS hq dL_save_6 ⟨Nat.le_of_ble_eq_true rfl, Nat.le_of_ble_eq_true rfl⟩
def kw_L_restore (σ : ka_S) (v1 : Int32) (Q : Int64 → ka_S → Prop) : Prop := kw_X8_restore σ v1 (fun r σ1 => Q r.toInt64 σ1) (fun j σ1 => match j with | 0 => False | 1 => Q (-9000000000000000003 : Int64) σ1 | _ => Q (-9000000000000000001 : Int64) σ1)
def rm_L_restore : Room := { frames := 8, cells := 2, slots := 12, locals := 124 }
set_option maxHeartbeats 4000000 in
set_option maxRecDepth 100000 in
theorem km_L_restore (l : Launch) (hl0 : l.stackTraces = false) {G : ka_G} (hI : ka_I G) {σ : ka_S} {v1 : Int32} {Q : Int64 → ka_S → Prop} (hq : kw_L_restore σ v1 Q) : kd_l l yL_restore (kw_W yL_restore cL_restore 3 [(0, 6, 7, 34), (0, 6, 12, 19)]) rm_L_restore 2 12 G [.ref (ka_a G (22, 0, 0)), .int v1] σ Q := by
  refine kl_of rfl (by decide) (Nat.le_of_ble_eq_true rfl) ?_
  intro p e s m below meth c C0 hK hT hN htab H locs hP hS ls hl
  obtain ⟨hx, hb, -, hml, hown, hts, -⟩ := id C0
  have hl : lv_has ls 3 [(0, .ref (ka_a G (22, 0, 0))), (1, .int v1)] := hl
  unfold kw_L_restore at hq
  refine lv_aload_n hx hb dL_restore_0 rfl (lv_at hl 0 rfl) ?_
  refine lv_iload_n hx hb dL_restore_1 rfl (lv_at hl 1 rfl) ?_
  refine kl_V (k := (22, 0, 0)) (As := [.int v1]) (rest := []) C0 hK hT hP hS hl (km_X8_restore l hl0 hI hq) kd_X8_restore kq_465 (kv_s (by decide) (by decide)) rfl rfl rfl ⟨rfl, rfl, Nat.le_of_ble_eq_true rfl, Nat.le_of_ble_eq_true rfl⟩ rfl (Nat.le_of_ble_eq_true rfl) dL_restore_2 ⟨Nat.le_of_ble_eq_true rfl, Nat.le_of_ble_eq_true rfl⟩ (fun j ce q9 σ1 H locs hj hP hS hce hcv hcl => ?_) (fun r σ1 H locs hq hP hS => ?_)
  · match j, hj, hcl with
    | 0, hj, hcl => exact absurd hj (fun h => h)
    | 1, hj, hcl =>
      refine vx_catch (own := "GlossRowsLaw") (name := ka_E 1) (E := ka_E 1) hown [⟨0, 6, 7, 34⟩] ⟨0, 6, 12, 19⟩ [] (by rw [htab]; rfl) (fun z hz => Or.inr (by obtain rfl := List.mem_singleton.mp hz; exact ⟨by decide, ka_E 2, hts _ kq_428, hN 1 (by decide) 2 (by decide) (by decide)⟩)) (by decide) (by decide) (hts _ kq_265) (va_Nw.use rfl (hT.2.2.1 (Cond.castable (ka_E 1) (ka_E 1)) (List.mem_of_getElem? (i := 0) rfl))) hce hcv hcl ?_
      refine lv_astore_n (lv' := [(2, .ref q9), (0, .ref (ka_a G (22, 0, 0))), (1, .int v1)]) hx hb dL_restore_12 rfl hl (by decide) rfl (fun ls hl => ?_)
      refine lv_ldc2 hx hb hown (hts _ kq_424) dL_restore_13 ?_
      exact kl_lret C0 hK hP hS hj dL_restore_16 ⟨Nat.le_of_ble_eq_true rfl, Nat.le_of_ble_eq_true rfl⟩
    | n + 2, hj, hcl =>
      refine vx_catch (own := "GlossRowsLaw") (name := ka_E 2) (E := ka_E 2) hown [] ⟨0, 6, 7, 34⟩ [⟨0, 6, 12, 19⟩] (by rw [htab]; rfl) (fun z hz => absurd hz List.not_mem_nil) (by decide) (by decide) (hts _ kq_428) (va_Nw.use rfl (hT.2.2.1 (Cond.castable (ka_E 2) (ka_E 2)) (List.mem_of_getElem? (i := 4) rfl))) hce hcv hcl ?_
      refine lv_astore_n (lv' := [(2, .ref q9), (0, .ref (ka_a G (22, 0, 0))), (1, .int v1)]) hx hb dL_restore_7 rfl hl (by decide) rfl (fun ls hl => ?_)
      refine lv_ldc2 hx hb hown (hts _ kq_461) dL_restore_8 ?_
      exact kl_lret C0 hK hP hS hj dL_restore_11 ⟨Nat.le_of_ble_eq_true rfl, Nat.le_of_ble_eq_true rfl⟩
  · refine lv_i2l hx hb dL_restore_5 rfl ?_
    exact kl_lret C0 hK hP hS hq dL_restore_6 ⟨Nat.le_of_ble_eq_true rfl, Nat.le_of_ble_eq_true rfl⟩
def kw0_L_append (σ : ka_S) (v1 : Int32) (Q : Int64 → ka_S → Prop) : Prop := kw_X8_append σ v1 (fun r σ1 => Q r.toInt64 σ1) (fun _ _ => False)
def rm0_L_append : Room := { frames := 7, cells := 0, slots := 0, locals := 103 }
set_option maxHeartbeats 4000000 in
set_option maxRecDepth 100000 in
theorem km0_L_append (l : Launch) (hl0 : l.stackTraces = false) {G : ka_G} (hI : ka_I G) {σ : ka_S} {v1 : Int32} {Q : Int64 → ka_S → Prop} (hq : kw0_L_append σ v1 Q) : kd_l l yL_append (kw_W yL_append cL_append 3 [(0, 6, 7, 15), (0, 6, 12, 19)]) rm0_L_append 0 0 G [.ref (ka_a G (22, 0, 0)), .int v1] σ Q := by
  refine kl_of rfl (by decide) (Nat.le_of_ble_eq_true rfl) ?_
  intro p e s m below meth c C0 hK hT hN htab H locs hP hS ls hl
  obtain ⟨hx, hb, -, hml, hown, hts, -⟩ := id C0
  have hl : lv_has ls 3 [(0, .ref (ka_a G (22, 0, 0))), (1, .int v1)] := hl
  unfold kw0_L_append at hq
  refine lv_aload_n hx hb dL_append_0 rfl (lv_at hl 0 rfl) ?_
  refine lv_iload_n hx hb dL_append_1 rfl (lv_at hl 1 rfl) ?_
  refine kl_V (k := (22, 0, 0)) (As := [.int v1]) (rest := []) C0 hK hT hP hS hl (km0_X8_append l hl0 hI hq) kd_X8_append kq_843 (kv_s (by decide) (by decide)) rfl rfl rfl ⟨rfl, rfl, Nat.le_of_ble_eq_true rfl, Nat.le_of_ble_eq_true rfl⟩ rfl (Nat.le_of_ble_eq_true rfl) dL_append_2 ⟨Nat.le_of_ble_eq_true rfl, Nat.le_of_ble_eq_true rfl⟩ (fun j ce q9 σ1 H locs hj hP hS hce hcv hcl => ?_) (fun r σ1 H locs hq hP hS => ?_)
  · exact False.elim hj
  · refine lv_i2l hx hb dL_append_5 rfl ?_
    exact kl_lret C0 hK hP hS hq dL_append_6 ⟨Nat.le_of_ble_eq_true rfl, Nat.le_of_ble_eq_true rfl⟩
def kw0_L_load (σ : ka_S) (Q : Int64 → ka_S → Prop) : Prop := kw_X8_load σ (fun r σ1 => Q r.toInt64 σ1) (fun _ _ => False)
def rm0_L_load : Room := { frames := 7, cells := 0, slots := 0, locals := 145 }
set_option maxHeartbeats 4000000 in
set_option maxRecDepth 100000 in
theorem km0_L_load (l : Launch) (hl0 : l.stackTraces = false) {G : ka_G} (hI : ka_I G) {σ : ka_S} {Q : Int64 → ka_S → Prop} (hq : kw0_L_load σ Q) : kd_l l yL_load (kw_W yL_load cL_load 2 [(0, 5, 6, 19)]) rm0_L_load 0 0 G [.ref (ka_a G (22, 0, 0))] σ Q := by
  refine kl_of rfl (by decide) (Nat.le_of_ble_eq_true rfl) ?_
  intro p e s m below meth c C0 hK hT hN htab H locs hP hS ls hl
  obtain ⟨hx, hb, -, hml, hown, hts, -⟩ := id C0
  have hl : lv_has ls 2 [(0, .ref (ka_a G (22, 0, 0)))] := hl
  unfold kw0_L_load at hq
  refine lv_aload_n hx hb dL_load_0 rfl (lv_at hl 0 rfl) ?_
  refine kl_V (k := (22, 0, 0)) (As := []) (rest := []) C0 hK hT hP hS hl (km0_X8_load l hl0 hI hq) kd_X8_load kq_266 (kv_s (by decide) (by decide)) rfl rfl rfl ⟨rfl, rfl, Nat.le_of_ble_eq_true rfl, Nat.le_of_ble_eq_true rfl⟩ rfl (Nat.le_of_ble_eq_true rfl) dL_load_1 ⟨Nat.le_of_ble_eq_true rfl, Nat.le_of_ble_eq_true rfl⟩ (fun j ce q9 σ1 H locs hj hP hS hce hcv hcl => ?_) (fun r σ1 H locs hq hP hS => ?_)
  · exact False.elim hj
  · refine lv_i2l hx hb dL_load_4 rfl ?_
    exact kl_lret C0 hK hP hS hq dL_load_5 ⟨Nat.le_of_ble_eq_true rfl, Nat.le_of_ble_eq_true rfl⟩
def kw0_L_about (σ : ka_S) (v1 : Int32) (Q : Int64 → ka_S → Prop) : Prop := kw_X8_about σ v1 (fun r σ1 => Q r.toInt64 σ1) (fun _ _ => False)
def rm0_L_about : Room := { frames := 7, cells := 0, slots := 0, locals := 157 }
set_option maxHeartbeats 4000000 in
set_option maxRecDepth 100000 in
theorem km0_L_about (l : Launch) (hl0 : l.stackTraces = false) {G : ka_G} (hI : ka_I G) {σ : ka_S} {v1 : Int32} {Q : Int64 → ka_S → Prop} (hq : kw0_L_about σ v1 Q) : kd_l l yL_about (kw_W yL_about cL_about 3 [(0, 6, 7, 15)]) rm0_L_about 0 0 G [.ref (ka_a G (22, 0, 0)), .int v1] σ Q := by
  refine kl_of rfl (by decide) (Nat.le_of_ble_eq_true rfl) ?_
  intro p e s m below meth c C0 hK hT hN htab H locs hP hS ls hl
  obtain ⟨hx, hb, -, hml, hown, hts, -⟩ := id C0
  have hl : lv_has ls 3 [(0, .ref (ka_a G (22, 0, 0))), (1, .int v1)] := hl
  unfold kw0_L_about at hq
  refine lv_aload_n hx hb dL_about_0 rfl (lv_at hl 0 rfl) ?_
  refine lv_iload_n hx hb dL_about_1 rfl (lv_at hl 1 rfl) ?_
  refine kl_V (k := (22, 0, 0)) (As := [.int v1]) (rest := []) C0 hK hT hP hS hl (km0_X8_about l hl0 hI hq) kd_X8_about kq_482 (kv_s (by decide) (by decide)) rfl rfl rfl ⟨rfl, rfl, Nat.le_of_ble_eq_true rfl, Nat.le_of_ble_eq_true rfl⟩ rfl (Nat.le_of_ble_eq_true rfl) dL_about_2 ⟨Nat.le_of_ble_eq_true rfl, Nat.le_of_ble_eq_true rfl⟩ (fun j ce q9 σ1 H locs hj hP hS hce hcv hcl => ?_) (fun r σ1 H locs hq hP hS => ?_)
  · exact False.elim hj
  · refine lv_i2l hx hb dL_about_5 rfl ?_
    exact kl_lret C0 hK hP hS hq dL_about_6 ⟨Nat.le_of_ble_eq_true rfl, Nat.le_of_ble_eq_true rfl⟩
def kw0_L_word (σ : ka_S) (v1 : Int32) (v2 : Int32) (Q : Int64 → ka_S → Prop) : Prop := kw_X8_word σ v1 v2 (fun r σ1 => Q r.toInt64 σ1) (fun _ _ => False)
def rm0_L_word : Room := { frames := 8, cells := 0, slots := 0, locals := 158 }
set_option maxHeartbeats 4000000 in
set_option maxRecDepth 100000 in
theorem km0_L_word (l : Launch) (hl0 : l.stackTraces = false) {G : ka_G} (hI : ka_I G) {σ : ka_S} {v1 : Int32} {v2 : Int32} {Q : Int64 → ka_S → Prop} (hq : kw0_L_word σ v1 v2 Q) : kd_l l yL_word (kw_W yL_word cL_word 4 [(0, 7, 8, 34), (0, 7, 13, 15)]) rm0_L_word 0 0 G [.ref (ka_a G (22, 0, 0)), .int v1, .int v2] σ Q := by
  refine kl_of rfl (by decide) (Nat.le_of_ble_eq_true rfl) ?_
  intro p e s m below meth c C0 hK hT hN htab H locs hP hS ls hl
  obtain ⟨hx, hb, -, hml, hown, hts, -⟩ := id C0
  have hl : lv_has ls 4 [(0, .ref (ka_a G (22, 0, 0))), (1, .int v1), (2, .int v2)] := hl
  unfold kw0_L_word at hq
  refine lv_aload_n hx hb dL_word_0 rfl (lv_at hl 0 rfl) ?_
  refine lv_iload_n hx hb dL_word_1 rfl (lv_at hl 1 rfl) ?_
  refine lv_iload_n hx hb dL_word_2 rfl (lv_at hl 2 rfl) ?_
  refine kl_V (k := (22, 0, 0)) (As := [.int v1, .int v2]) (rest := []) C0 hK hT hP hS hl (km0_X8_word l hl0 hI hq) kd_X8_word kq_566 (kv_s (by decide) (by decide)) rfl rfl rfl ⟨rfl, rfl, Nat.le_of_ble_eq_true rfl, Nat.le_of_ble_eq_true rfl⟩ rfl (Nat.le_of_ble_eq_true rfl) dL_word_3 ⟨Nat.le_of_ble_eq_true rfl, Nat.le_of_ble_eq_true rfl⟩ (fun j ce q9 σ1 H locs hj hP hS hce hcv hcl => ?_) (fun r σ1 H locs hq hP hS => ?_)
  · exact False.elim hj
  · refine lv_i2l hx hb dL_word_6 rfl ?_
    exact kl_lret C0 hK hP hS hq dL_word_7 ⟨Nat.le_of_ble_eq_true rfl, Nat.le_of_ble_eq_true rfl⟩
def kw0_L_part (σ : ka_S) (v1 : Int32) (v2 : Int32) (v3 : Int32) (Q : Int64 → ka_S → Prop) : Prop := kw_X8_part σ v1 v2 v3 (fun r σ1 => Q r.toInt64 σ1) (fun _ _ => False)
def rm0_L_part : Room := { frames := 8, cells := 0, slots := 0, locals := 127 }
set_option maxHeartbeats 4000000 in
set_option maxRecDepth 100000 in
theorem km0_L_part (l : Launch) (hl0 : l.stackTraces = false) {G : ka_G} (hI : ka_I G) {σ : ka_S} {v1 : Int32} {v2 : Int32} {v3 : Int32} {Q : Int64 → ka_S → Prop} (hq : kw0_L_part σ v1 v2 v3 Q) : kd_l l yL_part (kw_W yL_part cL_part 5 [(0, 8, 9, 34), (0, 8, 15, 15)]) rm0_L_part 0 0 G [.ref (ka_a G (22, 0, 0)), .int v1, .int v2, .int v3] σ Q := by
  refine kl_of rfl (by decide) (Nat.le_of_ble_eq_true rfl) ?_
  intro p e s m below meth c C0 hK hT hN htab H locs hP hS ls hl
  obtain ⟨hx, hb, -, hml, hown, hts, -⟩ := id C0
  have hl : lv_has ls 5 [(0, .ref (ka_a G (22, 0, 0))), (1, .int v1), (2, .int v2), (3, .int v3)] := hl
  unfold kw0_L_part at hq
  refine lv_aload_n hx hb dL_part_0 rfl (lv_at hl 0 rfl) ?_
  refine lv_iload_n hx hb dL_part_1 rfl (lv_at hl 1 rfl) ?_
  refine lv_iload_n hx hb dL_part_2 rfl (lv_at hl 2 rfl) ?_
  refine lv_iload_n hx hb dL_part_3 rfl (lv_at hl 3 rfl) ?_
  refine kl_V (k := (22, 0, 0)) (As := [.int v1, .int v2, .int v3]) (rest := []) C0 hK hT hP hS hl (km0_X8_part l hl0 hI hq) kd_X8_part kq_612 (kv_s (by decide) (by decide)) rfl rfl rfl ⟨rfl, rfl, Nat.le_of_ble_eq_true rfl, Nat.le_of_ble_eq_true rfl⟩ rfl (Nat.le_of_ble_eq_true rfl) dL_part_4 ⟨Nat.le_of_ble_eq_true rfl, Nat.le_of_ble_eq_true rfl⟩ (fun j ce q9 σ1 H locs hj hP hS hce hcv hcl => ?_) (fun r σ1 H locs hq hP hS => ?_)
  · exact False.elim hj
  · refine lv_i2l hx hb dL_part_7 rfl ?_
    exact kl_lret C0 hK hP hS hq dL_part_8 ⟨Nat.le_of_ble_eq_true rfl, Nat.le_of_ble_eq_true rfl⟩
def kw0_L_letter (σ : ka_S) (v1 : Int32) (v2 : Int32) (v3 : Int32) (v4 : Int32) (Q : Int64 → ka_S → Prop) : Prop := kw_X8_letter σ v1 v2 v3 v4 (fun r σ1 => Q r.toInt64 σ1) (fun _ _ => False)
def rm0_L_letter : Room := { frames := 8, cells := 0, slots := 0, locals := 128 }
set_option maxHeartbeats 4000000 in
set_option maxRecDepth 100000 in
theorem km0_L_letter (l : Launch) (hl0 : l.stackTraces = false) {G : ka_G} (hI : ka_I G) {σ : ka_S} {v1 : Int32} {v2 : Int32} {v3 : Int32} {v4 : Int32} {Q : Int64 → ka_S → Prop} (hq : kw0_L_letter σ v1 v2 v3 v4 Q) : kd_l l yL_letter (kw_W yL_letter cL_letter 6 [(0, 10, 11, 34), (0, 10, 17, 15)]) rm0_L_letter 0 0 G [.ref (ka_a G (22, 0, 0)), .int v1, .int v2, .int v3, .int v4] σ Q := by
  refine kl_of rfl (by decide) (Nat.le_of_ble_eq_true rfl) ?_
  intro p e s m below meth c C0 hK hT hN htab H locs hP hS ls hl
  obtain ⟨hx, hb, -, hml, hown, hts, -⟩ := id C0
  have hl : lv_has ls 6 [(0, .ref (ka_a G (22, 0, 0))), (1, .int v1), (2, .int v2), (3, .int v3), (4, .int v4)] := hl
  unfold kw0_L_letter at hq
  refine lv_aload_n hx hb dL_letter_0 rfl (lv_at hl 0 rfl) ?_
  refine lv_iload_n hx hb dL_letter_1 rfl (lv_at hl 1 rfl) ?_
  refine lv_iload_n hx hb dL_letter_2 rfl (lv_at hl 2 rfl) ?_
  refine lv_iload_n hx hb dL_letter_3 rfl (lv_at hl 3 rfl) ?_
  refine lv_iload hx hb dL_letter_4 (lv_at hl 4 rfl) ?_
  refine kl_V (k := (22, 0, 0)) (As := [.int v1, .int v2, .int v3, .int v4]) (rest := []) C0 hK hT hP hS hl (km0_X8_letter l hl0 hI hq) kd_X8_letter kq_585 (kv_s (by decide) (by decide)) rfl rfl rfl ⟨rfl, rfl, Nat.le_of_ble_eq_true rfl, Nat.le_of_ble_eq_true rfl⟩ rfl (Nat.le_of_ble_eq_true rfl) dL_letter_6 ⟨Nat.le_of_ble_eq_true rfl, Nat.le_of_ble_eq_true rfl⟩ (fun j ce q9 σ1 H locs hj hP hS hce hcv hcl => ?_) (fun r σ1 H locs hq hP hS => ?_)
  · exact False.elim hj
  · refine lv_i2l hx hb dL_letter_9 rfl ?_
    exact kl_lret C0 hK hP hS hq dL_letter_10 ⟨Nat.le_of_ble_eq_true rfl, Nat.le_of_ble_eq_true rfl⟩
def kw0_L_entry (σ : ka_S) (v1 : Int32) (v2 : Int32) (v3 : Int32) (Q : Int64 → ka_S → Prop) : Prop := kw_X8_entry σ v1 v2 v3 (fun r σ1 => Q r.toInt64 σ1) (fun _ _ => False)
def rm0_L_entry : Room := { frames := 8, cells := 0, slots := 0, locals := 126 }
set_option maxHeartbeats 4000000 in
set_option maxRecDepth 100000 in
theorem km0_L_entry (l : Launch) (hl0 : l.stackTraces = false) {G : ka_G} (hI : ka_I G) {σ : ka_S} {v1 : Int32} {v2 : Int32} {v3 : Int32} {Q : Int64 → ka_S → Prop} (hq : kw0_L_entry σ v1 v2 v3 Q) : kd_l l yL_entry (kw_W yL_entry cL_entry 5 [(0, 8, 9, 34), (0, 8, 15, 15)]) rm0_L_entry 0 0 G [.ref (ka_a G (22, 0, 0)), .int v1, .int v2, .int v3] σ Q := by
  refine kl_of rfl (by decide) (Nat.le_of_ble_eq_true rfl) ?_
  intro p e s m below meth c C0 hK hT hN htab H locs hP hS ls hl
  obtain ⟨hx, hb, -, hml, hown, hts, -⟩ := id C0
  have hl : lv_has ls 5 [(0, .ref (ka_a G (22, 0, 0))), (1, .int v1), (2, .int v2), (3, .int v3)] := hl
  unfold kw0_L_entry at hq
  refine lv_aload_n hx hb dL_entry_0 rfl (lv_at hl 0 rfl) ?_
  refine lv_iload_n hx hb dL_entry_1 rfl (lv_at hl 1 rfl) ?_
  refine lv_iload_n hx hb dL_entry_2 rfl (lv_at hl 2 rfl) ?_
  refine lv_iload_n hx hb dL_entry_3 rfl (lv_at hl 3 rfl) ?_
  refine kl_V (k := (22, 0, 0)) (As := [.int v1, .int v2, .int v3]) (rest := []) C0 hK hT hP hS hl (km0_X8_entry l hl0 hI hq) kd_X8_entry kq_623 (kv_s (by decide) (by decide)) rfl rfl rfl ⟨rfl, rfl, Nat.le_of_ble_eq_true rfl, Nat.le_of_ble_eq_true rfl⟩ rfl (Nat.le_of_ble_eq_true rfl) dL_entry_4 ⟨Nat.le_of_ble_eq_true rfl, Nat.le_of_ble_eq_true rfl⟩ (fun j ce q9 σ1 H locs hj hP hS hce hcv hcl => ?_) (fun r σ1 H locs hq hP hS => ?_)
  · exact False.elim hj
  · refine lv_i2l hx hb dL_entry_7 rfl ?_
    exact kl_lret C0 hK hP hS hq dL_entry_8 ⟨Nat.le_of_ble_eq_true rfl, Nat.le_of_ble_eq_true rfl⟩
def kw0_L_row (σ : ka_S) (v1 : Int32) (v2 : Int32) (Q : Int64 → ka_S → Prop) : Prop := kw_X8_row σ v1 v2 (fun r σ1 => Q r.toInt64 σ1) (fun _ _ => False)
def rm0_L_row : Room := { frames := 8, cells := 0, slots := 0, locals := 179 }
set_option maxHeartbeats 4000000 in
set_option maxRecDepth 100000 in
theorem km0_L_row (l : Launch) (hl0 : l.stackTraces = false) {G : ka_G} (hI : ka_I G) {σ : ka_S} {v1 : Int32} {v2 : Int32} {Q : Int64 → ka_S → Prop} (hq : kw0_L_row σ v1 v2 Q) : kd_l l yL_row (kw_W yL_row cL_row 4 [(0, 7, 8, 34), (0, 7, 13, 15)]) rm0_L_row 0 0 G [.ref (ka_a G (22, 0, 0)), .int v1, .int v2] σ Q := by
  refine kl_of rfl (by decide) (Nat.le_of_ble_eq_true rfl) ?_
  intro p e s m below meth c C0 hK hT hN htab H locs hP hS ls hl
  obtain ⟨hx, hb, -, hml, hown, hts, -⟩ := id C0
  have hl : lv_has ls 4 [(0, .ref (ka_a G (22, 0, 0))), (1, .int v1), (2, .int v2)] := hl
  unfold kw0_L_row at hq
  refine lv_aload_n hx hb dL_row_0 rfl (lv_at hl 0 rfl) ?_
  refine lv_iload_n hx hb dL_row_1 rfl (lv_at hl 1 rfl) ?_
  refine lv_iload_n hx hb dL_row_2 rfl (lv_at hl 2 rfl) ?_
  refine kl_V (k := (22, 0, 0)) (As := [.int v1, .int v2]) (rest := []) C0 hK hT hP hS hl (km0_X8_row l hl0 hI hq) kd_X8_row kq_690 (kv_s (by decide) (by decide)) rfl rfl rfl ⟨rfl, rfl, Nat.le_of_ble_eq_true rfl, Nat.le_of_ble_eq_true rfl⟩ rfl (Nat.le_of_ble_eq_true rfl) dL_row_3 ⟨Nat.le_of_ble_eq_true rfl, Nat.le_of_ble_eq_true rfl⟩ (fun j ce q9 σ1 H locs hj hP hS hce hcv hcl => ?_) (fun r σ1 H locs hq hP hS => ?_)
  · exact False.elim hj
  · refine lv_i2l hx hb dL_row_6 rfl ?_
    exact kl_lret C0 hK hP hS hq dL_row_7 ⟨Nat.le_of_ble_eq_true rfl, Nat.le_of_ble_eq_true rfl⟩
def kw0_L_at (σ : ka_S) (v1 : Int32) (v2 : Int32) (Q : Int64 → ka_S → Prop) : Prop := kw_X8_at σ v1 v2 (fun r σ1 => Q r.toInt64 σ1) (fun _ _ => False)
def rm0_L_at : Room := { frames := 8, cells := 0, slots := 0, locals := 179 }
set_option maxHeartbeats 4000000 in
set_option maxRecDepth 100000 in
theorem km0_L_at (l : Launch) (hl0 : l.stackTraces = false) {G : ka_G} (hI : ka_I G) {σ : ka_S} {v1 : Int32} {v2 : Int32} {Q : Int64 → ka_S → Prop} (hq : kw0_L_at σ v1 v2 Q) : kd_l l yL_at (kw_W yL_at cL_at 4 [(0, 7, 8, 34), (0, 7, 13, 15)]) rm0_L_at 0 0 G [.ref (ka_a G (22, 0, 0)), .int v1, .int v2] σ Q := by
  refine kl_of rfl (by decide) (Nat.le_of_ble_eq_true rfl) ?_
  intro p e s m below meth c C0 hK hT hN htab H locs hP hS ls hl
  obtain ⟨hx, hb, -, hml, hown, hts, -⟩ := id C0
  have hl : lv_has ls 4 [(0, .ref (ka_a G (22, 0, 0))), (1, .int v1), (2, .int v2)] := hl
  unfold kw0_L_at at hq
  refine lv_aload_n hx hb dL_at_0 rfl (lv_at hl 0 rfl) ?_
  refine lv_iload_n hx hb dL_at_1 rfl (lv_at hl 1 rfl) ?_
  refine lv_iload_n hx hb dL_at_2 rfl (lv_at hl 2 rfl) ?_
  refine kl_V (k := (22, 0, 0)) (As := [.int v1, .int v2]) (rest := []) C0 hK hT hP hS hl (km0_X8_at l hl0 hI hq) kd_X8_at kq_727 (kv_s (by decide) (by decide)) rfl rfl rfl ⟨rfl, rfl, Nat.le_of_ble_eq_true rfl, Nat.le_of_ble_eq_true rfl⟩ rfl (Nat.le_of_ble_eq_true rfl) dL_at_3 ⟨Nat.le_of_ble_eq_true rfl, Nat.le_of_ble_eq_true rfl⟩ (fun j ce q9 σ1 H locs hj hP hS hce hcv hcl => ?_) (fun r σ1 H locs hq hP hS => ?_)
  · exact False.elim hj
  · refine lv_i2l hx hb dL_at_6 rfl ?_
    exact kl_lret C0 hK hP hS hq dL_at_7 ⟨Nat.le_of_ble_eq_true rfl, Nat.le_of_ble_eq_true rfl⟩
def kw0_L_insert (σ : ka_S) (v1 : Int32) (Q : Int64 → ka_S → Prop) : Prop := kw_X8_insert σ v1 (fun r σ1 => Q r.toInt64 σ1) (fun _ _ => False)
def rm0_L_insert : Room := { frames := 7, cells := 0, slots := 0, locals := 145 }
set_option maxHeartbeats 4000000 in
set_option maxRecDepth 100000 in
theorem km0_L_insert (l : Launch) (hl0 : l.stackTraces = false) {G : ka_G} (hI : ka_I G) {σ : ka_S} {v1 : Int32} {Q : Int64 → ka_S → Prop} (hq : kw0_L_insert σ v1 Q) : kd_l l yL_insert (kw_W yL_insert cL_insert 3 [(0, 6, 7, 34), (0, 6, 12, 19)]) rm0_L_insert 0 0 G [.ref (ka_a G (22, 0, 0)), .int v1] σ Q := by
  refine kl_of rfl (by decide) (Nat.le_of_ble_eq_true rfl) ?_
  intro p e s m below meth c C0 hK hT hN htab H locs hP hS ls hl
  obtain ⟨hx, hb, -, hml, hown, hts, -⟩ := id C0
  have hl : lv_has ls 3 [(0, .ref (ka_a G (22, 0, 0))), (1, .int v1)] := hl
  unfold kw0_L_insert at hq
  refine lv_aload_n hx hb dL_insert_0 rfl (lv_at hl 0 rfl) ?_
  refine lv_iload_n hx hb dL_insert_1 rfl (lv_at hl 1 rfl) ?_
  refine kl_V (k := (22, 0, 0)) (As := [.int v1]) (rest := []) C0 hK hT hP hS hl (km0_X8_insert l hl0 hI hq) kd_X8_insert kq_856 (kv_s (by decide) (by decide)) rfl rfl rfl ⟨rfl, rfl, Nat.le_of_ble_eq_true rfl, Nat.le_of_ble_eq_true rfl⟩ rfl (Nat.le_of_ble_eq_true rfl) dL_insert_2 ⟨Nat.le_of_ble_eq_true rfl, Nat.le_of_ble_eq_true rfl⟩ (fun j ce q9 σ1 H locs hj hP hS hce hcv hcl => ?_) (fun r σ1 H locs hq hP hS => ?_)
  · exact False.elim hj
  · refine lv_i2l hx hb dL_insert_5 rfl ?_
    exact kl_lret C0 hK hP hS hq dL_insert_6 ⟨Nat.le_of_ble_eq_true rfl, Nat.le_of_ble_eq_true rfl⟩
def kw0_L_remove (σ : ka_S) (v1 : Int32) (Q : Int64 → ka_S → Prop) : Prop := kw_X8_remove σ v1 (fun r σ1 => Q r.toInt64 σ1) (fun _ _ => False)
def rm0_L_remove : Room := { frames := 8, cells := 0, slots := 0, locals := 124 }
set_option maxHeartbeats 4000000 in
set_option maxRecDepth 100000 in
theorem km0_L_remove (l : Launch) (hl0 : l.stackTraces = false) {G : ka_G} (hI : ka_I G) {σ : ka_S} {v1 : Int32} {Q : Int64 → ka_S → Prop} (hq : kw0_L_remove σ v1 Q) : kd_l l yL_remove (kw_W yL_remove cL_remove 3 [(0, 6, 7, 34)]) rm0_L_remove 0 0 G [.ref (ka_a G (22, 0, 0)), .int v1] σ Q := by
  refine kl_of rfl (by decide) (Nat.le_of_ble_eq_true rfl) ?_
  intro p e s m below meth c C0 hK hT hN htab H locs hP hS ls hl
  obtain ⟨hx, hb, -, hml, hown, hts, -⟩ := id C0
  have hl : lv_has ls 3 [(0, .ref (ka_a G (22, 0, 0))), (1, .int v1)] := hl
  unfold kw0_L_remove at hq
  refine lv_aload_n hx hb dL_remove_0 rfl (lv_at hl 0 rfl) ?_
  refine lv_iload_n hx hb dL_remove_1 rfl (lv_at hl 1 rfl) ?_
  refine kl_V (k := (22, 0, 0)) (As := [.int v1]) (rest := []) C0 hK hT hP hS hl (km0_X8_remove l hl0 hI hq) kd_X8_remove kq_870 (kv_s (by decide) (by decide)) rfl rfl rfl ⟨rfl, rfl, Nat.le_of_ble_eq_true rfl, Nat.le_of_ble_eq_true rfl⟩ rfl (Nat.le_of_ble_eq_true rfl) dL_remove_2 ⟨Nat.le_of_ble_eq_true rfl, Nat.le_of_ble_eq_true rfl⟩ (fun j ce q9 σ1 H locs hj hP hS hce hcv hcl => ?_) (fun r σ1 H locs hq hP hS => ?_)
  · exact False.elim hj
  · refine lv_i2l hx hb dL_remove_5 rfl ?_
    exact kl_lret C0 hK hP hS hq dL_remove_6 ⟨Nat.le_of_ble_eq_true rfl, Nat.le_of_ble_eq_true rfl⟩
def kw0_L_end (σ : ka_S) (v1 : Int32) (Q : Int64 → ka_S → Prop) : Prop := kw_X8_end σ v1 (fun r σ1 => Q r.toInt64 σ1) (fun _ _ => False)
def rm0_L_end : Room := { frames := 8, cells := 0, slots := 0, locals := 124 }
set_option maxHeartbeats 4000000 in
set_option maxRecDepth 100000 in
theorem km0_L_end (l : Launch) (hl0 : l.stackTraces = false) {G : ka_G} (hI : ka_I G) {σ : ka_S} {v1 : Int32} {Q : Int64 → ka_S → Prop} (hq : kw0_L_end σ v1 Q) : kd_l l yL_end (kw_W yL_end cL_end 3 [(0, 6, 7, 34)]) rm0_L_end 0 0 G [.ref (ka_a G (22, 0, 0)), .int v1] σ Q := by
  refine kl_of rfl (by decide) (Nat.le_of_ble_eq_true rfl) ?_
  intro p e s m below meth c C0 hK hT hN htab H locs hP hS ls hl
  obtain ⟨hx, hb, -, hml, hown, hts, -⟩ := id C0
  have hl : lv_has ls 3 [(0, .ref (ka_a G (22, 0, 0))), (1, .int v1)] := hl
  unfold kw0_L_end at hq
  refine lv_aload_n hx hb dL_end_0 rfl (lv_at hl 0 rfl) ?_
  refine lv_iload_n hx hb dL_end_1 rfl (lv_at hl 1 rfl) ?_
  refine kl_V (k := (22, 0, 0)) (As := [.int v1]) (rest := []) C0 hK hT hP hS hl (km0_X8_end l hl0 hI hq) kd_X8_end kq_877 (kv_s (by decide) (by decide)) rfl rfl rfl ⟨rfl, rfl, Nat.le_of_ble_eq_true rfl, Nat.le_of_ble_eq_true rfl⟩ rfl (Nat.le_of_ble_eq_true rfl) dL_end_2 ⟨Nat.le_of_ble_eq_true rfl, Nat.le_of_ble_eq_true rfl⟩ (fun j ce q9 σ1 H locs hj hP hS hce hcv hcl => ?_) (fun r σ1 H locs hq hP hS => ?_)
  · exact False.elim hj
  · refine lv_i2l hx hb dL_end_5 rfl ?_
    exact kl_lret C0 hK hP hS hq dL_end_6 ⟨Nat.le_of_ble_eq_true rfl, Nat.le_of_ble_eq_true rfl⟩
def kw0_L_join (σ : ka_S) (v1 : Int32) (Q : Int64 → ka_S → Prop) : Prop := kw_X8_join σ v1 (fun r σ1 => Q r.toInt64 σ1) (fun _ _ => False)
def rm0_L_join : Room := { frames := 8, cells := 0, slots := 0, locals := 124 }
set_option maxHeartbeats 4000000 in
set_option maxRecDepth 100000 in
theorem km0_L_join (l : Launch) (hl0 : l.stackTraces = false) {G : ka_G} (hI : ka_I G) {σ : ka_S} {v1 : Int32} {Q : Int64 → ka_S → Prop} (hq : kw0_L_join σ v1 Q) : kd_l l yL_join (kw_W yL_join cL_join 3 [(0, 6, 7, 34)]) rm0_L_join 0 0 G [.ref (ka_a G (22, 0, 0)), .int v1] σ Q := by
  refine kl_of rfl (by decide) (Nat.le_of_ble_eq_true rfl) ?_
  intro p e s m below meth c C0 hK hT hN htab H locs hP hS ls hl
  obtain ⟨hx, hb, -, hml, hown, hts, -⟩ := id C0
  have hl : lv_has ls 3 [(0, .ref (ka_a G (22, 0, 0))), (1, .int v1)] := hl
  unfold kw0_L_join at hq
  refine lv_aload_n hx hb dL_join_0 rfl (lv_at hl 0 rfl) ?_
  refine lv_iload_n hx hb dL_join_1 rfl (lv_at hl 1 rfl) ?_
  refine kl_V (k := (22, 0, 0)) (As := [.int v1]) (rest := []) C0 hK hT hP hS hl (km0_X8_join l hl0 hI hq) kd_X8_join kq_884 (kv_s (by decide) (by decide)) rfl rfl rfl ⟨rfl, rfl, Nat.le_of_ble_eq_true rfl, Nat.le_of_ble_eq_true rfl⟩ rfl (Nat.le_of_ble_eq_true rfl) dL_join_2 ⟨Nat.le_of_ble_eq_true rfl, Nat.le_of_ble_eq_true rfl⟩ (fun j ce q9 σ1 H locs hj hP hS hce hcv hcl => ?_) (fun r σ1 H locs hq hP hS => ?_)
  · exact False.elim hj
  · refine lv_i2l hx hb dL_join_5 rfl ?_
    exact kl_lret C0 hK hP hS hq dL_join_6 ⟨Nat.le_of_ble_eq_true rfl, Nat.le_of_ble_eq_true rfl⟩
def kw0_L_setFree (σ : ka_S) (v1 : Int32) (Q : Int64 → ka_S → Prop) : Prop := kw_X8_setFree σ v1 (fun r σ1 => Q r.toInt64 σ1) (fun _ _ => False)
def rm0_L_setFree : Room := { frames := 8, cells := 0, slots := 0, locals := 124 }
set_option maxHeartbeats 4000000 in
set_option maxRecDepth 100000 in
theorem km0_L_setFree (l : Launch) (hl0 : l.stackTraces = false) {G : ka_G} (hI : ka_I G) {σ : ka_S} {v1 : Int32} {Q : Int64 → ka_S → Prop} (hq : kw0_L_setFree σ v1 Q) : kd_l l yL_setFree (kw_W yL_setFree cL_setFree 3 [(0, 6, 7, 34), (0, 6, 12, 19)]) rm0_L_setFree 0 0 G [.ref (ka_a G (22, 0, 0)), .int v1] σ Q := by
  refine kl_of rfl (by decide) (Nat.le_of_ble_eq_true rfl) ?_
  intro p e s m below meth c C0 hK hT hN htab H locs hP hS ls hl
  obtain ⟨hx, hb, -, hml, hown, hts, -⟩ := id C0
  have hl : lv_has ls 3 [(0, .ref (ka_a G (22, 0, 0))), (1, .int v1)] := hl
  unfold kw0_L_setFree at hq
  refine lv_aload_n hx hb dL_setFree_0 rfl (lv_at hl 0 rfl) ?_
  refine lv_iload_n hx hb dL_setFree_1 rfl (lv_at hl 1 rfl) ?_
  refine kl_V (k := (22, 0, 0)) (As := [.int v1]) (rest := []) C0 hK hT hP hS hl (km0_X8_setFree l hl0 hI hq) kd_X8_setFree kq_891 (kv_s (by decide) (by decide)) rfl rfl rfl ⟨rfl, rfl, Nat.le_of_ble_eq_true rfl, Nat.le_of_ble_eq_true rfl⟩ rfl (Nat.le_of_ble_eq_true rfl) dL_setFree_2 ⟨Nat.le_of_ble_eq_true rfl, Nat.le_of_ble_eq_true rfl⟩ (fun j ce q9 σ1 H locs hj hP hS hce hcv hcl => ?_) (fun r σ1 H locs hq hP hS => ?_)
  · exact False.elim hj
  · refine lv_i2l hx hb dL_setFree_5 rfl ?_
    exact kl_lret C0 hK hP hS hq dL_setFree_6 ⟨Nat.le_of_ble_eq_true rfl, Nat.le_of_ble_eq_true rfl⟩
def kw0_L_setGloss (σ : ka_S) (v1 : Int32) (v2 : Int32) (Q : Int64 → ka_S → Prop) : Prop := kw_X8_setGloss σ v1 v2 (fun r σ1 => Q r.toInt64 σ1) (fun _ _ => False)
def rm0_L_setGloss : Room := { frames := 8, cells := 0, slots := 0, locals := 126 }
set_option maxHeartbeats 4000000 in
set_option maxRecDepth 100000 in
theorem km0_L_setGloss (l : Launch) (hl0 : l.stackTraces = false) {G : ka_G} (hI : ka_I G) {σ : ka_S} {v1 : Int32} {v2 : Int32} {Q : Int64 → ka_S → Prop} (hq : kw0_L_setGloss σ v1 v2 Q) : kd_l l yL_setGloss (kw_W yL_setGloss cL_setGloss 4 [(0, 7, 8, 34), (0, 7, 13, 19)]) rm0_L_setGloss 0 0 G [.ref (ka_a G (22, 0, 0)), .int v1, .int v2] σ Q := by
  refine kl_of rfl (by decide) (Nat.le_of_ble_eq_true rfl) ?_
  intro p e s m below meth c C0 hK hT hN htab H locs hP hS ls hl
  obtain ⟨hx, hb, -, hml, hown, hts, -⟩ := id C0
  have hl : lv_has ls 4 [(0, .ref (ka_a G (22, 0, 0))), (1, .int v1), (2, .int v2)] := hl
  unfold kw0_L_setGloss at hq
  refine lv_aload_n hx hb dL_setGloss_0 rfl (lv_at hl 0 rfl) ?_
  refine lv_iload_n hx hb dL_setGloss_1 rfl (lv_at hl 1 rfl) ?_
  refine lv_iload_n hx hb dL_setGloss_2 rfl (lv_at hl 2 rfl) ?_
  refine kl_V (k := (22, 0, 0)) (As := [.int v1, .int v2]) (rest := []) C0 hK hT hP hS hl (km0_X8_setGloss l hl0 hI hq) kd_X8_setGloss kq_908 (kv_s (by decide) (by decide)) rfl rfl rfl ⟨rfl, rfl, Nat.le_of_ble_eq_true rfl, Nat.le_of_ble_eq_true rfl⟩ rfl (Nat.le_of_ble_eq_true rfl) dL_setGloss_3 ⟨Nat.le_of_ble_eq_true rfl, Nat.le_of_ble_eq_true rfl⟩ (fun j ce q9 σ1 H locs hj hP hS hce hcv hcl => ?_) (fun r σ1 H locs hq hP hS => ?_)
  · exact False.elim hj
  · refine lv_i2l hx hb dL_setGloss_6 rfl ?_
    exact kl_lret C0 hK hP hS hq dL_setGloss_7 ⟨Nat.le_of_ble_eq_true rfl, Nat.le_of_ble_eq_true rfl⟩
def kw0_L_set (σ : ka_S) (v1 : Int32) (v2 : Int32) (Q : Int64 → ka_S → Prop) : Prop := kw_X8_set σ v1 v2 (fun r σ1 => Q r.toInt64 σ1) (fun _ _ => False)
def rm0_L_set : Room := { frames := 7, cells := 0, slots := 0, locals := 104 }
set_option maxHeartbeats 4000000 in
set_option maxRecDepth 100000 in
theorem km0_L_set (l : Launch) (hl0 : l.stackTraces = false) {G : ka_G} (hI : ka_I G) {σ : ka_S} {v1 : Int32} {v2 : Int32} {Q : Int64 → ka_S → Prop} (hq : kw0_L_set σ v1 v2 Q) : kd_l l yL_set (kw_W yL_set cL_set 4 [(0, 7, 8, 15)]) rm0_L_set 0 0 G [.ref (ka_a G (22, 0, 0)), .int v1, .int v2] σ Q := by
  refine kl_of rfl (by decide) (Nat.le_of_ble_eq_true rfl) ?_
  intro p e s m below meth c C0 hK hT hN htab H locs hP hS ls hl
  obtain ⟨hx, hb, -, hml, hown, hts, -⟩ := id C0
  have hl : lv_has ls 4 [(0, .ref (ka_a G (22, 0, 0))), (1, .int v1), (2, .int v2)] := hl
  unfold kw0_L_set at hq
  refine lv_aload_n hx hb dL_set_0 rfl (lv_at hl 0 rfl) ?_
  refine lv_iload_n hx hb dL_set_1 rfl (lv_at hl 1 rfl) ?_
  refine lv_iload_n hx hb dL_set_2 rfl (lv_at hl 2 rfl) ?_
  refine kl_V (k := (22, 0, 0)) (As := [.int v1, .int v2]) (rest := []) C0 hK hT hP hS hl (km0_X8_set l hl0 hI hq) kd_X8_set kq_926 (kv_s (by decide) (by decide)) rfl rfl rfl ⟨rfl, rfl, Nat.le_of_ble_eq_true rfl, Nat.le_of_ble_eq_true rfl⟩ rfl (Nat.le_of_ble_eq_true rfl) dL_set_3 ⟨Nat.le_of_ble_eq_true rfl, Nat.le_of_ble_eq_true rfl⟩ (fun j ce q9 σ1 H locs hj hP hS hce hcv hcl => ?_) (fun r σ1 H locs hq hP hS => ?_)
  · exact False.elim hj
  · refine lv_i2l hx hb dL_set_6 rfl ?_
    exact kl_lret C0 hK hP hS hq dL_set_7 ⟨Nat.le_of_ble_eq_true rfl, Nat.le_of_ble_eq_true rfl⟩
def kw0_L_learn (σ : ka_S) (v1 : Int32) (v2 : Int32) (Q : Int64 → ka_S → Prop) : Prop := kw_X8_learn σ v1 v2 (fun r σ1 => Q r.toInt64 σ1) (fun _ _ => False)
def rm0_L_learn : Room := { frames := 8, cells := 0, slots := 0, locals := 126 }
set_option maxHeartbeats 4000000 in
set_option maxRecDepth 100000 in
theorem km0_L_learn (l : Launch) (hl0 : l.stackTraces = false) {G : ka_G} (hI : ka_I G) {σ : ka_S} {v1 : Int32} {v2 : Int32} {Q : Int64 → ka_S → Prop} (hq : kw0_L_learn σ v1 v2 Q) : kd_l l yL_learn (kw_W yL_learn cL_learn 4 [(0, 7, 8, 34), (0, 7, 13, 19)]) rm0_L_learn 0 0 G [.ref (ka_a G (22, 0, 0)), .int v1, .int v2] σ Q := by
  refine kl_of rfl (by decide) (Nat.le_of_ble_eq_true rfl) ?_
  intro p e s m below meth c C0 hK hT hN htab H locs hP hS ls hl
  obtain ⟨hx, hb, -, hml, hown, hts, -⟩ := id C0
  have hl : lv_has ls 4 [(0, .ref (ka_a G (22, 0, 0))), (1, .int v1), (2, .int v2)] := hl
  unfold kw0_L_learn at hq
  refine lv_aload_n hx hb dL_learn_0 rfl (lv_at hl 0 rfl) ?_
  refine lv_iload_n hx hb dL_learn_1 rfl (lv_at hl 1 rfl) ?_
  refine lv_iload_n hx hb dL_learn_2 rfl (lv_at hl 2 rfl) ?_
  refine kl_V (k := (22, 0, 0)) (As := [.int v1, .int v2]) (rest := []) C0 hK hT hP hS hl (km0_X8_learn l hl0 hI hq) kd_X8_learn kq_934 (kv_s (by decide) (by decide)) rfl rfl rfl ⟨rfl, rfl, Nat.le_of_ble_eq_true rfl, Nat.le_of_ble_eq_true rfl⟩ rfl (Nat.le_of_ble_eq_true rfl) dL_learn_3 ⟨Nat.le_of_ble_eq_true rfl, Nat.le_of_ble_eq_true rfl⟩ (fun j ce q9 σ1 H locs hj hP hS hce hcv hcl => ?_) (fun r σ1 H locs hq hP hS => ?_)
  · exact False.elim hj
  · refine lv_i2l hx hb dL_learn_6 rfl ?_
    exact kl_lret C0 hK hP hS hq dL_learn_7 ⟨Nat.le_of_ble_eq_true rfl, Nat.le_of_ble_eq_true rfl⟩
def kw0_L_forget (σ : ka_S) (v1 : Int32) (Q : Int64 → ka_S → Prop) : Prop := kw_X8_forget σ v1 (fun r σ1 => Q r.toInt64 σ1) (fun _ _ => False)
def rm0_L_forget : Room := { frames := 8, cells := 0, slots := 0, locals := 124 }
set_option maxHeartbeats 4000000 in
set_option maxRecDepth 100000 in
theorem km0_L_forget (l : Launch) (hl0 : l.stackTraces = false) {G : ka_G} (hI : ka_I G) {σ : ka_S} {v1 : Int32} {Q : Int64 → ka_S → Prop} (hq : kw0_L_forget σ v1 Q) : kd_l l yL_forget (kw_W yL_forget cL_forget 3 [(0, 6, 7, 34)]) rm0_L_forget 0 0 G [.ref (ka_a G (22, 0, 0)), .int v1] σ Q := by
  refine kl_of rfl (by decide) (Nat.le_of_ble_eq_true rfl) ?_
  intro p e s m below meth c C0 hK hT hN htab H locs hP hS ls hl
  obtain ⟨hx, hb, -, hml, hown, hts, -⟩ := id C0
  have hl : lv_has ls 3 [(0, .ref (ka_a G (22, 0, 0))), (1, .int v1)] := hl
  unfold kw0_L_forget at hq
  refine lv_aload_n hx hb dL_forget_0 rfl (lv_at hl 0 rfl) ?_
  refine lv_iload_n hx hb dL_forget_1 rfl (lv_at hl 1 rfl) ?_
  refine kl_V (k := (22, 0, 0)) (As := [.int v1]) (rest := []) C0 hK hT hP hS hl (km0_X8_forget l hl0 hI hq) kd_X8_forget kq_942 (kv_s (by decide) (by decide)) rfl rfl rfl ⟨rfl, rfl, Nat.le_of_ble_eq_true rfl, Nat.le_of_ble_eq_true rfl⟩ rfl (Nat.le_of_ble_eq_true rfl) dL_forget_2 ⟨Nat.le_of_ble_eq_true rfl, Nat.le_of_ble_eq_true rfl⟩ (fun j ce q9 σ1 H locs hj hP hS hce hcv hcl => ?_) (fun r σ1 H locs hq hP hS => ?_)
  · exact False.elim hj
  · refine lv_i2l hx hb dL_forget_5 rfl ?_
    exact kl_lret C0 hK hP hS hq dL_forget_6 ⟨Nat.le_of_ble_eq_true rfl, Nat.le_of_ble_eq_true rfl⟩
def kw0_L_undo (σ : ka_S) (Q : Int64 → ka_S → Prop) : Prop := kw_X8_undo σ (fun r σ1 => Q r.toInt64 σ1) (fun _ _ => False)
def rm0_L_undo : Room := { frames := 7, cells := 0, slots := 0, locals := 102 }
set_option maxHeartbeats 4000000 in
set_option maxRecDepth 100000 in
theorem km0_L_undo (l : Launch) (hl0 : l.stackTraces = false) {G : ka_G} (hI : ka_I G) {σ : ka_S} {Q : Int64 → ka_S → Prop} (hq : kw0_L_undo σ Q) : kd_l l yL_undo (kw_W yL_undo cL_undo 2 [(0, 5, 6, 19)]) rm0_L_undo 0 0 G [.ref (ka_a G (22, 0, 0))] σ Q := by
  refine kl_of rfl (by decide) (Nat.le_of_ble_eq_true rfl) ?_
  intro p e s m below meth c C0 hK hT hN htab H locs hP hS ls hl
  obtain ⟨hx, hb, -, hml, hown, hts, -⟩ := id C0
  have hl : lv_has ls 2 [(0, .ref (ka_a G (22, 0, 0)))] := hl
  unfold kw0_L_undo at hq
  refine lv_aload_n hx hb dL_undo_0 rfl (lv_at hl 0 rfl) ?_
  refine kl_V (k := (22, 0, 0)) (As := []) (rest := []) C0 hK hT hP hS hl (km0_X8_undo l hl0 hI hq) kd_X8_undo kq_969 (kv_s (by decide) (by decide)) rfl rfl rfl ⟨rfl, rfl, Nat.le_of_ble_eq_true rfl, Nat.le_of_ble_eq_true rfl⟩ rfl (Nat.le_of_ble_eq_true rfl) dL_undo_1 ⟨Nat.le_of_ble_eq_true rfl, Nat.le_of_ble_eq_true rfl⟩ (fun j ce q9 σ1 H locs hj hP hS hce hcv hcl => ?_) (fun r σ1 H locs hq hP hS => ?_)
  · exact False.elim hj
  · refine lv_i2l hx hb dL_undo_4 rfl ?_
    exact kl_lret C0 hK hP hS hq dL_undo_5 ⟨Nat.le_of_ble_eq_true rfl, Nat.le_of_ble_eq_true rfl⟩
def kw0_L_gap (σ : ka_S) (v1 : Int32) (Q : Int64 → ka_S → Prop) : Prop := kw_X8_gap σ v1 (fun r σ1 => Q r.toInt64 σ1) (fun _ _ => False)
def rm0_L_gap : Room := { frames := 8, cells := 0, slots := 0, locals := 124 }
set_option maxHeartbeats 4000000 in
set_option maxRecDepth 100000 in
theorem km0_L_gap (l : Launch) (hl0 : l.stackTraces = false) {G : ka_G} (hI : ka_I G) {σ : ka_S} {v1 : Int32} {Q : Int64 → ka_S → Prop} (hq : kw0_L_gap σ v1 Q) : kd_l l yL_gap (kw_W yL_gap cL_gap 3 [(0, 6, 7, 15)]) rm0_L_gap 0 0 G [.ref (ka_a G (22, 0, 0)), .int v1] σ Q := by
  refine kl_of rfl (by decide) (Nat.le_of_ble_eq_true rfl) ?_
  intro p e s m below meth c C0 hK hT hN htab H locs hP hS ls hl
  obtain ⟨hx, hb, -, hml, hown, hts, -⟩ := id C0
  have hl : lv_has ls 3 [(0, .ref (ka_a G (22, 0, 0))), (1, .int v1)] := hl
  unfold kw0_L_gap at hq
  refine lv_aload_n hx hb dL_gap_0 rfl (lv_at hl 0 rfl) ?_
  refine lv_iload_n hx hb dL_gap_1 rfl (lv_at hl 1 rfl) ?_
  refine kl_V (k := (22, 0, 0)) (As := [.int v1]) (rest := []) C0 hK hT hP hS hl (km0_X8_gap l hl0 hI hq) kd_X8_gap kq_639 (kv_s (by decide) (by decide)) rfl rfl rfl ⟨rfl, rfl, Nat.le_of_ble_eq_true rfl, Nat.le_of_ble_eq_true rfl⟩ rfl (Nat.le_of_ble_eq_true rfl) dL_gap_2 ⟨Nat.le_of_ble_eq_true rfl, Nat.le_of_ble_eq_true rfl⟩ (fun j ce q9 σ1 H locs hj hP hS hce hcv hcl => ?_) (fun r σ1 H locs hq hP hS => ?_)
  · exact False.elim hj
  · refine lv_i2l hx hb dL_gap_5 rfl ?_
    exact kl_lret C0 hK hP hS hq dL_gap_6 ⟨Nat.le_of_ble_eq_true rfl, Nat.le_of_ble_eq_true rfl⟩
def kw0_L_widthFor (σ : ka_S) (v1 : Int32) (Q : Int64 → ka_S → Prop) : Prop := kw_X8_widthFor σ v1 (fun r σ1 => Q r.toInt64 σ1) (fun _ _ => False)
def rm0_L_widthFor : Room := { frames := 7, cells := 0, slots := 0, locals := 137 }
set_option maxHeartbeats 4000000 in
set_option maxRecDepth 100000 in
theorem km0_L_widthFor (l : Launch) (hl0 : l.stackTraces = false) {G : ka_G} (hI : ka_I G) {σ : ka_S} {v1 : Int32} {Q : Int64 → ka_S → Prop} (hq : kw0_L_widthFor σ v1 Q) : kd_l l yL_widthFor (kw_W yL_widthFor cL_widthFor 3 [(0, 6, 7, 15)]) rm0_L_widthFor 0 0 G [.ref (ka_a G (22, 0, 0)), .int v1] σ Q := by
  refine kl_of rfl (by decide) (Nat.le_of_ble_eq_true rfl) ?_
  intro p e s m below meth c C0 hK hT hN htab H locs hP hS ls hl
  obtain ⟨hx, hb, -, hml, hown, hts, -⟩ := id C0
  have hl : lv_has ls 3 [(0, .ref (ka_a G (22, 0, 0))), (1, .int v1)] := hl
  unfold kw0_L_widthFor at hq
  refine lv_aload_n hx hb dL_widthFor_0 rfl (lv_at hl 0 rfl) ?_
  refine lv_iload_n hx hb dL_widthFor_1 rfl (lv_at hl 1 rfl) ?_
  refine kl_V (k := (22, 0, 0)) (As := [.int v1]) (rest := []) C0 hK hT hP hS hl (km0_X8_widthFor l hl0 hI hq) kd_X8_widthFor kq_662 (kv_s (by decide) (by decide)) rfl rfl rfl ⟨rfl, rfl, Nat.le_of_ble_eq_true rfl, Nat.le_of_ble_eq_true rfl⟩ rfl (Nat.le_of_ble_eq_true rfl) dL_widthFor_2 ⟨Nat.le_of_ble_eq_true rfl, Nat.le_of_ble_eq_true rfl⟩ (fun j ce q9 σ1 H locs hj hP hS hce hcv hcl => ?_) (fun r σ1 H locs hq hP hS => ?_)
  · exact False.elim hj
  · refine lv_i2l hx hb dL_widthFor_5 rfl ?_
    exact kl_lret C0 hK hP hS hq dL_widthFor_6 ⟨Nat.le_of_ble_eq_true rfl, Nat.le_of_ble_eq_true rfl⟩
def kw0_L_rowsWith (σ : ka_S) (v1 : Int32) (v2 : Int32) (Q : Int64 → ka_S → Prop) : Prop := kw_X8_rowsWith σ v1 v2 (fun r σ1 => Q r.toInt64 σ1) (fun _ _ => False)
def rm0_L_rowsWith : Room := { frames := 7, cells := 0, slots := 0, locals := 137 }
set_option maxHeartbeats 4000000 in
set_option maxRecDepth 100000 in
theorem km0_L_rowsWith (l : Launch) (hl0 : l.stackTraces = false) {G : ka_G} (hI : ka_I G) {σ : ka_S} {v1 : Int32} {v2 : Int32} {Q : Int64 → ka_S → Prop} (hq : kw0_L_rowsWith σ v1 v2 Q) : kd_l l yL_rowsWith (kw_W yL_rowsWith cL_rowsWith 4 [(0, 7, 8, 15)]) rm0_L_rowsWith 0 0 G [.ref (ka_a G (22, 0, 0)), .int v1, .int v2] σ Q := by
  refine kl_of rfl (by decide) (Nat.le_of_ble_eq_true rfl) ?_
  intro p e s m below meth c C0 hK hT hN htab H locs hP hS ls hl
  obtain ⟨hx, hb, -, hml, hown, hts, -⟩ := id C0
  have hl : lv_has ls 4 [(0, .ref (ka_a G (22, 0, 0))), (1, .int v1), (2, .int v2)] := hl
  unfold kw0_L_rowsWith at hq
  refine lv_aload_n hx hb dL_rowsWith_0 rfl (lv_at hl 0 rfl) ?_
  refine lv_iload_n hx hb dL_rowsWith_1 rfl (lv_at hl 1 rfl) ?_
  refine lv_iload_n hx hb dL_rowsWith_2 rfl (lv_at hl 2 rfl) ?_
  refine kl_V (k := (22, 0, 0)) (As := [.int v1, .int v2]) (rest := []) C0 hK hT hP hS hl (km0_X8_rowsWith l hl0 hI hq) kd_X8_rowsWith kq_679 (kv_s (by decide) (by decide)) rfl rfl rfl ⟨rfl, rfl, Nat.le_of_ble_eq_true rfl, Nat.le_of_ble_eq_true rfl⟩ rfl (Nat.le_of_ble_eq_true rfl) dL_rowsWith_3 ⟨Nat.le_of_ble_eq_true rfl, Nat.le_of_ble_eq_true rfl⟩ (fun j ce q9 σ1 H locs hj hP hS hce hcv hcl => ?_) (fun r σ1 H locs hq hP hS => ?_)
  · exact False.elim hj
  · refine lv_i2l hx hb dL_rowsWith_6 rfl ?_
    exact kl_lret C0 hK hP hS hq dL_rowsWith_7 ⟨Nat.le_of_ble_eq_true rfl, Nat.le_of_ble_eq_true rfl⟩
def kw0_L_script (σ : ka_S) (v1 : Int32) (v2 : Int64) (Q : Int64 → ka_S → Prop) : Prop := kw_X8_runScript σ v1 v2 (fun r σ1 => Q r.toInt64 σ1) (fun _ _ => False)
def rm0_L_script : Room := { frames := 8, cells := 0, slots := 0, locals := 184 }
set_option maxHeartbeats 4000000 in
set_option maxRecDepth 100000 in
theorem km0_L_script (l : Launch) (hl0 : l.stackTraces = false) {G : ka_G} (hI : ka_I G) {σ : ka_S} {v1 : Int32} {v2 : Int64} {Q : Int64 → ka_S → Prop} (hq : kw0_L_script σ v1 v2 Q) : kd_l l yL_script (kw_W yL_script cL_script 5 [(0, 7, 8, 15)]) rm0_L_script 0 0 G [.ref (ka_a G (22, 0, 0)), .int v1, .long v2] σ Q := by
  refine kl_of rfl (by decide) (Nat.le_of_ble_eq_true rfl) ?_
  intro p e s m below meth c C0 hK hT hN htab H locs hP hS ls hl
  obtain ⟨hx, hb, -, hml, hown, hts, -⟩ := id C0
  have hl : lv_has ls 5 [(0, .ref (ka_a G (22, 0, 0))), (1, .int v1), (2, .long v2)] := hl
  unfold kw0_L_script at hq
  refine lv_aload_n hx hb dL_script_0 rfl (lv_at hl 0 rfl) ?_
  refine lv_iload_n hx hb dL_script_1 rfl (lv_at hl 1 rfl) ?_
  refine lv_lload_n hx hb dL_script_2 rfl (lv_at hl 2 rfl) ?_
  refine kl_V (k := (22, 0, 0)) (As := [.int v1, .long v2]) (rest := []) C0 hK hT hP hS hl (km0_X8_runScript l hl0 hI hq) kd_X8_runScript kq_749 (kv_s (by decide) (by decide)) rfl rfl rfl ⟨rfl, rfl, Nat.le_of_ble_eq_true rfl, Nat.le_of_ble_eq_true rfl⟩ rfl (Nat.le_of_ble_eq_true rfl) dL_script_3 ⟨Nat.le_of_ble_eq_true rfl, Nat.le_of_ble_eq_true rfl⟩ (fun j ce q9 σ1 H locs hj hP hS hce hcv hcl => ?_) (fun r σ1 H locs hq hP hS => ?_)
  · exact False.elim hj
  · refine lv_i2l hx hb dL_script_6 rfl ?_
    exact kl_lret C0 hK hP hS hq dL_script_7 ⟨Nat.le_of_ble_eq_true rfl, Nat.le_of_ble_eq_true rfl⟩
def kw0_L_simulate (σ : ka_S) (v1 : Int64) (v3 : Int32) (Q : Int64 → ka_S → Prop) : Prop := kw_X8_simulate σ v1 v3 (fun r σ1 => Q r.toInt64 σ1) (fun _ _ => False)
def rm0_L_simulate : Room := { frames := 7, cells := 0, slots := 0, locals := 163 }
set_option maxHeartbeats 4000000 in
set_option maxRecDepth 100000 in
theorem km0_L_simulate (l : Launch) (hl0 : l.stackTraces = false) {G : ka_G} (hI : ka_I G) {σ : ka_S} {v1 : Int64} {v3 : Int32} {Q : Int64 → ka_S → Prop} (hq : kw0_L_simulate σ v1 v3 Q) : kd_l l yL_simulate (kw_W yL_simulate cL_simulate 5 [(0, 7, 8, 15)]) rm0_L_simulate 0 0 G [.ref (ka_a G (22, 0, 0)), .long v1, .int v3] σ Q := by
  refine kl_of rfl (by decide) (Nat.le_of_ble_eq_true rfl) ?_
  intro p e s m below meth c C0 hK hT hN htab H locs hP hS ls hl
  obtain ⟨hx, hb, -, hml, hown, hts, -⟩ := id C0
  have hl : lv_has ls 5 [(0, .ref (ka_a G (22, 0, 0))), (1, .long v1), (3, .int v3)] := hl
  unfold kw0_L_simulate at hq
  refine lv_aload_n hx hb dL_simulate_0 rfl (lv_at hl 0 rfl) ?_
  refine lv_lload_n hx hb dL_simulate_1 rfl (lv_at hl 1 rfl) ?_
  refine lv_iload_n hx hb dL_simulate_2 rfl (lv_at hl 2 rfl) ?_
  refine kl_V (k := (22, 0, 0)) (As := [.long v1, .int v3]) (rest := []) C0 hK hT hP hS hl (km0_X8_simulate l hl0 hI hq) kd_X8_simulate kq_821 (kv_s (by decide) (by decide)) rfl rfl rfl ⟨rfl, rfl, Nat.le_of_ble_eq_true rfl, Nat.le_of_ble_eq_true rfl⟩ rfl (Nat.le_of_ble_eq_true rfl) dL_simulate_3 ⟨Nat.le_of_ble_eq_true rfl, Nat.le_of_ble_eq_true rfl⟩ (fun j ce q9 σ1 H locs hj hP hS hce hcv hcl => ?_) (fun r σ1 H locs hq hP hS => ?_)
  · exact False.elim hj
  · refine lv_i2l hx hb dL_simulate_6 rfl ?_
    exact kl_lret C0 hK hP hS hq dL_simulate_7 ⟨Nat.le_of_ble_eq_true rfl, Nat.le_of_ble_eq_true rfl⟩
def kw0_L_save (σ : ka_S) (v1 : Int32) (Q : Int64 → ka_S → Prop) : Prop := kw_X8_save σ v1 (fun r σ1 => Q r.toInt64 σ1) (fun _ _ => False)
def rm0_L_save : Room := { frames := 8, cells := 0, slots := 0, locals := 124 }
set_option maxHeartbeats 4000000 in
set_option maxRecDepth 100000 in
theorem km0_L_save (l : Launch) (hl0 : l.stackTraces = false) {G : ka_G} (hI : ka_I G) {σ : ka_S} {v1 : Int32} {Q : Int64 → ka_S → Prop} (hq : kw0_L_save σ v1 Q) : kd_l l yL_save (kw_W yL_save cL_save 3 [(0, 6, 7, 34)]) rm0_L_save 0 0 G [.ref (ka_a G (22, 0, 0)), .int v1] σ Q := by
  refine kl_of rfl (by decide) (Nat.le_of_ble_eq_true rfl) ?_
  intro p e s m below meth c C0 hK hT hN htab H locs hP hS ls hl
  obtain ⟨hx, hb, -, hml, hown, hts, -⟩ := id C0
  have hl : lv_has ls 3 [(0, .ref (ka_a G (22, 0, 0))), (1, .int v1)] := hl
  unfold kw0_L_save at hq
  refine lv_aload_n hx hb dL_save_0 rfl (lv_at hl 0 rfl) ?_
  refine lv_iload_n hx hb dL_save_1 rfl (lv_at hl 1 rfl) ?_
  refine kl_V (k := (22, 0, 0)) (As := [.int v1]) (rest := []) C0 hK hT hP hS hl (km0_X8_save l hl0 hI hq) kd_X8_save kq_429 (kv_s (by decide) (by decide)) rfl rfl rfl ⟨rfl, rfl, Nat.le_of_ble_eq_true rfl, Nat.le_of_ble_eq_true rfl⟩ rfl (Nat.le_of_ble_eq_true rfl) dL_save_2 ⟨Nat.le_of_ble_eq_true rfl, Nat.le_of_ble_eq_true rfl⟩ (fun j ce q9 σ1 H locs hj hP hS hce hcv hcl => ?_) (fun r σ1 H locs hq hP hS => ?_)
  · exact False.elim hj
  · refine lv_i2l hx hb dL_save_5 rfl ?_
    exact kl_lret C0 hK hP hS hq dL_save_6 ⟨Nat.le_of_ble_eq_true rfl, Nat.le_of_ble_eq_true rfl⟩
def kw0_L_restore (σ : ka_S) (v1 : Int32) (Q : Int64 → ka_S → Prop) : Prop := kw_X8_restore σ v1 (fun r σ1 => Q r.toInt64 σ1) (fun _ _ => False)
def rm0_L_restore : Room := { frames := 8, cells := 0, slots := 0, locals := 124 }
set_option maxHeartbeats 4000000 in
set_option maxRecDepth 100000 in
theorem km0_L_restore (l : Launch) (hl0 : l.stackTraces = false) {G : ka_G} (hI : ka_I G) {σ : ka_S} {v1 : Int32} {Q : Int64 → ka_S → Prop} (hq : kw0_L_restore σ v1 Q) : kd_l l yL_restore (kw_W yL_restore cL_restore 3 [(0, 6, 7, 34), (0, 6, 12, 19)]) rm0_L_restore 0 0 G [.ref (ka_a G (22, 0, 0)), .int v1] σ Q := by
  refine kl_of rfl (by decide) (Nat.le_of_ble_eq_true rfl) ?_
  intro p e s m below meth c C0 hK hT hN htab H locs hP hS ls hl
  obtain ⟨hx, hb, -, hml, hown, hts, -⟩ := id C0
  have hl : lv_has ls 3 [(0, .ref (ka_a G (22, 0, 0))), (1, .int v1)] := hl
  unfold kw0_L_restore at hq
  refine lv_aload_n hx hb dL_restore_0 rfl (lv_at hl 0 rfl) ?_
  refine lv_iload_n hx hb dL_restore_1 rfl (lv_at hl 1 rfl) ?_
  refine kl_V (k := (22, 0, 0)) (As := [.int v1]) (rest := []) C0 hK hT hP hS hl (km0_X8_restore l hl0 hI hq) kd_X8_restore kq_465 (kv_s (by decide) (by decide)) rfl rfl rfl ⟨rfl, rfl, Nat.le_of_ble_eq_true rfl, Nat.le_of_ble_eq_true rfl⟩ rfl (Nat.le_of_ble_eq_true rfl) dL_restore_2 ⟨Nat.le_of_ble_eq_true rfl, Nat.le_of_ble_eq_true rfl⟩ (fun j ce q9 σ1 H locs hj hP hS hce hcv hcl => ?_) (fun r σ1 H locs hq hP hS => ?_)
  · exact False.elim hj
  · refine lv_i2l hx hb dL_restore_5 rfl ?_
    exact kl_lret C0 hK hP hS hq dL_restore_6 ⟨Nat.le_of_ble_eq_true rfl, Nat.le_of_ble_eq_true rfl⟩
