/-! ===== throws ===== -/
def ka_E (n : Nat) : String := match n with
  | 0 => "java/lang/IllegalArgumentException"
  | 1 => "java/lang/IllegalStateException"
  | _ => "java/lang/IndexOutOfBoundsException"
def ka_Tw : List Cond := [Jvm.Cond.castable "java/lang/IllegalStateException" "java/lang/IllegalStateException", Jvm.Cond.declares ({ cls := "java/lang/RuntimeException", name := "<init>", desc := "(Ljava/lang/String;)V" } : Jvm.MethodName), Jvm.Cond.declares ({ cls := "java/lang/Exception", name := "<init>", desc := "(Ljava/lang/String;)V" } : Jvm.MethodName), Jvm.Cond.declares ({ cls := "java/lang/Throwable", name := "<init>", desc := "(Ljava/lang/String;)V" } : Jvm.MethodName), Jvm.Cond.castable "java/lang/IndexOutOfBoundsException" "java/lang/IndexOutOfBoundsException", Jvm.Cond.castable "java/lang/IllegalArgumentException" "java/lang/IllegalArgumentException"]
def ka_Ts : List (Nat × String) := [(79, "the text is not words"), (360, "there is no such save slot"), (344, "nothing has been saved in this slot"), (139, "what is not 0 to 11"), (349, "there is no such word"), (172, "what is not 0 to 7"), (354, "there is no such word or part"), (362, "the number is negative"), (196, "what is not 0 to 3"), (356, "there is no such entry"), (301, "the number of rows is not 0 to 99"), (313, "the width is not 10 to 60, or the way not 0 or 1"), (358, "there is no such row"), (222, "what is not 0 to 2"), (315, "the number of commands is not 1 to 4"), (321, "the script is negative or has too many digits"), (332, "the number of rounds is not 1 to 99"), (57, "the character code is not 0 to 255"), (68, "the text is full"), (230, "the place is not 0 to the number of words"), (234, "there would be more than 12 words"), (250, "the text is not a free line"), (259, "the text is not a gloss"), (269, "this is not to be set, or not to this number"), (278, "the part is a gap, or the lexicon is full"), (290, "no state is remembered")]
def ka_T (G : ka_G) (U : State) : Prop := vx_Zq Bundle.tN "UNASSIGNED_STACK" Bundle.steD (ka_A G) U U.heap ∧ vx_Zq Bundle.tN "SUPPRESSED_SENTINEL" Bundle.listD (ka_A G) U U.heap ∧ (∀ w ∈ ka_Tw, va_Nw w U) ∧ ∀ q ∈ ka_Ts, ∃ sa : Nat, vk_R "GlossRows" q.1 q.2 sa U
def ka_BT (G : ka_G) (σ : ka_S) (U : State) : Prop := ka_B G σ U ∧ ka_T G U
theorem ka_Tw_warm {s U : State} (hW : s.WarmedH U.vm) (h : ∀ w ∈ ka_Tw, va_Nw w s) : ∀ w ∈ ka_Tw, va_Nw w U := by
  intro w hw
  have h1 := h w hw
  simp only [ka_Tw, List.mem_cons, List.mem_nil_iff, or_false] at hw
  rcases hw with rfl | rfl | rfl | rfl | rfl | rfl <;> first | exact va_Nw.warmC hW h1 | exact va_Nw.warmD hW h1
theorem ka_Tw_same {s U : State} (hv : s.vm = U.vm) (h : ∀ w ∈ ka_Tw, va_Nw w s) : ∀ w ∈ ka_Tw, va_Nw w U := by
  intro w hw
  have h1 := h w hw
  simp only [ka_Tw, List.mem_cons, List.mem_nil_iff, or_false] at hw
  rcases hw with rfl | rfl | rfl | rfl | rfl | rfl <;> exact va_tabs rfl hv h1
theorem ka_T.warm {G : ka_G} {s U : State} {H : Heap} {locs : List Loc} (hT : ka_T G s) (hS : va_S (ka_A G) s.heap H locs) (hU : U.heap = H) (hW : s.WarmedH U.vm) : ka_T G U := by
  obtain ⟨h1, h2, h3, h4⟩ := hT
  refine ⟨?_, ?_, ka_Tw_warm hW h3, fun q hq => ?_⟩
  · rw [hU]; exact vx_Zq.moved hW.alike (h1.kept hS.2.1)
  · rw [hU]; exact vx_Zq.moved hW.alike (h2.kept hS.2.1)
  · obtain ⟨sa, h⟩ := h4 q hq
    exact ⟨sa, vk_R.warm hW h⟩
theorem ka_blindT {av : List Value} {G : ka_G} {σ : ka_S} : FrameBlind (va_Pc av (ka_BT G σ)) := fun a U g mk q =>
  ⟨q.1, ⟨q.2.1.1, va_K.moved (u := U) (U := U.calling g mk a) (Vm.Alike.refl U.vm) q.2.1.2⟩, vx_Zq.moved (u := U) (U := U.calling g mk a) (Vm.Alike.refl U.vm) q.2.2.1, vx_Zq.moved (u := U) (U := U.calling g mk a) (Vm.Alike.refl U.vm) q.2.2.2.1,
    ka_Tw_same (s := U) (U := U.calling g mk a) rfl q.2.2.2.2.1, fun x hx => by obtain ⟨sa, h⟩ := q.2.2.2.2.2 x hx; exact ⟨sa, vk_R.same (U := U.calling g mk a) rfl h⟩⟩
abbrev ka_XC (G : ka_G) (X : Nat → ka_S → Prop) : String → State → State → Prop := vx_X (fun u : Nat × ka_S => X u.1 u.2) (fun E u t => E = ka_E u.1 ∧ ka_B G u.2 t) (ka_A G)
abbrev kx_i (l : Launch) (y : MethodName) (ws : List Cond) (rm : Room) (mc ms : Nat) (G : ka_G) (av : List Value) (σ : ka_S) (Q : Int32 → ka_S → Prop) (X : Nat → ka_S → Prop) : Prop := vx_Met l y ws rm (va_Pc av (ka_BT G σ)) (va_Qi Q (ka_B G) (ka_A G)) (ka_XC G X) mc ms (ka_A G)
abbrev kx_v (l : Launch) (y : MethodName) (ws : List Cond) (rm : Room) (mc ms : Nat) (G : ka_G) (av : List Value) (σ : ka_S) (Q : ka_S → Prop) (X : Nat → ka_S → Prop) : Prop := vx_Met l y ws rm (va_Pc av (ka_BT G σ)) (va_Qv Q (ka_B G) (ka_A G)) (ka_XC G X) mc ms (ka_A G)
theorem kx_of {l : Launch} {y : MethodName} {cc : ByteArray} {nL : Nat} {ret : Option FieldType} {rm : Room} {mc ms : Nat} {G : ka_G} {av : List Value} {σ : ka_S} {Qc : Array Value → State → Outcome → State → Prop} {XC : String → State → State → Prop} (own : String) (ho : y.cls = own) (hy : plainName y.cls = true) (hn : (lg_sl av).length ≤ nL)
    (body : ∀ (p : Program) (e : Env) (s : State) (m : MethodId) (below : List Frame) (meth : Method) (c : Code), ka_C p s m av.toArray meth c cc nL own ret → ka_Kn G s → ka_T G s → (∀ x ∈ c.exceptionTable.toList, False) → ∀ (H : Heap) (locs : List Loc), ka_P G σ H → va_S (ka_A G) s.heap H locs → ∀ ls : Array Slot, lv_has ls nL (lv_args 0 av) → W p l e rm s m av.toArray below meth c H locs 0 0 (vx_MQ below Qc XC av.toArray s mc ms (ka_A G)) (F0 m 0 ls [])) :
    vx_Met l y (kw_ y cc nL ret) rm (va_Pc av (ka_BT G σ)) Qc XC mc ms (ka_A G) := by
  subst ho
  refine vx_ofW (cc := cc) (maxL := nL) (ret := ret) hy rfl ?_
  intro p e s m args below meth c s₁ B hml hout hv
  obtain ⟨rfl, ⟨hP, hK⟩, hT⟩ := hv
  have hts := atoms_spec (ws := kw_ y cc nL ret) B.pre
  have hl := lv_entry av (n := nL) hn
  rw [lg_entry_eq]
  exact body p e s m below meth c ⟨B.exec, B.bytes, B.returns, hml, findClass_of_methodNamed B.named, fun w hw => hts w (List.mem_cons_of_mem _ hw), B.notSynchronized⟩ hK hT hout _ _ hP va_S.rf _ hl
def ka_nm : List String := ["java/lang/RuntimeException", "java/lang/Exception"]
def ka_ic (n : Nat) : Nat := match n with
  | 0 => 59
  | 1 => 70
  | _ => 232
def ka_ik (n : Nat) : Nat := match n with
  | 0 => 55
  | 1 => 66
  | _ => 228
set_option maxRecDepth 100000 in
theorem ka_ga : ∀ n, n < 3 → ∀ w ∈ (vx_atS "GlossRows" (ka_ic n) (ka_E n) ka_nm).filter goodWord, w ∈ tables_1 := by decide +kernel
set_option maxRecDepth 100000 in
theorem ka_gb : ∀ n, n < 3 → ∀ w ∈ (vx_atS "GlossRows" (ka_ic n) (ka_E n) ka_nm).filter (fun w => !goodWord w), w ∈ ka_Tw := by decide +kernel
set_option maxRecDepth 100000 in
theorem ka_gc : ∀ n, n < 3 → ∀ w ∈ Cond.classLink "GlossRows" (ka_ik n) (ka_E n) :: Cond.initialized (ka_E n) :: vx_atS "GlossRows" (ka_ic n) (ka_E n) ka_nm, vx_ot w = true := by decide +kernel
theorem ka_gd : ∀ n, n < 3 → Bundle.fit (ka_E n) = true := by decide +kernel
theorem ka_ge : ∀ n ∈ ka_nm, Bundle.fit n = true := by decide +kernel
theorem ka_gf : ∀ n, n < 3 → Cond.classLink "GlossRows" (ka_ik n) (ka_E n) ∈ kq_W ∧ Cond.initialized (ka_E n) ∈ kq_W := by
  intro n hn
  match n, hn with
  | 0, _ => exact ⟨kq_542, kq_14⟩
  | 1, _ => exact ⟨kq_343, kq_16⟩
  | 2, _ => exact ⟨kq_437, kq_15⟩
theorem ka_tab {w : Cond} (h : w ∈ tables_1) (hg : goodWord w = true) : w ∈ kq_W := List.mem_filter.mpr ⟨List.mem_append_right _ h, hg⟩
section KX
variable {p : Program} {l : Launch} {e : Env} {R : Room} {s : State} {m : MethodId} {args : Array Value} {below : List Frame} {meth : Method} {c : Code} {H : Heap} {locs : List Loc} {cells slots : Nat} {Q : State → Prop}
variable {cc : ByteArray} {pc : Nat} {ls : Array Slot} {rest : List Value} {G : ka_G} {σ : ka_S} {k : ka_K} {H0 : Heap} {own : String} {nL : Nat} {ret : Option FieldType}
theorem kx_hat (C0 : ka_C p s m args meth c cc nL own ret) (hT : ka_T G s) {n : Nat} (hn : n < 3) : ∀ w ∈ vx_atS "GlossRows" (ka_ic n) (ka_E n) ka_nm, w.before args s = true := by
  refine vx_hat (B := ka_Tw) ?_ (ka_gb n hn) ?_
  · intro w hw
    exact C0.2.2.2.2.2.1 w (ka_tab (ka_ga n hn w hw) (List.mem_filter.mp hw).2)
  · intro w hw
    have h := hT.2.2.1 w hw
    simp only [ka_Tw, List.mem_cons, List.mem_nil_iff, or_false] at hw
    rcases hw with rfl | rfl | rfl | rfl | rfl | rfl <;> exact va_Nw.use rfl h
theorem ka_P.grow {G : ka_G} {σ : ka_S} {H H1 : Heap} (h : ka_P G σ H) (o : ∀ q : Nat, q < H.size → H1[q]? = H[q]?) : ka_P G σ H1 := fun k hv => (h k hv).kept (o _ (h k hv).lt)
theorem kx_xc {E : String} {X : Nat → ka_S → Prop} {t : State} {n : Nat} (hE : E = ka_E n) (hq : X n σ) (hK : ka_Kn G s) (hP : ka_P G σ H) (hS : va_S (ka_A G) s.heap H locs) (hvm : s.vm.Alike t.vm) (hz : H.size ≤ t.heap.size) (ho : ∀ q : Nat, q < H.size → t.heap[q]? = H[q]?) : ka_XC G X E s t :=
  ⟨(n, σ), hq, ⟨hE, hP.grow ho, va_K.moved hvm hK⟩, Nat.le_trans hS.1 hz, fun q h1 h2 => by rw [ho q (Nat.lt_of_lt_of_le h1 hS.1)]; exact hS.2.1 q h1 h2⟩
theorem kx_thr {Qc : Array Value → State → Outcome → State → Prop} {X : Nat → ka_S → Prop} {mc ms n is : Nat} {tx : String} {lv : List (Nat × Value)} (hl0 : l.stackTraces = false) (C0 : ka_C p s m args meth c cc nL "GlossRows" ret) (hK : ka_Kn G s) (hT : ka_T G s) (hout : ∀ x ∈ c.exceptionTable.toList, False) (hP : ka_P G σ H) (hS : va_S (ka_A G) s.heap H locs) (hl : lv_has ls nL lv) (hq : X n σ) (hn : n < 3) (hs : (is, tx) ∈ ka_Ts)
    (d0 : decode cc pc = .ok (.new (ka_ik n), 3)) (d3 : decode cc (pc + 3) = .ok (.dup, 1)) (d4 : decode cc (pc + 4) = .ok (.ldc is, 2)) (d6 : decode cc (pc + 6) = .ok (.invokespecial (ka_ic n), 3)) (d9 : decode cc (pc + 9) = .ok (.athrow, 1))
    (hR : 5 < R.frames ∧ (rest.map fun v => v.category).sum + 82 ≤ R.locals ∧ cells + 1 ≤ R.cells ∧ slots + 6 ≤ R.slots) (hc : cells + 1 ≤ mc ∧ slots + 6 ≤ ms) :
    W p l e R s m args below meth c H locs cells slots (vx_MQ below Qc (ka_XC G X) args s mc ms (ka_A G)) (F0 m pc ls rest) := by
  obtain ⟨sa, hsa⟩ := hT.2.2.2 _ hs
  exact vx_throwS C0.1 C0.2.1 hl0 (own := "GlossRows") (cls := ka_E n) (names := ka_nm) (ik := ka_ik n) (ic := ka_ic n) (sa := sa) C0.2.2.2.2.1 (ka_gd n hn) ka_ge (C0.2.2.2.2.2.1 _ (ka_gf n hn).1) (C0.2.2.2.2.2.1 _ (ka_gf n hn).2) hsa (kx_hat C0 hT hn) (ka_gc n hn) hT.1 hT.2.1 hS (hl.1.trans C0.2.2.2.1.symm) d0 d3 d4 d6 d9 (fun x hx => (hout x hx).elim) hR.1 hR.2.1 hR.2.2.1 hR.2.2.2 C0.2.2.2.2.2.2
    (fun t hvm hz ho => kx_xc rfl hq hK hP hS hvm hz ho) hS.2.2 hc.1 hc.2
theorem kx_thrW {Qc : Array Value → State → Outcome → State → Prop} {X : Nat → ka_S → Prop} {mc ms n is : Nat} {tx : String} {lv : List (Nat × Value)} (hl0 : l.stackTraces = false) (C0 : ka_C p s m args meth c cc nL "GlossRows" ret) (hK : ka_Kn G s) (hT : ka_T G s) (hout : ∀ x ∈ c.exceptionTable.toList, False) (hP : ka_P G σ H) (hS : va_S (ka_A G) s.heap H locs) (hl : lv_has ls nL lv) (hq : X n σ) (hn : n < 3) (hs : (is, tx) ∈ ka_Ts)
    (d0 : decode cc pc = .ok (.new (ka_ik n), 3)) (d3 : decode cc (pc + 3) = .ok (.dup, 1)) (d4 : decode cc (pc + 4) = .ok (.ldc_w is, 3)) (d7 : decode cc (pc + 7) = .ok (.invokespecial (ka_ic n), 3)) (d10 : decode cc (pc + 10) = .ok (.athrow, 1))
    (hR : 5 < R.frames ∧ (rest.map fun v => v.category).sum + 82 ≤ R.locals ∧ cells + 1 ≤ R.cells ∧ slots + 6 ≤ R.slots) (hc : cells + 1 ≤ mc ∧ slots + 6 ≤ ms) :
    W p l e R s m args below meth c H locs cells slots (vx_MQ below Qc (ka_XC G X) args s mc ms (ka_A G)) (F0 m pc ls rest) := by
  obtain ⟨sa, hsa⟩ := hT.2.2.2 _ hs
  exact vx_throwSW C0.1 C0.2.1 hl0 (own := "GlossRows") (cls := ka_E n) (names := ka_nm) (ik := ka_ik n) (ic := ka_ic n) (sa := sa) C0.2.2.2.2.1 (ka_gd n hn) ka_ge (C0.2.2.2.2.2.1 _ (ka_gf n hn).1) (C0.2.2.2.2.2.1 _ (ka_gf n hn).2) hsa (kx_hat C0 hT hn) (ka_gc n hn) hT.1 hT.2.1 hS (hl.1.trans C0.2.2.2.1.symm) d0 d3 d4 d7 d10 (fun x hx => (hout x hx).elim) hR.1 hR.2.1 hR.2.2.1 hR.2.2.2 C0.2.2.2.2.2.2
    (fun t hvm hz ho => kx_xc rfl hq hK hP hS hvm hz ho) hS.2.2 hc.1 hc.2
variable {y : MethodName} {bytes : ByteArray} {mL idx n : Nat} {rt : Option FieldType} {rm : Room} {As : List Value}
theorem kx_cbV {c1 s1 : Nat} (C0 : ka_C p s m args meth c cc nL own ret) (hlink : Cond.methodLink own idx y ∈ kq_W) (kd : kd_V y bytes mL rt n) (hrm : rm.cells = c1 ∧ rm.slots = s1 ∧ rm.frames + 1 ≤ R.frames ∧ 8 + (mL + 11) + rm.locals ≤ R.locals) : CallW R s args own y.cls idx y bytes mL rt (kw_ y bytes mL rt) rm c1 s1 n := by
  obtain ⟨-, -, -, -, -, hts, -⟩ := C0
  obtain ⟨hinst, hsel, hini, hcode, hd⟩ := kd
  refine ⟨callB_of (Ts := kq_W) n hts ?_ rfl hrm.1 hrm.2.1 (hts _ hini) (hts _ hlink) hd hrm.2.2, hts _ hinst, hts _ hsel⟩
  intro w hw
  rcases List.mem_cons.mp hw with h | h
  · subst h; exact ⟨hcode, kq_good hcode⟩
  · exact ⟨h, kq_good h⟩
theorem kx_pV {CC : String} {ci : Nat} {q : vw_C} {fs : List Value} (hK : ka_Kn G s) (hT : ka_T G s) (hS : va_S (ka_A G) s.heap H locs) (hP : ka_P G σ H) (hv : ka_v k) (he : ka_c G σ k = .inr (ci, fs)) (hc : vwCl[ci]? = some q) (hC : q.1 = CC) : PreV s H CC (ka_a G k) (va_Pc (.ref (ka_a G k) :: As) (ka_BT G σ)) As := by
  subst hC
  exact ⟨ka_blindT, va_recv hK (hP.one hv) (q0 := 0) hc (by rw [he]; rfl), fun U hU hW => ⟨rfl, ⟨by rw [hU]; exact hP, va_K.moved hW.alike hK⟩, hT.warm hS hU hW⟩⟩
theorem kx_Vi {Qp : Int32 → ka_S → Prop} {X : Nat → ka_S → Prop} {Qc : Array Value → State → Outcome → State → Prop} {c1 s1 mc ms : Nat} {lv : List (Nat × Value)} (C0 : ka_C p s m args meth c cc nL own ret) (hK : ka_Kn G s) (hT : ka_T G s) (hout : ∀ x ∈ c.exceptionTable.toList, False) (hP : ka_P G σ H) (hS : va_S (ka_A G) s.heap H locs) (hl : lv_has ls nL lv) (hM : kx_i l y (kw_ y bytes mL rt) rm c1 s1 G (.ref (ka_a G k) :: As) σ Qp X) (kd : kd_V y bytes mL rt n) (hlink : Cond.methodLink own idx y ∈ kq_W) (hv : ka_v k) {ci : Nat} {q : vw_C} {fs : List Value} (he : ka_c G σ k = .inr (ci, fs)) (hc : vwCl[ci]? = some q) (hC : q.1 = y.cls)
    (hrm : rm.cells = c1 ∧ rm.slots = s1 ∧ rm.frames + 1 ≤ R.frames ∧ 8 + (mL + 11) + rm.locals ≤ R.locals) (hn : As.length = n) (hW : (rest.map fun v => v.category).sum ≤ 8) (hdg : decode cc pc = .ok (.invokevirtual idx, 3)) (hf : cells + c1 ≤ R.cells ∧ slots + s1 ≤ R.slots) (hm : cells + c1 ≤ mc ∧ slots + s1 ≤ ms)
    (kk : ∀ (r : Int32) (σ1 : ka_S) (H1 : Heap) (locs1 : List Loc), Qp r σ1 → ka_P G σ1 H1 → va_S (ka_A G) s.heap H1 locs1 → W p l e R s m args below meth c H1 locs1 (cells + c1) (slots + s1) (vx_MQ below Qc (ka_XC G X) args s mc ms (ka_A G)) (F0 m (pc + 3) ls (.int r :: rest))) : W p l e R s m args below meth c H locs cells slots (vx_MQ below Qc (ka_XC G X) args s mc ms (ka_A G)) (F0 m pc ls (As.reverse ++ .ref (ka_a G k) :: rest)) :=
  vx_calli (vx_runV C0.fix hM (kx_cbV C0 hlink kd hrm) (kx_pV hK hT hS hP hv he hc hC) rfl hn hl.1 rfl (lv_room hW) hdg hf) hS (fun q _ h => h) (fun q h => h) (fun q _ h => h)
    (fun E ce q9 u t H1 locs1 ht hvm hw hB hz hk1 hS1 hce hcv hcl => vx_out (fun x hx => (hout x hx).elim) C0.2.2.2.2.2.2 hce hcv hcl (fun t' ht' hvm' => kx_xc hB.1 hw hK (by have := hB.2.1; rw [ht] at this; exact this) hS1 hvm' (by rw [ht']; exact Nat.le_refl _) (fun q _ => by rw [ht'])) hS1.2.2 hm.1 hm.2)
    (fun r u t H1 locs1 ht hvm hw hB hz hk1 hS1 => kk r u H1 locs1 hw (by rw [← ht]; exact hB.1) hS1)
theorem kx_Vv {Qp : ka_S → Prop} {X : Nat → ka_S → Prop} {Qc : Array Value → State → Outcome → State → Prop} {c1 s1 mc ms : Nat} {lv : List (Nat × Value)} (C0 : ka_C p s m args meth c cc nL own ret) (hK : ka_Kn G s) (hT : ka_T G s) (hout : ∀ x ∈ c.exceptionTable.toList, False) (hP : ka_P G σ H) (hS : va_S (ka_A G) s.heap H locs) (hl : lv_has ls nL lv) (hM : kx_v l y (kw_ y bytes mL rt) rm c1 s1 G (.ref (ka_a G k) :: As) σ Qp X) (kd : kd_V y bytes mL rt n) (hlink : Cond.methodLink own idx y ∈ kq_W) (hv : ka_v k) {ci : Nat} {q : vw_C} {fs : List Value} (he : ka_c G σ k = .inr (ci, fs)) (hc : vwCl[ci]? = some q) (hC : q.1 = y.cls)
    (hrm : rm.cells = c1 ∧ rm.slots = s1 ∧ rm.frames + 1 ≤ R.frames ∧ 8 + (mL + 11) + rm.locals ≤ R.locals) (hn : As.length = n) (hW : (rest.map fun v => v.category).sum ≤ 8) (hdg : decode cc pc = .ok (.invokevirtual idx, 3)) (hf : cells + c1 ≤ R.cells ∧ slots + s1 ≤ R.slots) (hm : cells + c1 ≤ mc ∧ slots + s1 ≤ ms)
    (kk : ∀ (σ1 : ka_S) (H1 : Heap) (locs1 : List Loc), Qp σ1 → ka_P G σ1 H1 → va_S (ka_A G) s.heap H1 locs1 → W p l e R s m args below meth c H1 locs1 (cells + c1) (slots + s1) (vx_MQ below Qc (ka_XC G X) args s mc ms (ka_A G)) (F0 m (pc + 3) ls (rest))) : W p l e R s m args below meth c H locs cells slots (vx_MQ below Qc (ka_XC G X) args s mc ms (ka_A G)) (F0 m pc ls (As.reverse ++ .ref (ka_a G k) :: rest)) :=
  vx_callv (vx_runV C0.fix hM (kx_cbV C0 hlink kd hrm) (kx_pV hK hT hS hP hv he hc hC) rfl hn hl.1 rfl (lv_room hW) hdg hf) hS (fun q _ h => h) (fun q h => h) (fun q _ h => h)
    (fun E ce q9 u t H1 locs1 ht hvm hw hB hz hk1 hS1 hce hcv hcl => vx_out (fun x hx => (hout x hx).elim) C0.2.2.2.2.2.2 hce hcv hcl (fun t' ht' hvm' => kx_xc hB.1 hw hK (by have := hB.2.1; rw [ht] at this; exact this) hS1 hvm' (by rw [ht']; exact Nat.le_refl _) (fun q _ => by rw [ht'])) hS1.2.2 hm.1 hm.2)
    (fun u t H1 locs1 ht hvm hw hB hz hk1 hS1 => kk u H1 locs1 hw (by rw [← ht]; exact hB.1) hS1)
end KX
