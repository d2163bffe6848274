/-! ===== constructors ===== -/
def kn_w : List Cond := [Jvm.Cond.methodLinkNest "GlossRows" (9 : Nat) ({ cls := "GlossRows$Text", name := "<init>", desc := "()V" } : Jvm.MethodName) "GlossRows", Jvm.Cond.methodLinkNest "GlossRows$Reader" (17 : Nat) ({ cls := "GlossRows$Word", name := "<init>", desc := "()V" } : Jvm.MethodName) "GlossRows", Jvm.Cond.methodLinkNest "GlossRows$Page" (19 : Nat) ({ cls := "GlossRows$Lexicon", name := "<init>", desc := "()V" } : Jvm.MethodName) "GlossRows", Jvm.Cond.methodLinkNest "GlossRows$Page" (24 : Nat) ({ cls := "GlossRows$Word", name := "<init>", desc := "()V" } : Jvm.MethodName) "GlossRows", Jvm.Cond.methodLinkNest "GlossRows" (35 : Nat) ({ cls := "GlossRows$Layout", name := "<init>", desc := "()V" } : Jvm.MethodName) "GlossRows"]
def kn_N (G : ka_G) (U : State) : Prop := ka_Kn G U ∧ va_AO "GlossRows$Word" U ∧ va_AO "GlossRows$Page" U ∧ ∀ w ∈ kn_w, va_Nw w U
theorem kn_w_warm {s U : State} (hW : s.WarmedH U.vm) (h : ∀ w ∈ kn_w, va_Nw w s) : ∀ w ∈ kn_w, va_Nw w U := by
  intro w hw
  have h1 := h w hw
  simp only [kn_w, List.mem_cons, List.mem_nil_iff, or_false] at hw
  rcases hw with rfl | rfl | rfl | rfl | rfl <;> exact va_Nw.warmM hW h1
theorem kn_w_same {s U : State} (hv : s.vm = U.vm) (h : ∀ w ∈ kn_w, va_Nw w s) : ∀ w ∈ kn_w, va_Nw w U := by
  intro w hw
  have h1 := h w hw
  simp only [kn_w, List.mem_cons, List.mem_nil_iff, or_false] at hw
  rcases hw with rfl | rfl | rfl | rfl | rfl <;> exact va_tabs rfl hv h1
theorem kn_N.warm {G : ka_G} {s U : State} (h : kn_N G s) (hW : s.WarmedH U.vm) : kn_N G U := ⟨va_K.moved hW.alike h.1, va_AO.moved hW.alike h.2.1, va_AO.moved hW.alike h.2.2.1, kn_w_warm hW h.2.2.2⟩
theorem kn_N.same {G : ka_G} {s U : State} (h : kn_N G s) (hv : s.vm = U.vm) : kn_N G U := ⟨va_K.moved (by rw [hv]; exact Vm.Alike.refl _) h.1, va_AO.moved (by rw [hv]; exact Vm.Alike.refl _) h.2.1, va_AO.moved (by rw [hv]; exact Vm.Alike.refl _) h.2.2.1, kn_w_same hv h.2.2.2⟩
/-- a world under construction: its cells by their addresses, the heap's size -/
def kn (G : ka_G) (A : Nat → Prop) (L : va_W) (sz : Nat) (s : State) (H : Heap) (locs : List Loc) : Prop :=
  H.size = sz ∧ va_P (ka_D G) vwCl L H ∧ va_D A L ∧ va_S A s.heap H locs
abbrev kn_A (h0 : Nat) : Nat → Prop := fun q => h0 ≤ q
def kn_Pc (G : ka_G) (h0 : Nat) (e0 : va_E) : Array Value → State → Prop := va_Pc [.ref h0] (fun U => kn_N G U ∧ U.heap.size = h0 + 1 ∧ va_at (ka_D G) vwCl (h0, e0) U.heap)
def kn_Q (G : ka_G) (h0 mc : Nat) (Lr : va_W) : Array Value → State → Outcome → State → Prop := fun _ st oc t => oc = .returned none ∧ t.heap.size = h0 + 1 + mc ∧ va_P (ka_D G) vwCl Lr t.heap ∧ va_D (kn_A h0) Lr ∧ ∀ q : Nat, q < h0 → t.heap[q]? = st.heap[q]?
abbrev kc_n (l : Launch) (y : MethodName) (ws : List Cond) (rm : Room) (G : ka_G) (h0 : Nat) (e0 : va_E) (Lr : va_W) (mc ms : Nat) : Prop := Met l y ws rm (kn_Pc G h0 e0) (kn_Q G h0 mc Lr) mc ms (kn_A h0)
theorem kn_blind {G : ka_G} {h0 : Nat} {e0 : va_E} : FrameBlind (kn_Pc G h0 e0) := fun a U g mk q => ⟨q.1, q.2.1.same (U := U.calling g mk a) rfl, q.2.2.1, q.2.2.2⟩
theorem kn_of {l : Launch} {y : MethodName} {cc : ByteArray} {nL : Nat} {rm : Room} {G : ka_G} {h0 mc ms : Nat} {e0 : va_E} {Lr : va_W} (own : String) (ho : y.cls = own) (hyn : y.name = "<init>") (hy : plainName y.cls = true) (hn : 1 ≤ nL)
    (body : ∀ (p : Program) (e : Env) (s : State) (m : MethodId) (below : List Frame) (meth : Method) (c : Code), ka_C p s m #[.ref h0] meth c cc nL own none → kn_N G s → meth.name = "<init>" → s.heap.size = h0 + 1 → ∀ (H : Heap) (locs : List Loc), kn G (kn_A h0) [(h0, e0)] (h0 + 1) s H locs → ∀ ls : Array Slot, lv_has ls nL [(0, .ref h0)] → W p l e rm s m #[.ref h0] below meth c H locs 0 0 (MQ below (kn_Q G h0 mc Lr) #[.ref h0] s mc ms (kn_A h0)) (F0 m 0 ls [])) :
    kc_n l y (kw_ y cc nL none) rm G h0 e0 Lr mc ms := by
  subst ho
  refine Met.ofW (cc := cc) (maxL := nL) (ret := none) hy rfl ?_
  intro p e s m args below meth c s₁ B hml hv
  obtain ⟨rfl, hN, hsz, hat⟩ := hv
  have hts := atoms_spec (ws := kw_ y cc nL none) B.pre
  have hl := lv_entry [.ref h0] (n := nL) (show (lg_sl [.ref h0]).length ≤ nL from hn)
  rw [lg_entry_eq]
  refine body p e s m below meth c ⟨B.exec, B.bytes, B.returns, hml, findClass_of_methodNamed B.named, fun w hw => hts w (List.mem_cons_of_mem _ hw), B.notSynchronized⟩ hN ?_ hsz _ _ ⟨hsz, va_P1 hat, ⟨fun i j p q hi hj _ => ?_, fun k q hk => ?_⟩, va_S.rf⟩ _ hl
  · rw [← hyn]; exact (name_of_methodNamed B.named B.method).1
  · match i, j, hi, hj with
    | 0, 0, _, _ => rfl
    | 0, j + 1, _, hj => simp at hj
    | i + 1, _, hi, _ => simp at hi
  · match k, hk with
    | 0, hk => cases hk; exact Nat.le_refl _
    | k + 1, hk => simp at hk
section KN
variable {p : Program} {l : Launch} {e : Env} {R : Room} {s : State} {m : MethodId} {args : Array Value} {below : List Frame} {meth : Method} {c : Code} {H : Heap} {locs : List Loc} {cells slots : Nat} {Q : State → Prop}
variable {cc : ByteArray} {pc : Nat} {ls : Array Slot} {rest : List Value} {G : ka_G} {A : Nat → Prop} {L : va_W} {sz : Nat} {own : String} {nL : Nat} {ret : Option FieldType}
/-- a new row of numbers -/
theorem kn_newa {t N : Nat} {atype : ArrayType} {ty : FieldType} {n : Int32} {a0 : vp_A} (C0 : ka_C p s m args meth c cc nL own ret) (hN : kn_N G s) (h : kn G A L sz s H locs) (hA : ∀ q, s.heap.size ≤ q → A q) (ht : (ka_tys G)[t]? = some (ka_r G t, ty)) (hty : newarray.typeOf atype = ty) (hra : va_RA s (ka_r G t) ty → s.vm.findClass ("[" ++ ty.toString) = some (ka_r G t)) (hw : Cond.arrayClass ty ∈ kq_W) (ha : ∀ cA : ClassId, vp_cell cA a0 = arrV cA N (fun _ => defaultValue ty)) (hn : ¬ n < 0) (hnN : n.toNatClampNeg = N) (hbytes : N * componentBytes ty ≤ 536870912) (hcells : cells + 1 ≤ R.cells ∧ slots + N ≤ R.slots) (hdg : decode cc pc = .ok (.newarray atype, 2))
    (kk : ∀ H1 : Heap, kn G A (L ++ [(sz, .inl (ka_r G t, a0))]) (sz + 1) s H1 locs → W p l e R s m args below meth c H1 locs (cells + 1) (slots + N) Q (F0 m (pc + 2) ls (.ref sz :: rest))) : W p l e R s m args below meth c H locs cells slots Q (F0 m pc ls (.int n :: rest)) := by
  subst hty
  obtain ⟨hsz, hP, hD, hS⟩ := h
  refine va_newaK C0.1 C0.2.1 (C0.2.2.2.2.2.1 _ hw) rfl hdg rfl hn hnN hbytes hcells.1 hcells.2 hsz fun H1 cA e1 z1 o1 hAr hNm => ?_
  have hcA : cA = ka_r G t := Option.some.inj (hNm.symm.trans (hra (hN.1.2 t _ ht).2))
  subst hcA
  have o2 : ∀ q, q < H.size → H1[q]? = H[q]? := fun q hq => o1 q (by rw [← hsz]; exact hq)
  refine kk H1 ⟨z1, (hP.kept (fun k x hx => o2 x.1 ((hP k x hx).lt))).app (va_P1 ?_), hD.push hP hsz.symm (hA _ (by rw [← hsz]; exact hS.1)), ⟨Nat.le_trans hS.1 (by omega), fun x h1 h2 => (o2 x (Nat.lt_of_lt_of_le h1 hS.1)).trans (hS.2.1 x h1 h2), hS.2.2⟩⟩
  show H1[sz]? = some (vp_cell _ _)
  rw [ha]; exact e1
/-- a new row of references -/
theorem kn_newq {t N idx : Nat} {CC : String} {n : Int32} (C0 : ka_C p s m args meth c cc nL own ret) (hN : kn_N G s) (h : kn G A L sz s H locs) (hA : ∀ q, s.heap.size ≤ q → A q) (ht : (ka_tys G)[t]? = some (ka_r G t, .object CC)) (hover : va_AO CC s) (hw : Cond.classLink own idx CC ∈ kq_W) (hn : ¬ n < 0) (hnN : n.toNatClampNeg = N) (hbytes : N * 4 ≤ 536870912) (hcells : cells + 1 ≤ R.cells ∧ slots + N ≤ R.slots) (hdg : decode cc pc = .ok (.anewarray idx, 3))
    (kk : ∀ H1 : Heap, kn G A (L ++ [(sz, .inl (ka_r G t, N, .inr (.inr (.inr (.inr (fun _ => none))))))]) (sz + 1) s H1 locs → W p l e R s m args below meth c H1 locs (cells + 1) (slots + N) Q (F0 m (pc + 3) ls (.ref sz :: rest))) : W p l e R s m args below meth c H locs cells slots Q (F0 m pc ls (.int n :: rest)) := by
  subst hnN
  obtain ⟨hsz, hP, hD, hS⟩ := h
  refine W.anew C0.1 C0.2.1 C0.2.2.2.2.1 (C0.2.2.2.2.2.1 _ hw) (va_AO.use hover) rfl hdg rfl hn hbytes hcells.1 hcells.2 fun cA kA comp f1 f2 f3 f4 => ?_
  generalize hH1 : H.push ({ cls := cA, slots := Array.replicate n.toNatClampNeg .null, vm := .none } : Cell) = H1
  have z1 : H1.size = H.size + 1 := by rw [← hH1, Array.size_push]
  have e1 : H1[H.size]? = some (arrV cA n.toNatClampNeg (fun _ => .null)) := by rw [← hH1, Array.getElem?_push_size, ← arrV_new]
  have o1 : ∀ q : Nat, q < H.size → H1[q]? = H[q]? := fun q hq => by rw [← hH1, Array.getElem?_push, if_neg (Nat.ne_of_lt hq)]
  obtain ⟨kA', comp', g1, g2, g3, g4⟩ := (hN.1.2 t _ ht).2
  have hcA : cA = ka_r G t := by
    first
      | exact Option.some.inj (f1.symm.trans g4)
      | exact Option.some.inj (f4.symm.trans g4)
  subst hcA
  rw [hsz] at e1 z1 ⊢
  refine kk H1 ⟨z1, (hP.kept (fun k x hx => o1 x.1 ((hP k x hx).lt))).app (va_P1 ?_), hD.push hP hsz.symm (hA _ (by rw [← hsz]; exact hS.1)), ⟨Nat.le_trans hS.1 (by omega), fun x h1 h2 => (o1 x (Nat.lt_of_lt_of_le h1 hS.1)).trans (hS.2.1 x h1 h2), hS.2.2⟩⟩
  show H1[sz]? = some (vp_cell _ _)
  rw [e1]; rfl
/-- a new object -/
theorem kn_new {C : String} {TT : u_T} {N ci idx : Nat} {fs : List Value} (C0 : ka_C p s m args meth c cc nL own ret) (hN : kn_N G s) (h : kn G A L sz s H locs) (hA : ∀ q, s.heap.size ≤ q → A q) (hin : ∀ w ∈ u_ws C TT N, w ∈ kq_W) (ty : Nat → FieldType) (hty : ∀ k, k < N → parseFieldDescriptor (TT k).2.2.1 = some (ty k)) (hw : Cond.classLink own idx C ∈ kq_W) (hinst : Cond.instantiable C N ∈ kq_W) (hini : Cond.initialized C ∈ kq_W) (hc : vwCl[ci]? = some (C, TT, N)) (hfs : ∀ j, j < N → defaultValue (ty j) = vp_V fs j) (hcells : cells + 1 ≤ R.cells ∧ slots + N ≤ R.slots) (hdg : decode cc pc = .ok (.new idx, 3))
    (kk : ∀ H1 : Heap, kn G A (L ++ [(sz, .inr (ci, fs))]) (sz + 1) s H1 locs → W p l e R s m args below meth c H1 locs (cells + 1) (slots + N) Q (F0 m (pc + 3) ls (.ref sz :: rest))) : W p l e R s m args below meth c H locs cells slots Q (F0 m pc ls rest) := by
  obtain ⟨hsz, hP, hD, hS⟩ := h
  have hts := C0.2.2.2.2.2.1
  have hKn := hN.1.1 ci _ hc
  refine W.newcK C0.1 C0.2.1 C0.2.2.2.2.1 (hts _ hw) (hts _ hinst) (hts _ hini) rfl hdg hcells.1 hcells.2 hKn.2.1 hsz fun H1 kC hkC e1 z1 o1 => ?_
  have o2 : ∀ q, q < H.size → H1[q]? = H[q]? := fun q hq => o1 q (by rw [← hsz]; exact hq)
  refine kk H1 ⟨z1, (hP.kept (fun k x hx => o2 x.1 ((hP k x hx).lt))).app (va_P1 ?_), hD.push hP hsz.symm (hA _ (by rw [← hsz]; exact hS.1)), ⟨Nat.le_trans hS.1 (by omega), fun x h1 h2 => (o2 x (Nat.lt_of_lt_of_le h1 hS.1)).trans (hS.2.1 x h1 h2), hS.2.2⟩⟩
  exact ⟨_, hc, (u_born ty hts hin hKn hkC e1 hty).to hfs⟩
/-- a field is set for the first time: a final one, its own constructor's -/
theorem kn_putF {q0 ci j idx a : Nat} {C nm ds : String} {TT : u_T} {N : Nat} {fs : List Value} {v : Value} {ty : FieldType} (C0 : ka_C p s m args meth c cc nL own ret) (hN : kn_N G s) (h : kn G A L sz s H locs) (he : L[q0]? = some (a, .inr (ci, fs))) (hc : vwCl[ci]? = some (C, TT, N)) (hin : ∀ w ∈ u_ws C TT N, w ∈ kq_W)
    (ty0 : Nat → FieldType) (hty : ∀ k, k < N → parseFieldDescriptor (TT k).2.2.1 = some (ty0 k)) (hnm : ∀ a, a < N → ∀ b, b < N → a ≠ b → (TT a).2.1 ≠ (TT b).2.1) (hj : j < N) (hT : (own, nm, ds) = ((TT j).1, (TT j).2.1, (TT j).2.2.1))
    (hlink : Cond.fieldLink own idx own nm ds ∈ kq_W) (hfin : (TT j).2.2.2 = true) (hin2 : meth.name = "<init>") (hd : parseFieldDescriptor (TT j).2.2.1 = some ty) (hn : narrow ty v = v) (hfit : fits ty v = true) (hl : j < fs.length) (hdg : decode cc pc = .ok (.putfield idx, 3))
    (kk : ∀ (H1 : Heap) (locs1 : List Loc), kn G A (L.set q0 (a, .inr (ci, fs.set j v))) sz s H1 locs1 → W p l e R s m args below meth c H1 locs1 cells slots Q (F0 m (pc + 3) ls rest)) : W p l e R s m args below meth c H locs cells slots Q (F0 m pc ls (v :: .ref a :: rest)) := by
  obtain ⟨hsz, hP, hD, hS⟩ := h
  obtain ⟨hexec, hb, -, -, hown, hts, -⟩ := C0
  have hdecl : (TT j).1 = own := (congrArg (fun q => q.1) hT).symm
  have e2 : nm = (TT j).2.1 := congrArg (fun q => q.2.1) hT
  have e3 : ds = (TT j).2.2.1 := congrArg (fun q => q.2.2) hT
  subst e2; subst e3
  have hK := hN.1
  have hap := va_apart (own := own) hts hin ty0 hty hnm hK hc
  obtain ⟨r, h1, cell, q1, q2, q3, q4⟩ := hP q0 _ he
  have hr : r = (C, TT, N) := Option.some.inj (h1.symm.trans hc)
  subst hr
  obtain ⟨hS1, hfc, kC, hkC, hkind⟩ := hK.1 ci _ hc
  obtain ⟨cf, kf, fi, f, hi, hsl⟩ := hS1 j hj
  have hlay := hts _ (hin _ (u_in_lay hj))
  unfold u_lay at hlay
  rw [if_pos hfin] at hlay
  have hst := (u_facts hfc hkC (u_lays hts hin hj) hi).1
  have hcf : m.cls = cf := by
    obtain ⟨_, _, c', _, _, _, -, -, hf', -, -, -, hown2, -⟩ := Cond.laysFinal_spec hlay
    have e1 : c' = cf := by have := hi.symm.trans hf'; simp at this; exact this.1.symm
    rw [hdecl] at hown2
    rw [← e1]; exact Option.some.inj (hown.symm.trans hown2)
  have h6 := u_fits hfc hkC hkind (Or.inr hlay) hi hd hn hfit
  rw [← hdecl] at hlink hown
  refine W.putFinK hexec hb hown (hts _ hlink) hi hst hcf hin2 (by rw [q2]; exact h6) q1 q3 (by rw [hsl]; exact k2_hasslot (q4 j hj)) rfl rfl hdg fun H' e1 e2 e3 => ?_
  rw [hsl] at e1 ⊢
  exact kk H' _ ⟨e2.trans hsz, hP.set hD he ⟨_, hc, t_OB.to (V := updV (vp_V fs) j v) ⟨_, e1, q2, q3, t_set q4 hap hj v⟩ (fun i _ => vp_updV_set hl v i)⟩ e3, hD.set he, hS.put e2 e3 (hD.2 q0 _ he)⟩
/-- a field that may change is set -/
theorem kn_put {q0 ci j idx a : Nat} {C O nm ds : String} {TT : u_T} {N : Nat} {fs : List Value} {v : Value} {ty : FieldType} (C0 : ka_C p s m args meth c cc nL own ret) (hK : ka_Kn G s) (h : kn G A L sz s H locs) (he : L[q0]? = some (a, .inr (ci, fs))) (hc : vwCl[ci]? = some (C, TT, N)) (hin : ∀ w ∈ u_ws C TT N, w ∈ kq_W)
    (ty0 : Nat → FieldType) (hty : ∀ k, k < N → parseFieldDescriptor (TT k).2.2.1 = some (ty0 k)) (hnm : ∀ a, a < N → ∀ b, b < N → a ≠ b → (TT a).2.1 ≠ (TT b).2.1) (hj : j < N) (hT : (O, nm, ds) = ((TT j).1, (TT j).2.1, (TT j).2.2.1))
    (hlink : Cond.fieldLink own idx O nm ds ∈ kq_W) (hfin : (TT j).2.2.2 = false) (hd : parseFieldDescriptor (TT j).2.2.1 = some ty) (hn : narrow ty v = v) (hfit : fits ty v = true) (hl : j < fs.length) (hdg : decode cc pc = .ok (.putfield idx, 3))
    (kk : ∀ (H1 : Heap) (locs1 : List Loc), kn G A (L.set q0 (a, .inr (ci, fs.set j v))) sz s H1 locs1 → W p l e R s m args below meth c H1 locs1 cells slots Q (F0 m (pc + 3) ls rest)) : W p l e R s m args below meth c H locs cells slots Q (F0 m pc ls (v :: .ref a :: rest)) := by
  obtain ⟨hsz, hP, hD, hS⟩ := h
  obtain ⟨hexec, hb, -, -, hown, hts, -⟩ := C0
  have e1 : O = (TT j).1 := congrArg (fun q => q.1) hT
  have e2 : nm = (TT j).2.1 := congrArg (fun q => q.2.1) hT
  have e3 : ds = (TT j).2.2.1 := congrArg (fun q => q.2.2) hT
  subst e1; subst e2; subst e3
  have hap := va_apart (own := own) hts hin ty0 hty hnm hK hc
  obtain ⟨r, h1, cell, q1, q2, q3, q4⟩ := hP q0 _ he
  have hr : r = (C, TT, N) := Option.some.inj (h1.symm.trans hc)
  subst hr
  obtain ⟨hS1, hfc, kC, hkC, hkind⟩ := hK.1 ci _ hc
  obtain ⟨cf, kf, fi, f, hi, hsl⟩ := hS1 j hj
  have hlay := hts _ (hin _ (u_in_lay hj))
  unfold u_lay at hlay
  rw [if_neg (by rw [hfin]; decide)] at hlay
  have hst := (u_facts hfc hkC (u_lays hts hin hj) hi).1
  have h6 := u_store hfc hkC hkind hlay hi hd hn hfit
  refine W.putK hexec hb (f := f) ⟨hown, hts _ hlink, ⟨_, _, _, hi⟩, hst⟩ (by rw [q2]; exact h6) q1 q3 (by rw [hsl]; exact k2_hasslot (q4 j hj)) rfl rfl hdg fun H' e1 e2 e3 => ?_
  rw [hsl] at e1 ⊢
  exact kk H' _ ⟨e2.trans hsz, hP.set hD he ⟨_, hc, t_OB.to (V := updV (vp_V fs) j v) ⟨_, e1, q2, q3, t_set q4 hap hj v⟩ (fun i _ => vp_updV_set hl v i)⟩ e3, hD.set he, hS.put e2 e3 (hD.2 q0 _ he)⟩
theorem kn_get {q0 ci j idx a : Nat} {C O nm ds : String} {TT : u_T} {N : Nat} {fs : List Value} {v : Value} (C0 : ka_C p s m args meth c cc nL own ret) (hK : ka_Kn G s) (h : kn G A L sz s H locs) (he : L[q0]? = some (a, .inr (ci, fs))) (hc : vwCl[ci]? = some (C, TT, N)) (hin : ∀ w ∈ u_ws C TT N, w ∈ kq_W) (hj : j < N) (hT : (O, nm, ds) = ((TT j).1, (TT j).2.1, (TT j).2.2.1))
    (hlink : Cond.fieldLink own idx O nm ds ∈ kq_W) (hfv : fs[j]? = some v) (hdg : decode cc pc = .ok (.getfield idx, 3))
    (kk : W p l e R s m args below meth c H locs cells slots Q (F0 m (pc + 3) ls (v :: rest))) : W p l e R s m args below meth c H locs cells slots Q (F0 m pc ls (.ref a :: rest)) := by
  obtain ⟨hx, hb, -, -, hown, hts, -⟩ := C0
  have e1 : O = (TT j).1 := congrArg (fun q => q.1) hT
  have e2 : nm = (TT j).2.1 := congrArg (fun q => q.2.1) hT
  have e3 : ds = (TT j).2.2.1 := congrArg (fun q => q.2.2) hT
  subst e1; subst e2; subst e3
  exact va_get hx hb hts hin hown hK h.2.1 q0 he hc j hj (hts _ hlink) (fun _ h => h) hfv hdg kk
theorem kn_ast {q0 t qk ci n v a : Nat} {r : vw_C} {vs : List Value} {f : Nat → Option Nat} {i : Int32} (C0 : ka_C p s m args meth c cc nL own ret) (hK : ka_Kn G s) (h : kn G A L sz s H locs) (ha : L[q0]? = some (a, .inl (ka_r G t, n, .inr (.inr (.inr (.inr f)))))) (ht : (ka_tys G)[t]? = some (ka_r G t, .object r.1)) (hv : L[qk]? = some (v, .inr (ci, vs))) (hc : vwCl[ci]? = some r) (hin : vp_in i n) (hdg : decode cc pc = .ok (.aastore, 1))
    (kk : ∀ (H1 : Heap) (locs1 : List Loc), kn G A (L.set q0 (a, .inl (ka_r G t, n, .inr (.inr (.inr (.inr (va_up f i.toNatClampNeg (some v)))))))) sz s H1 locs1 → W p l e R s m args below meth c H1 locs1 cells slots Q (F0 m (pc + 1) ls rest)) : W p l e R s m args below meth c H locs cells slots Q (F0 m pc ls (.ref v :: .int i :: .ref a :: rest)) := by
  obtain ⟨hsz, hP, hD, hS⟩ := h
  have hlt : i.toNatClampNeg < n := vp_lt hin
  have h0 : ¬ i < 0 := fun q => hin (Or.inl q)
  obtain ⟨r', hr', cellV, g1, g2, g3, -⟩ := hP qk _ hv
  have hcls := (hK.1 ci r hc).2
  obtain ⟨kA, comp, k1, k2, k3, -⟩ := (hK.2 t _ ht).2
  have hcomp : comp = (ka_D G).1 ci := Option.some.inj (k3.symm.trans hcls.1)
  subst hcomp
  obtain ⟨kC, hkC, -⟩ := hcls.2
  refine W.aast C0.1 C0.2.1 (hP q0 _ ha) (fun q h => by cases h) (fun h => by cases h) k1 k2 rfl hkC ⟨h0, by show _ < (arrV _ _ _).slots.size; rw [arrV_size]; exact hlt⟩ g1 (fun q h => by rw [g3] at h; cases h) (by rw [g2]; exact hkC) (by rw [g2]; exact va_assign hcls) rfl rfl hdg fun H1 e z oq => ?_
  refine kk H1 _ ⟨z.trans hsz, hP.set hD ha ?_ oq, hD.set ha, hS.put z oq (hD.2 q0 _ ha)⟩
  show H1[a]? = some (vp_cell _ _)
  rw [e]
  rw [vp_cell_q, vp_cell_q, arrV_store]
  congr 2
  funext q
  by_cases hq : q = i.toNatClampNeg
  · subst hq
    simp [updV, va_up, va_rf]
  · simp [updV, va_up, hq]
theorem kn_aald {q0 t n a : Nat} {CC : String} {f : Nat → Option Nat} {i : Int32} {q : Nat} (C0 : ka_C p s m args meth c cc nL own ret) (hK : ka_Kn G s) (h : kn G A L sz s H locs) (ha : L[q0]? = some (a, .inl (ka_r G t, n, .inr (.inr (.inr (.inr f)))))) (ht : (ka_tys G)[t]? = some (ka_r G t, .object CC)) (hin : vp_in i n) (hq : f i.toNatClampNeg = some q) (hdg : decode cc pc = .ok (.aaload, 1))
    (kk : W p l e R s m args below meth c H locs cells slots Q (F0 m (pc + 1) ls (.ref q :: rest))) : W p l e R s m args below meth c H locs cells slots Q (F0 m pc ls (.int i :: .ref a :: rest)) := by
  refine va_aldq C0.1 C0.2.1 hK h.2.1 q0 t (C := CC) ha ht hin hdg ?_
  rw [hq]
  exact kk
/-- the end of a constructor -/
theorem kn_ret {h0 mc ms : Nat} {Lr : va_W} (C0 : ka_C p s m args meth c cc nL own none) (hs : s.heap.size = h0 + 1) (h : kn G (kn_A h0) Lr (h0 + 1 + mc) s H locs) (hdg : decode cc pc = .ok (.return_, 1)) : W p l e R s m args below meth c H locs mc ms (MQ below (kn_Q G h0 mc Lr) args s mc ms (kn_A h0)) (F0 m pc ls []) := by
  obtain ⟨hsz, hP, hD, hS⟩ := h
  exact W.vret C0.1 C0.2.1 C0.2.2.1 (fun t ht hW => ⟨rfl, by rw [ht]; exact hsz, by rw [ht]; exact hP, hD, fun q hq => by rw [ht]; exact hS.2.1 q (by omega) (fun z => Nat.lt_irrefl _ (Nat.lt_of_lt_of_le hq z))⟩) hS.2.2 hdg C0.2.2.2.2.2.2
variable {y : MethodName} {bytes : ByteArray} {mL idx : Nat} {rm : Room}
theorem kn_run {q0 c1 s1 h0 : Nat} {e0 : va_E} {Lr : va_W} (h : kn G (kn_A h0) (L ++ [(q0, e0)]) (q0 + 1) s H locs) (h0q : h0 ≤ q0)
    (hr : va_Run p l e R s m args below meth c H locs cells slots c1 s1 (F0 m pc ls (.ref q0 :: rest)) rest (kn_Q G q0 c1 Lr #[.ref q0]) (kn_A q0))
    (kk : ∀ (H1 : Heap) (locs1 : List Loc), kn G (kn_A h0) (L ++ Lr) (q0 + 1 + c1) s H1 locs1 → W p l e R s m args below meth c H1 locs1 (cells + c1) (slots + s1) Q (F0 m (pc + 3) ls rest)) : W p l e R s m args below meth c H locs cells slots Q (F0 m pc ls (.ref q0 :: rest)) := by
  intro T hT X
  obtain ⟨v, st₀, t, T', L9, h9, X', hL, e1, e2, ⟨hv, hz, hP1, hD1, ho⟩, st⟩ := hr T hT X
  cases hv
  obtain ⟨hsz, hP, hD, hS⟩ := h
  rw [h9] at ho
  have hlt : ∀ (k : Nat) (x : Nat × va_E), L[k]? = some x → x.1 < q0 := by
    intro k x hx
    have hkL : k < L.length := (List.getElem?_eq_some_iff.mp hx).1
    have h1 : (L ++ [(q0, e0)])[k]? = some x := by rw [List.getElem?_append_left hkL]; exact hx
    have h2 : (L ++ [(q0, e0)])[L.length]? = some (q0, e0) := by simp
    have h3 := (hP k x h1).lt
    rw [hsz] at h3
    rcases Nat.lt_or_ge x.1 q0 with h4 | h4
    · exact h4
    · have h5 : x.1 = q0 := by omega
      have h6 := hD.1 k L.length x (q0, e0) h1 h2 h5
      omega
  have hPL : va_P (ka_D G) vwCl L H := fun k x hx => hP k x (by rw [List.getElem?_append_left (List.getElem?_eq_some_iff.mp hx).1]; exact hx)
  obtain ⟨t2, a1, b1⟩ := kk T'.heap (locs ++ L9) ⟨by rw [e1]; exact hz, by
      rw [e1]
      exact (hPL.kept (fun k x hx => ho x.1 (hlt k x hx))).app hP1, by
      refine va_D.app ⟨fun i j a b hi hj hab => hD.1 i j a b (by rw [List.getElem?_append_left (List.getElem?_eq_some_iff.mp hi).1]; exact hi) (by rw [List.getElem?_append_left (List.getElem?_eq_some_iff.mp hj).1]; exact hj) hab, fun k x hx => hD.2 k x (by rw [List.getElem?_append_left (List.getElem?_eq_some_iff.mp hx).1]; exact hx)⟩ ⟨hD1.1, fun k x hx => Nat.le_trans h0q (hD1.2 k x hx)⟩ (fun i j a b hi hj hab => ?_)
      have := hlt i a hi
      have := hD1.2 j b hj
      simp only [kn_A] at this
      omega, ⟨Nat.le_trans hS.1 (by rw [e1, hz, hsz]; omega), fun q h1 h2 => by
      rw [e1, ho q (by simp only [kn_A] at h2; omega)]
      exact hS.2.1 q h1 h2, fun q hq => by
      rcases List.mem_append.mp hq with h | h
      · exact hS.2.2 q h
      · exact Nat.le_trans h0q (hL q h)⟩⟩ T' rfl X'
  exact ⟨t2, st t2 a1, b1⟩
theorem kn_call {q0 c1 s1 h0 : Nat} {e0 : va_E} {Lr : va_W} {lv : List (Nat × Value)} (C0 : ka_C p s m args meth c cc nL own ret) (hN : kn_N G s) (h : kn G (kn_A h0) (L ++ [(q0, e0)]) (q0 + 1) s H locs) (h0q : h0 ≤ q0) (hl : lv_has ls nL lv) (hM : kc_n l y (kw_ y bytes mL none) rm G q0 e0 Lr c1 s1) (hyn : y.name = "<init>") (hlink : Cond.methodLink own idx y ∈ kq_W) (hinst : Cond.instanceMethod y ∈ kq_W) (hini : Cond.initialized y.cls ∈ kq_W) (hcode : Cond.code y bytes mL none ∈ kq_W)
    (hd : y.cls ≠ "java/lang/invoke/MethodHandle" ∧ y.cls ≠ "java/lang/invoke/VarHandle" ∧ (parseMethodDescriptor y.desc).map (fun d => d.parameters.length) = some 0) (hrm : rm.cells = c1 ∧ rm.slots = s1 ∧ rm.frames + 1 ≤ R.frames ∧ 8 + (mL + 11) + rm.locals ≤ R.locals) (hW : (rest.map fun v => v.category).sum ≤ 8) (hf : cells + c1 ≤ R.cells ∧ slots + s1 ≤ R.slots) (hdg : decode cc pc = .ok (.invokespecial idx, 3))
    (kk : ∀ (H1 : Heap) (locs1 : List Loc), kn G (kn_A h0) (L ++ Lr) (q0 + 1 + c1) s H1 locs1 → W p l e R s m args below meth c H1 locs1 (cells + c1) (slots + s1) Q (F0 m (pc + 3) ls rest)) : W p l e R s m args below meth c H locs cells slots Q (F0 m pc ls (.ref q0 :: rest)) := by
  have hts := C0.2.2.2.2.2.1
  have hat : va_at (ka_D G) vwCl (q0, e0) H := h.2.1 L.length _ (by simp)
  refine kn_run h h0q (va_runI (As := []) C0.fix hM ⟨callB_of (Ts := kq_W) 0 hts ?_ rfl hrm.1 hrm.2.1 (hts _ hini) (hts _ hlink) hd hrm.2.2, hyn, hts _ hinst⟩ ⟨kn_blind, fun U hU hW => ⟨rfl, hN.warm hW, by rw [hU]; exact h.1, by rw [hU]; exact hat⟩⟩ rfl rfl hl.1 rfl (lv_room hW) hdg hf) kk
  intro w hw
  rcases List.mem_cons.mp hw with h | h
  · subst h; exact ⟨hcode, kq_good hcode⟩
  · exact ⟨h, kq_good h⟩
theorem kn_callN {q0 c1 s1 h0 : Nat} {host : String} {e0 : va_E} {Lr : va_W} {lv : List (Nat × Value)} (C0 : ka_C p s m args meth c cc nL own ret) (hN : kn_N G s) (h : kn G (kn_A h0) (L ++ [(q0, e0)]) (q0 + 1) s H locs) (h0q : h0 ≤ q0) (hl : lv_has ls nL lv) (hM : kc_n l y (kw_ y bytes mL none) rm G q0 e0 Lr c1 s1) (hyn : y.name = "<init>") (hlink : Cond.methodLinkNest own idx y host ∈ kn_w) (hinst : Cond.instanceMethod y ∈ kq_W) (hini : Cond.initialized y.cls ∈ kq_W) (hcode : Cond.code y bytes mL none ∈ kq_W)
    (hd : y.cls ≠ "java/lang/invoke/MethodHandle" ∧ y.cls ≠ "java/lang/invoke/VarHandle" ∧ (parseMethodDescriptor y.desc).map (fun d => d.parameters.length) = some 0) (hrm : rm.cells = c1 ∧ rm.slots = s1 ∧ rm.frames + 1 ≤ R.frames ∧ 8 + (mL + 11) + rm.locals ≤ R.locals) (hW : (rest.map fun v => v.category).sum ≤ 8) (hf : cells + c1 ≤ R.cells ∧ slots + s1 ≤ R.slots) (hdg : decode cc pc = .ok (.invokespecial idx, 3))
    (kk : ∀ (H1 : Heap) (locs1 : List Loc), kn G (kn_A h0) (L ++ Lr) (q0 + 1 + c1) s H1 locs1 → W p l e R s m args below meth c H1 locs1 (cells + c1) (slots + s1) Q (F0 m (pc + 3) ls rest)) : W p l e R s m args below meth c H locs cells slots Q (F0 m pc ls (.ref q0 :: rest)) := by
  have hts := C0.2.2.2.2.2.1
  have hat : va_at (ka_D G) vwCl (q0, e0) H := h.2.1 L.length _ (by simp)
  refine kn_run h h0q (va_runIN (As := []) C0.fix hM ⟨va_cnB (Ts := kq_W) 0 hts ?_ rfl hrm.1 hrm.2.1 (hN.2.2.2 _ hlink) (hts _ hini) hd hrm.2.2, hyn, hts _ hinst⟩ ⟨kn_blind, fun U hU hW => ⟨rfl, hN.warm hW, by rw [hU]; exact h.1, by rw [hU]; exact hat⟩⟩ rfl rfl hl.1 rfl (lv_room hW) hdg hf) kk
  intro w hw
  rcases List.mem_cons.mp hw with h | h
  · subst h; exact ⟨hcode, kq_good hcode⟩
  · exact ⟨h, kq_good h⟩
end KN
theorem kn_aI : Cond.arrayClass .int ∈ kq_W := kq_of 43 (by decide +kernel) rfl
theorem kn_aJ : Cond.arrayClass .long ∈ kq_W := kq_of 95 (by decide +kernel) rfl
theorem kn_aZ : Cond.arrayClass .boolean ∈ kq_W := kq_of 256 (by decide +kernel) rfl
