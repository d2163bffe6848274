/-! ===== keys, the store, the world ===== -/
abbrev ka_K : Type := Nat × Nat × Nat
abbrev ka_S : Type := (ka_K → Nat → Int32) × (ka_K → Nat → Int64)
/-- the classes' numbers and fields, the arrays' classes, the addresses, what may be written -/
abbrev ka_G : Type := (va_G × (Nat → ClassId)) × ((ka_K → Nat) × (Nat → Prop))
abbrev ka_D (G : ka_G) : va_G := G.1.1
abbrev ka_r (G : ka_G) : Nat → ClassId := G.1.2
abbrev ka_a (G : ka_G) : ka_K → Nat := G.2.1
abbrev ka_A (G : ka_G) : Nat → Prop := G.2.2
abbrev ka_tys (G : ka_G) : List (ClassId × FieldType) := [(ka_r G 0, .int), (ka_r G 1, .long), (ka_r G 2, .boolean), (ka_r G 3, .object "GlossRows$Word"), (ka_r G 4, .object "GlossRows$Page")]
def ka_v (k : ka_K) : Prop := (k.1 ≤ 4 ∧ k.2.1 < 18 ∧ k.2.2 = 0) ∨ (5 ≤ k.1 ∧ k.1 ≤ 9 ∧ k.2.1 < 19 ∧ k.2.2 < 12) ∨ (10 ≤ k.1 ∧ k.1 ≤ 24 ∧ k.2.1 = 0 ∧ k.2.2 = 0)
theorem kv_p {a o : Nat} (ha : a ≤ 4) (ho : o < 18) : ka_v (a, o, 0) := Or.inl ⟨ha, ho, rfl⟩
theorem kv_w {a o i : Nat} (h1 : 5 ≤ a) (h2 : a ≤ 9) (ho : o < 19) (hi : i < 12) : ka_v (a, o, i) := Or.inr (Or.inl ⟨h1, h2, ho, hi⟩)
theorem kv_s {a : Nat} (h1 : 10 ≤ a) (h2 : a ≤ 24) : ka_v (a, 0, 0) := Or.inr (Or.inr ⟨h1, h2, rfl, rfl⟩)
def ka_c (G : ka_G) (σ : ka_S) (k : ka_K) : va_E := match k.1 with
  | 0 => .inr (3, [.ref (ka_a G (1, k.2.1, 0)), .ref (ka_a G (2, k.2.1, 0)), .int (σ.1 k 2), .int (σ.1 k 3), .int (σ.1 k 4), .int (σ.1 k 5)])
  | 1 => .inl (ka_r G 3, 12, .inr (.inr (.inr (.inr (fun j => some (ka_a G (5, k.2.1, j)))))))
  | 2 => .inr (2, [.ref (ka_a G (3, k.2.1, 0)), .ref (ka_a G (4, k.2.1, 0)), .int (σ.1 k 2)])
  | 3 => .inl (ka_r G 1, 16, .inr (.inl (σ.2 k)))
  | 4 => .inl (ka_r G 1, 16, .inr (.inl (σ.2 k)))
  | 5 => .inr (6, [.ref (ka_a G (6, k.2.1, k.2.2)), .ref (ka_a G (7, k.2.1, k.2.2)), .ref (ka_a G (8, k.2.1, k.2.2)), .ref (ka_a G (9, k.2.1, k.2.2)), .int (σ.1 k 4), .int (σ.1 k 5), .int (σ.1 k 6)])
  | 6 => .inl (ka_r G 1, 4, .inr (.inl (σ.2 k)))
  | 7 => .inl (ka_r G 1, 4, .inr (.inl (σ.2 k)))
  | 8 => .inl (ka_r G 0, 4, .inl (σ.1 k))
  | 9 => .inl (ka_r G 0, 24, .inl (σ.1 k))
  | 10 => .inr (5, [.ref (ka_a G (11, 0, 0)), .int (σ.1 k 1)])
  | 11 => .inl (ka_r G 0, 60, .inl (σ.1 k))
  | 12 => .inr (1, [.ref (ka_a G (13, 0, 0)), .ref (ka_a G (14, 0, 0)), .ref (ka_a G (15, 0, 0)), .int (σ.1 k 3), .int (σ.1 k 4), .ref (ka_a G (16, 0, 0)), .ref (ka_a G (17, 0, 0))])
  | 13 => .inl (ka_r G 0, 12, .inl (σ.1 k))
  | 14 => .inl (ka_r G 0, 12, .inl (σ.1 k))
  | 15 => .inl (ka_r G 0, 12, .inl (σ.1 k))
  | 16 => .inl (ka_r G 0, 12, .inl (σ.1 k))
  | 17 => .inl (ka_r G 0, 12, .inl (σ.1 k))
  | 18 => .inr (4, [.ref (ka_a G (19, 0, 0)), .int (σ.1 k 1), .ref (ka_a G (5, 18, (σ.1 k 2).toNatClampNeg)), .int (σ.1 k 3), .int (σ.1 k 4)])
  | 19 => .inl (ka_r G 3, 12, .inr (.inr (.inr (.inr (fun j => some (ka_a G (5, 18, j)))))))
  | 20 => .inr (0, [.ref (ka_a G (21, 0, 0)), .int (σ.1 k 1), .int (σ.1 k 2)])
  | 21 => .inl (ka_r G 4, 14, .inr (.inr (.inr (.inr (fun j => some (ka_a G (0, j + 4, 0)))))))
  | 22 => .inr (7, [.ref (ka_a G (10, 0, 0)), .ref (ka_a G (18, 0, 0)), .ref (ka_a G (0, 0, 0)), .ref (ka_a G (0, 1, 0)), .ref (ka_a G (12, 0, 0)), .ref (ka_a G (20, 0, 0)), .ref (ka_a G (23, 0, 0)), .ref (ka_a G (24, 0, 0))])
  | 23 => .inl (ka_r G 4, 2, .inr (.inr (.inr (.inr (fun j => some (ka_a G (0, j + 2, 0)))))))
  | _ => .inl (ka_r G 2, 2, .inl (σ.1 k))
def ka_wI (σ : ka_S) (k : ka_K) (j : Nat) (x : Int32) : ka_S := (fun k' => if k' = k then upd (σ.1 k) j x else σ.1 k', σ.2)
def ka_wL (σ : ka_S) (k : ka_K) (j : Nat) (x : Int64) : ka_S := (σ.1, fun k' => if k' = k then vp_updL (σ.2 k) j x else σ.2 k')
theorem ka_wI_ne {σ : ka_S} {k k' : ka_K} {j : Nat} {x : Int32} (h : k' ≠ k) : (ka_wI σ k j x).1 k' = σ.1 k' := if_neg h
theorem ka_wI_eq {σ : ka_S} {k : ka_K} {j : Nat} {x : Int32} : (ka_wI σ k j x).1 k = upd (σ.1 k) j x := if_pos rfl
theorem ka_wI_2 {σ : ka_S} {k : ka_K} {j : Nat} {x : Int32} : (ka_wI σ k j x).2 = σ.2 := rfl
theorem ka_wL_ne {σ : ka_S} {k k' : ka_K} {j : Nat} {x : Int64} (h : k' ≠ k) : (ka_wL σ k j x).2 k' = σ.2 k' := if_neg h
theorem ka_wL_eq {σ : ka_S} {k : ka_K} {j : Nat} {x : Int64} : (ka_wL σ k j x).2 k = vp_updL (σ.2 k) j x := if_pos rfl
theorem ka_wL_1 {σ : ka_S} {k : ka_K} {j : Nat} {x : Int64} : (ka_wL σ k j x).1 = σ.1 := rfl
theorem ka_c_I {G : ka_G} {σ : ka_S} {k k' : ka_K} {j : Nat} {x : Int32} (h : k' ≠ k) : ka_c G (ka_wI σ k j x) k' = ka_c G σ k' := by
  unfold ka_c
  rw [ka_wI_ne h, ka_wI_2]
theorem ka_c_L {G : ka_G} {σ : ka_S} {k k' : ka_K} {j : Nat} {x : Int64} (h : k' ≠ k) : ka_c G (ka_wL σ k j x) k' = ka_c G σ k' := by
  unfold ka_c
  rw [ka_wL_ne h, ka_wL_1]
def ka_P (G : ka_G) (σ : ka_S) (H : Heap) : Prop := ∀ k : ka_K, ka_v k → va_at (ka_D G) vwCl (ka_a G k, ka_c G σ k) H
def ka_I (G : ka_G) : Prop := (∀ k k' : ka_K, ka_v k → ka_v k' → ka_a G k = ka_a G k' → k = k') ∧ ∀ k : ka_K, ka_v k → ka_A G (ka_a G k)
abbrev ka_Kn (G : ka_G) (s : State) : Prop := va_K (ka_D G) vwCl (ka_tys G) s
def ka_B (G : ka_G) (σ : ka_S) (t : State) : Prop := ka_P G σ t.heap ∧ ka_Kn G t
theorem va_P1 {D : va_G} {cl : List vw_C} {q : Nat × va_E} {H : Heap} (h : va_at D cl q H) : va_P D cl [q] H := by
  intro k q' hq
  match k, hq with
  | 0, hq => cases hq; exact h
  | k + 1, hq => simp at hq
theorem ka_P.one {G : ka_G} {σ : ka_S} {H : Heap} (h : ka_P G σ H) {k : ka_K} (hv : ka_v k) : va_P (ka_D G) vwCl [(ka_a G k, ka_c G σ k)] H := va_P1 (h k hv)
/-- a cell is written: the world behind it -/
theorem ka_P.upd {G : ka_G} {σ σ1 : ka_S} {H H1 : Heap} (hI : ka_I G) (h : ka_P G σ H) {k : ka_K} (hv : ka_v k) (h2 : ∀ k', k' ≠ k → ka_c G σ1 k' = ka_c G σ k') (e : va_at (ka_D G) vwCl (ka_a G k, ka_c G σ1 k) H1) (oq : ∀ q : Nat, q ≠ ka_a G k → H1[q]? = H[q]?) : ka_P G σ1 H1 := by
  intro k' hv'
  by_cases hk : k' = k
  · subst hk; exact e
  · rw [h2 k' hk]
    exact (h k' hv').kept (oq _ (fun he => hk (hI.1 _ _ hv' hv he)))
/-- what a body stands on -/
def ka_C (p : Program) (s : State) (m : MethodId) (args : Array Value) (meth : Method) (c : Code) (cc : ByteArray) (nL : Nat) (own : String) (ret : Option FieldType) : Prop :=
  p.tables.exec = Jvm.exec ∧ c.code = cc ∧ meth.sig.returnType = ret ∧ c.maxLocals = nL ∧ s.vm.findClass own = some m.cls ∧ (∀ w ∈ kq_W, w.before args s = true) ∧ meth.locks = false
abbrev kw_ (y : MethodName) (cc : ByteArray) (nL : Nat) (ret : Option FieldType) : List Cond := .code y cc nL ret :: kq_W
abbrev kc_i (l : Launch) (y : MethodName) (ws : List Cond) (rm : Room) (G : ka_G) (av : List Value) (σ : ka_S) (Q : Int32 → ka_S → Prop) : Prop := Met l y ws rm (va_Pc av (ka_B G σ)) (va_Qi Q (ka_B G) (ka_A G)) 0 0 (ka_A G)
abbrev kc_l (l : Launch) (y : MethodName) (ws : List Cond) (rm : Room) (G : ka_G) (av : List Value) (σ : ka_S) (Q : Int64 → ka_S → Prop) : Prop := Met l y ws rm (va_Pc av (ka_B G σ)) (va_Ql Q (ka_B G) (ka_A G)) 0 0 (ka_A G)
abbrev kc_v (l : Launch) (y : MethodName) (ws : List Cond) (rm : Room) (G : ka_G) (av : List Value) (σ : ka_S) (Q : ka_S → Prop) : Prop := Met l y ws rm (va_Pc av (ka_B G σ)) (va_Qv Q (ka_B G) (ka_A G)) 0 0 (ka_A G)
abbrev kc_r (l : Launch) (y : MethodName) (ws : List Cond) (rm : Room) (G : ka_G) (av : List Value) (σ : ka_S) (kr : ka_K) (Q : ka_S → Prop) : Prop := Met l y ws rm (va_Pc av (ka_B G σ)) (va_Qr Q (fun u a t => a = ka_a G kr ∧ ka_B G u t) (ka_A G)) 0 0 (ka_A G)
theorem ka_blind {av : List Value} {G : ka_G} {σ : ka_S} : FrameBlind (va_Pc av (ka_B G σ)) := fun a U g mk q => ⟨q.1, q.2.1, va_K.moved (u := U) (U := U.calling g mk a) (Vm.Alike.refl U.vm) q.2.2⟩
/-- from a body to the contract: the plumbing, once -/
theorem ka_of {l : Launch} {y : MethodName} {cc : ByteArray} {nL : Nat} {ret : Option FieldType} {rm : Room} {G : ka_G} {av : List Value} {σ : ka_S} {Qc : Array Value → State → Outcome → State → Prop} (own : String) (ho : y.cls = own) (hy : plainName y.cls = true) (hn : (lg_sl av).length ≤ nL)
    (body : ∀ (p : Program) (e : Env) (s : State) (m : MethodId) (below : List Frame) (meth : Method) (c : Code), ka_C p s m av.toArray meth c cc nL own ret → ka_Kn G s → ∀ (H : Heap) (locs : List Loc), ka_P G σ H → va_S (ka_A G) s.heap H locs → ∀ ls : Array Slot, lv_has ls nL (lv_args 0 av) → W p l e rm s m av.toArray below meth c H locs 0 0 (MQ below Qc av.toArray s 0 0 (ka_A G)) (F0 m 0 ls [])) :
    Met l y (kw_ y cc nL ret) rm (va_Pc av (ka_B G σ)) Qc 0 0 (ka_A G) := by
  subst ho
  refine Met.ofW (cc := cc) (maxL := nL) (ret := ret) hy rfl ?_
  intro p e s m args below meth c s₁ B hml hv
  obtain ⟨rfl, hP, hK⟩ := hv
  have hts := atoms_spec (ws := kw_ y cc nL ret) B.pre
  have hl := lv_entry av (n := nL) hn
  rw [lg_entry_eq]
  exact body p e s m below meth c ⟨B.exec, B.bytes, B.returns, hml, findClass_of_methodNamed B.named, fun w hw => hts w (List.mem_cons_of_mem _ hw), B.notSynchronized⟩ hK _ _ hP va_S.rf _ hl
/-- what the tables say of a method that is called on an object; of a static one -/
def kd_V (y : MethodName) (bytes : ByteArray) (mL : Nat) (rt : Option FieldType) (n : Nat) : Prop := Cond.instanceMethod y ∈ kq_W ∧ Cond.selects y.cls y y ∈ kq_W ∧ Cond.initialized y.cls ∈ kq_W ∧ Cond.code y bytes mL rt ∈ kq_W ∧ (y.cls ≠ "java/lang/invoke/MethodHandle" ∧ y.cls ≠ "java/lang/invoke/VarHandle" ∧ (parseMethodDescriptor y.desc).map (fun d => d.parameters.length) = some n)
def kd_S (y : MethodName) (bytes : ByteArray) (mL : Nat) (rt : Option FieldType) (n : Nat) : Prop := Cond.static y ∈ kq_W ∧ Cond.initialized y.cls ∈ kq_W ∧ Cond.code y bytes mL rt ∈ kq_W ∧ (y.cls ≠ "java/lang/invoke/MethodHandle" ∧ y.cls ≠ "java/lang/invoke/VarHandle" ∧ (parseMethodDescriptor y.desc).map (fun d => d.parameters.length) = some n)
theorem vp_lt {i : Int32} {n : Nat} (h : vp_in i n) : i.toNatClampNeg < n := Nat.not_le.mp fun q => h (Or.inr q)
theorem kz_n {x : Int32} (h : x = 0 ∨ x = 1) : narrow .boolean (.int x) = .int x := by rcases h with rfl | rfl <;> rfl
theorem kz_f {x : Int32} (h : x = 0 ∨ x = 1) : fits .boolean (.int x) = true := by rcases h with rfl | rfl <;> rfl
theorem k_19 {o : Nat} (h : o < 18) : o < 19 := Nat.lt_succ_of_lt h
section KR
variable {p : Program} {l : Launch} {e : Env} {R : Room} {s : State} {m : MethodId} {args : Array Value} {below : List Frame} {meth : Method} {c : Code} {H : Heap} {locs : List Loc} {cells slots : Nat} {Q : State → Prop}
variable {cc : ByteArray} {pc : Nat} {ls : Array Slot} {rest : List Value} {G : ka_G} {σ : ka_S} {k : ka_K} {H0 : Heap} {own : String} {nL : Nat} {ret : Option FieldType}
theorem kr_get {ci j idx : Nat} {C O nm ds : String} {T : u_T} {N : Nat} {fs : List Value} {v : Value} (C0 : ka_C p s m args meth c cc nL own ret) (hK : ka_Kn G s) (hP : ka_P G σ H) (hv : ka_v k) (he : ka_c G σ k = .inr (ci, fs)) (hc : vwCl[ci]? = some (C, T, N)) (hin : ∀ w ∈ u_ws C T N, w ∈ kq_W) (hj : j < N) (hT : (O, nm, ds) = ((T j).1, (T j).2.1, (T j).2.2.1))
    (hlink : Cond.fieldLink own idx O nm ds ∈ kq_W) (hfv : fs[j]? = some v) (hdg : decode cc pc = .ok (.getfield idx, 3))
    (kk : W p l e R s m args below meth c H locs cells slots Q (F0 m (pc + 3) ls (v :: rest))) : W p l e R s m args below meth c H locs cells slots Q (F0 m pc ls (.ref (ka_a G k) :: rest)) := by
  obtain ⟨hx, hb, -, -, hown, hts, -⟩ := C0
  have e1 : O = (T j).1 := congrArg (fun q => q.1) hT
  have e2 : nm = (T j).2.1 := congrArg (fun q => q.2.1) hT
  have e3 : ds = (T j).2.2.1 := congrArg (fun q => q.2.2) hT
  subst e1; subst e2; subst e3
  exact va_get hx hb hts hin hown hK (hP.one hv) 0 (by rw [he]; rfl) hc j hj (hts _ hlink) (fun _ h => h) hfv hdg kk
theorem kr_put {ci j idx : Nat} {C O nm ds : String} {T : u_T} {N : Nat} {fs : List Value} {v : Value} {ty : FieldType} {σ1 : ka_S} (C0 : ka_C p s m args meth c cc nL own ret) (hK : ka_Kn G s) (hI : ka_I G) (hP : ka_P G σ H) (hS : va_S (ka_A G) H0 H locs) (hv : ka_v k) (he : ka_c G σ k = .inr (ci, fs)) (hc : vwCl[ci]? = some (C, T, N)) (hin : ∀ w ∈ u_ws C T N, w ∈ kq_W)
    (ty0 : Nat → FieldType) (hty : ∀ k, k < N → parseFieldDescriptor (T k).2.2.1 = some (ty0 k)) (hnm : ∀ a, a < N → ∀ b, b < N → a ≠ b → (T a).2.1 ≠ (T b).2.1) (hj : j < N) (hT : (O, nm, ds) = ((T j).1, (T j).2.1, (T j).2.2.1))
    (hlink : Cond.fieldLink own idx O nm ds ∈ kq_W) (hfin : (T j).2.2.2 = false) (hd : parseFieldDescriptor (T j).2.2.1 = some ty) (hn : narrow ty v = v) (hfit : fits ty v = true) (hl : j < fs.length) (h1 : ka_c G σ1 k = .inr (ci, fs.set j v)) (h2 : ∀ k', k' ≠ k → ka_c G σ1 k' = ka_c G σ k') (hdg : decode cc pc = .ok (.putfield idx, 3))
    (kk : ∀ (H1 : Heap) (locs1 : List Loc), ka_P G σ1 H1 → va_S (ka_A G) H0 H1 locs1 → W p l e R s m args below meth c H1 locs1 cells slots Q (F0 m (pc + 3) ls rest)) : W p l e R s m args below meth c H locs cells slots Q (F0 m pc ls (v :: .ref (ka_a G k) :: rest)) := by
  obtain ⟨hexec, hb, -, -, hown, hts, -⟩ := C0
  have e1 : O = (T j).1 := congrArg (fun q => q.1) hT
  have e2 : nm = (T j).2.1 := congrArg (fun q => q.2.1) hT
  have e3 : ds = (T j).2.2.1 := congrArg (fun q => q.2.2) hT
  subst e1; subst e2; subst e3
  have hap := va_apart (own := own) hts hin ty0 hty hnm hK hc
  have hat := hP k hv
  rw [he] at hat
  obtain ⟨r, q0, cell, q1, q2, q3, q4⟩ := hat
  have hr : r = (C, T, N) := Option.some.inj (q0.symm.trans hc)
  subst hr
  obtain ⟨hS1, hfc, kC, hkC, hkind⟩ := hK.1 ci _ hc
  obtain ⟨cf, kf, fi, f, hi, hsl⟩ := hS1 j hj
  have hlay := hts _ (hin _ (u_in_lay hj))
  unfold u_lay at hlay
  rw [if_neg (by rw [hfin]; decide)] at hlay
  have hst := (u_facts hfc hkC (u_lays hts hin hj) hi).1
  have h6 := u_store hfc hkC hkind hlay hi hd hn hfit
  refine W.putK hexec hb (f := f) ⟨hown, hts _ hlink, ⟨_, _, _, hi⟩, hst⟩ (by rw [q2]; exact h6) q1 q3 (by rw [hsl]; exact k2_hasslot (q4 j hj)) rfl rfl hdg fun H' e1 e2 e3 => ?_
  rw [hsl] at e1 ⊢
  refine kk H' _ (hP.upd hI hv h2 ?_ e3) (hS.put e2 e3 (hI.2 k hv))
  rw [h1]
  exact ⟨_, hc, t_OB.to (V := updV (vp_V fs) j v) ⟨_, e1, q2, q3, t_set q4 hap hj v⟩ (fun i _ => vp_updV_set hl v i)⟩
theorem kr_iald {n : Nat} {i : Int32} (C0 : ka_C p s m args meth c cc nL own ret) (hK : ka_Kn G s) (hP : ka_P G σ H) (hv : ka_v k) (he : ka_c G σ k = .inl (ka_r G 0, n, .inl (σ.1 k))) (hin : vp_in i n) (hdg : decode cc pc = .ok (.iaload, 1))
    (kk : W p l e R s m args below meth c H locs cells slots Q (F0 m (pc + 1) ls (.int (σ.1 k i.toNatClampNeg) :: rest))) : W p l e R s m args below meth c H locs cells slots Q (F0 m pc ls (.int i :: .ref (ka_a G k) :: rest)) :=
  va_iald C0.1 C0.2.1 hK (hP.one hv) 0 0 (by rw [he]; rfl) rfl hin hdg kk
theorem kr_zald {n : Nat} {i : Int32} (C0 : ka_C p s m args meth c cc nL own ret) (hK : ka_Kn G s) (hP : ka_P G σ H) (hv : ka_v k) (he : ka_c G σ k = .inl (ka_r G 2, n, .inl (σ.1 k))) (hin : vp_in i n) (hdg : decode cc pc = .ok (.baload, 1))
    (kk : W p l e R s m args below meth c H locs cells slots Q (F0 m (pc + 1) ls (.int (σ.1 k i.toNatClampNeg) :: rest))) : W p l e R s m args below meth c H locs cells slots Q (F0 m pc ls (.int i :: .ref (ka_a G k) :: rest)) :=
  va_zald C0.1 C0.2.1 hK (hP.one hv) 0 2 (by rw [he]; rfl) rfl hin hdg kk
theorem kr_lald {n : Nat} {i : Int32} (C0 : ka_C p s m args meth c cc nL own ret) (hK : ka_Kn G s) (hP : ka_P G σ H) (hv : ka_v k) (he : ka_c G σ k = .inl (ka_r G 1, n, .inr (.inl (σ.2 k)))) (hin : vp_in i n) (hdg : decode cc pc = .ok (.laload, 1))
    (kk : W p l e R s m args below meth c H locs cells slots Q (F0 m (pc + 1) ls (.long (σ.2 k i.toNatClampNeg) :: rest))) : W p l e R s m args below meth c H locs cells slots Q (F0 m pc ls (.int i :: .ref (ka_a G k) :: rest)) :=
  va_lald C0.1 C0.2.1 hK (hP.one hv) 0 1 (by rw [he]; rfl) rfl hin hdg kk
theorem kr_aald {n t : Nat} {CC : String} {i : Int32} {f : Nat → Option Nat} {q : Nat} (C0 : ka_C p s m args meth c cc nL own ret) (hK : ka_Kn G s) (hP : ka_P G σ H) (hv : ka_v k) (he : ka_c G σ k = .inl (ka_r G t, n, .inr (.inr (.inr (.inr f))))) (ht : (ka_tys G)[t]? = some (ka_r G t, .object CC)) (hin : vp_in i n) (hq : f i.toNatClampNeg = some q) (hdg : decode cc pc = .ok (.aaload, 1))
    (kk : W p l e R s m args below meth c H locs cells slots Q (F0 m (pc + 1) ls (.ref q :: rest))) : W p l e R s m args below meth c H locs cells slots Q (F0 m pc ls (.int i :: .ref (ka_a G k) :: rest)) := by
  refine va_aldq C0.1 C0.2.1 hK (hP.one hv) 0 t (C := CC) (by rw [he]; rfl) ht hin hdg ?_
  rw [hq]
  exact kk
theorem kr_iast {n : Nat} {i x : Int32} (C0 : ka_C p s m args meth c cc nL own ret) (hK : ka_Kn G s) (hI : ka_I G) (hP : ka_P G σ H) (hS : va_S (ka_A G) H0 H locs) (hv : ka_v k) (he : ∀ σ' : ka_S, ka_c G σ' k = .inl (ka_r G 0, n, .inl (σ'.1 k))) (hin : vp_in i n) (hdg : decode cc pc = .ok (.iastore, 1))
    (kk : ∀ (H1 : Heap) (locs1 : List Loc), ka_P G (ka_wI σ k i.toNatClampNeg x) H1 → va_S (ka_A G) H0 H1 locs1 → W p l e R s m args below meth c H1 locs1 cells slots Q (F0 m (pc + 1) ls rest)) : W p l e R s m args below meth c H locs cells slots Q (F0 m pc ls (.int x :: .int i :: .ref (ka_a G k) :: rest)) := by
  have hat := hP k hv
  rw [he] at hat
  refine W.iast C0.1 C0.2.1 hat ((hK.2 0 _ rfl).1 n (fun j => .int (σ.1 k j))) (fun q => by cases q) (by show ¬ (i < 0 ∨ (arrV _ _ _).slots.size ≤ _); rw [arrV_size]; exact hin) rfl rfl hdg fun H1 e z oq => ?_
  refine kk H1 _ (hP.upd hI hv (fun k' h => ka_c_I h) ?_ oq) (hS.put z oq (hI.2 k hv))
  rw [he, ka_wI_eq]
  show H1[_]? = some (vp_cell _ _)
  rw [e]
  rw [vp_cell_i, vp_cell_i, arrV_store]
  congr 2
  funext q
  by_cases hq : q = i.toNatClampNeg
  · subst hq
    simp [updV, upd]
  · simp [updV, upd, hq]
theorem kr_zast {n : Nat} {i x : Int32} (C0 : ka_C p s m args meth c cc nL own ret) (hK : ka_Kn G s) (hI : ka_I G) (hP : ka_P G σ H) (hS : va_S (ka_A G) H0 H locs) (hv : ka_v k) (he : ∀ σ' : ka_S, ka_c G σ' k = .inl (ka_r G 2, n, .inl (σ'.1 k))) (hin : vp_in i n) (hx : narrow .boolean (.int x) = .int x) (hdg : decode cc pc = .ok (.bastore, 1))
    (kk : ∀ (H1 : Heap) (locs1 : List Loc), ka_P G (ka_wI σ k i.toNatClampNeg x) H1 → va_S (ka_A G) H0 H1 locs1 → W p l e R s m args below meth c H1 locs1 cells slots Q (F0 m (pc + 1) ls rest)) : W p l e R s m args below meth c H locs cells slots Q (F0 m pc ls (.int x :: .int i :: .ref (ka_a G k) :: rest)) := by
  have hat := hP k hv
  rw [he] at hat
  refine W.zast C0.1 C0.2.1 hat ((hK.2 2 _ rfl).1 n (fun j => .int (σ.1 k j))) (fun q => by cases q) (by show ¬ (i < 0 ∨ (arrV _ _ _).slots.size ≤ _); rw [arrV_size]; exact hin) rfl rfl hdg fun H1 e z oq => ?_
  refine kk H1 _ (hP.upd hI hv (fun k' h => ka_c_I h) ?_ oq) (hS.put z oq (hI.2 k hv))
  rw [he, ka_wI_eq]
  show H1[_]? = some (vp_cell _ _)
  rw [e, hx]
  rw [vp_cell_i, vp_cell_i, arrV_store]
  congr 2
  funext q
  by_cases hq : q = i.toNatClampNeg
  · subst hq
    simp [updV, upd]
  · simp [updV, upd, hq]
theorem kr_last {n : Nat} {i : Int32} {x : Int64} (C0 : ka_C p s m args meth c cc nL own ret) (hK : ka_Kn G s) (hI : ka_I G) (hP : ka_P G σ H) (hS : va_S (ka_A G) H0 H locs) (hv : ka_v k) (he : ∀ σ' : ka_S, ka_c G σ' k = .inl (ka_r G 1, n, .inr (.inl (σ'.2 k)))) (hin : vp_in i n) (hdg : decode cc pc = .ok (.lastore, 1))
    (kk : ∀ (H1 : Heap) (locs1 : List Loc), ka_P G (ka_wL σ k i.toNatClampNeg x) H1 → va_S (ka_A G) H0 H1 locs1 → W p l e R s m args below meth c H1 locs1 cells slots Q (F0 m (pc + 1) ls rest)) : W p l e R s m args below meth c H locs cells slots Q (F0 m pc ls (.long x :: .int i :: .ref (ka_a G k) :: rest)) := by
  have hat := hP k hv
  rw [he] at hat
  refine W.last C0.1 C0.2.1 hat ((hK.2 1 _ rfl).1 n (fun j => .long (σ.2 k j))) (fun q => by cases q) (by show ¬ (i < 0 ∨ (arrV _ _ _).slots.size ≤ _); rw [arrV_size]; exact hin) rfl rfl hdg fun H1 e z oq => ?_
  refine kk H1 _ (hP.upd hI hv (fun k' h => ka_c_L h) ?_ oq) (hS.put z oq (hI.2 k hv))
  rw [he, ka_wL_eq]
  show H1[_]? = some (vp_cell _ _)
  rw [e]
  rw [vp_cell_l, vp_cell_l, arrV_store]
  congr 2
  funext q
  by_cases hq : q = i.toNatClampNeg
  · subst hq
    simp [updV, vp_updL]
  · simp [updV, vp_updL, hq]
theorem kr_clt {x y : Int64} {off : Int} {tgt : Nat} (C0 : ka_C p s m args meth c cc nL own ret) (d1 : decode cc pc = .ok (.lcmp, 1)) (d2 : decode cc (pc + 1) = .ok (.ifCond .lt off, 3)) (ht : ((pc + 1 : Nat) : Int) + off = (tgt : Int))
    (kt : x < y → W p l e R s m args below meth c H locs cells slots Q (F0 m tgt ls rest)) (kf : ¬ x < y → W p l e R s m args below meth c H locs cells slots Q (F0 m (pc + 4) ls rest)) : W p l e R s m args below meth c H locs cells slots Q (F0 m pc ls (.long y :: .long x :: rest)) :=
  W.lcmp C0.1 C0.2.1 d1 (lv_if_lt C0.1 C0.2.1 d2 ht (fun h => kt ((lg_cmp_lt x y).mp h)) (fun h => kf (fun q => h ((lg_cmp_lt x y).mpr q))))
theorem kr_cge {x y : Int64} {off : Int} {tgt : Nat} (C0 : ka_C p s m args meth c cc nL own ret) (d1 : decode cc pc = .ok (.lcmp, 1)) (d2 : decode cc (pc + 1) = .ok (.ifCond .ge off, 3)) (ht : ((pc + 1 : Nat) : Int) + off = (tgt : Int))
    (kt : y ≤ x → W p l e R s m args below meth c H locs cells slots Q (F0 m tgt ls rest)) (kf : ¬ y ≤ x → W p l e R s m args below meth c H locs cells slots Q (F0 m (pc + 4) ls rest)) : W p l e R s m args below meth c H locs cells slots Q (F0 m pc ls (.long y :: .long x :: rest)) :=
  W.lcmp C0.1 C0.2.1 d1 (lv_if_ge C0.1 C0.2.1 d2 ht (fun h => kt ((lg_cmp_ge x y).mp h)) (fun h => kf (fun q => h ((lg_cmp_ge x y).mpr q))))
theorem kr_cgt {x y : Int64} {off : Int} {tgt : Nat} (C0 : ka_C p s m args meth c cc nL own ret) (d1 : decode cc pc = .ok (.lcmp, 1)) (d2 : decode cc (pc + 1) = .ok (.ifCond .gt off, 3)) (ht : ((pc + 1 : Nat) : Int) + off = (tgt : Int))
    (kt : y < x → W p l e R s m args below meth c H locs cells slots Q (F0 m tgt ls rest)) (kf : ¬ y < x → W p l e R s m args below meth c H locs cells slots Q (F0 m (pc + 4) ls rest)) : W p l e R s m args below meth c H locs cells slots Q (F0 m pc ls (.long y :: .long x :: rest)) :=
  W.lcmp C0.1 C0.2.1 d1 (lv_if_gt C0.1 C0.2.1 d2 ht (fun h => kt ((lg_cmp_gt x y).mp h)) (fun h => kf (fun q => h ((lg_cmp_gt x y).mpr q))))
theorem kr_cle {x y : Int64} {off : Int} {tgt : Nat} (C0 : ka_C p s m args meth c cc nL own ret) (d1 : decode cc pc = .ok (.lcmp, 1)) (d2 : decode cc (pc + 1) = .ok (.ifCond .le off, 3)) (ht : ((pc + 1 : Nat) : Int) + off = (tgt : Int))
    (kt : x ≤ y → W p l e R s m args below meth c H locs cells slots Q (F0 m tgt ls rest)) (kf : ¬ x ≤ y → W p l e R s m args below meth c H locs cells slots Q (F0 m (pc + 4) ls rest)) : W p l e R s m args below meth c H locs cells slots Q (F0 m pc ls (.long y :: .long x :: rest)) :=
  W.lcmp C0.1 C0.2.1 d1 (lv_if_le C0.1 C0.2.1 d2 ht (fun h => kt ((lg_cmp_le x y).mp h)) (fun h => kf (fun q => h ((lg_cmp_le x y).mpr q))))
theorem kr_ceq {x y : Int64} {off : Int} {tgt : Nat} (C0 : ka_C p s m args meth c cc nL own ret) (d1 : decode cc pc = .ok (.lcmp, 1)) (d2 : decode cc (pc + 1) = .ok (.ifCond .eq off, 3)) (ht : ((pc + 1 : Nat) : Int) + off = (tgt : Int))
    (kt : x = y → W p l e R s m args below meth c H locs cells slots Q (F0 m tgt ls rest)) (kf : ¬ x = y → W p l e R s m args below meth c H locs cells slots Q (F0 m (pc + 4) ls rest)) : W p l e R s m args below meth c H locs cells slots Q (F0 m pc ls (.long y :: .long x :: rest)) :=
  W.lcmp C0.1 C0.2.1 d1 (lv_if_eq C0.1 C0.2.1 d2 ht (fun h => kt ((lg_cmp_eq x y).mp h)) (fun h => kf (fun q => h ((lg_cmp_eq x y).mpr q))))
theorem kr_cne {x y : Int64} {off : Int} {tgt : Nat} (C0 : ka_C p s m args meth c cc nL own ret) (d1 : decode cc pc = .ok (.lcmp, 1)) (d2 : decode cc (pc + 1) = .ok (.ifCond .ne off, 3)) (ht : ((pc + 1 : Nat) : Int) + off = (tgt : Int))
    (kt : ¬ x = y → W p l e R s m args below meth c H locs cells slots Q (F0 m tgt ls rest)) (kf : x = y → W p l e R s m args below meth c H locs cells slots Q (F0 m (pc + 4) ls rest)) : W p l e R s m args below meth c H locs cells slots Q (F0 m pc ls (.long y :: .long x :: rest)) :=
  W.lcmp C0.1 C0.2.1 d1 (lv_if_ne C0.1 C0.2.1 d2 ht (fun h => kt (fun q => h ((lg_cmp_eq x y).mpr q))) (fun h => kf ((lg_cmp_eq x y).mp h)))
variable {y : MethodName} {bytes : ByteArray} {mL idx n : Nat} {rt : Option FieldType} {rm : Room} {As : List Value} {CC : String}
theorem kr_cbV (C0 : ka_C p s m args meth c cc nL own ret) (hlink : Cond.methodLink own idx y ∈ kq_W) (kd : kd_V y bytes mL rt n) (hrm : rm.cells = 0 ∧ rm.slots = 0 ∧ rm.frames + 1 ≤ R.frames ∧ 8 + (mL + 11) + rm.locals ≤ R.locals) : CallW R s args own y.cls idx y bytes mL rt (kw_ y bytes mL rt) rm 0 0 n := by
  obtain ⟨-, -, -, -, -, hts, -⟩ := C0
  obtain ⟨hinst, hsel, hini, hcode, hd⟩ := kd
  refine ⟨callB_of (Ts := kq_W) n hts ?_ rfl hrm.1 hrm.2.1 (hts _ hini) (hts _ hlink) hd hrm.2.2, hts _ hinst, hts _ hsel⟩
  intro w hw
  rcases List.mem_cons.mp hw with h | h
  · subst h; exact ⟨hcode, kq_good hcode⟩
  · exact ⟨h, kq_good h⟩
theorem kr_cbS (C0 : ka_C p s m args meth c cc nL own ret) (hlink : Cond.methodLink own idx y ∈ kq_W) (kd : kd_S y bytes mL rt n) (hrm : rm.cells = 0 ∧ rm.slots = 0 ∧ rm.frames + 1 ≤ R.frames ∧ 8 + (mL + 11) + rm.locals ≤ R.locals) : CallB R s args own idx y bytes mL rt (kw_ y bytes mL rt) rm 0 0 n ∧ (Cond.static y).before args s = true := by
  obtain ⟨-, -, -, -, -, hts, -⟩ := C0
  obtain ⟨hstat, hini, hcode, hd⟩ := kd
  refine ⟨callB_of (Ts := kq_W) n hts ?_ rfl hrm.1 hrm.2.1 (hts _ hini) (hts _ hlink) hd hrm.2.2, hts _ hstat⟩
  intro w hw
  rcases List.mem_cons.mp hw with h | h
  · subst h; exact ⟨hcode, kq_good hcode⟩
  · exact ⟨h, kq_good h⟩
theorem ka_C.fix (C0 : ka_C p s m args meth c cc nL own ret) : CallFix p m c cc nL s args kq_W own := ⟨C0.1, C0.2.1, C0.2.2.2.1, C0.2.2.2.2.1, C0.2.2.2.2.2.1⟩
theorem kr_pV {ci : Nat} {q : vw_C} {fs : List Value} (hK : ka_Kn G s) (hP : ka_P G σ H) (hv : ka_v k) (he : ka_c G σ k = .inr (ci, fs)) (hc : vwCl[ci]? = some q) (hC : q.1 = CC) : PreV s H CC (ka_a G k) (va_Pc (.ref (ka_a G k) :: As) (ka_B G σ)) As := by
  subst hC
  exact ⟨ka_blind, va_recv hK (hP.one hv) (q0 := 0) hc (by rw [he]; rfl), fun U hU hW => ⟨rfl, by rw [hU]; exact hP, va_K.moved hW.alike hK⟩⟩
theorem kr_pS (hK : ka_Kn G s) (hP : ka_P G σ H) : PreS s H (va_Pc As (ka_B G σ)) As := ⟨ka_blind, fun U hU hW => ⟨rfl, by rw [hU]; exact hP, va_K.moved hW.alike hK⟩⟩
theorem kr_Vi {Qp : Int32 → ka_S → Prop} {lv : List (Nat × Value)} (C0 : ka_C p s m args meth c cc nL own ret) (hK : ka_Kn G s) (hP : ka_P G σ H) (hS : va_S (ka_A G) H0 H locs) (hl : lv_has ls nL lv) (hM : kc_i l y (kw_ y bytes mL rt) rm G (.ref (ka_a G k) :: As) σ Qp) (kd : kd_V y bytes mL rt n) (hlink : Cond.methodLink own idx y ∈ kq_W) (hv : ka_v k) {ci : Nat} {q : vw_C} {fs : List Value} (he : ka_c G σ k = .inr (ci, fs)) (hc : vwCl[ci]? = some q) (hC : q.1 = y.cls) (hrm : rm.cells = 0 ∧ rm.slots = 0 ∧ rm.frames + 1 ≤ R.frames ∧ 8 + (mL + 11) + rm.locals ≤ R.locals) (hn : As.length = n) (hW : (rest.map fun v => v.category).sum ≤ 8) (hdg : decode cc pc = .ok (.invokevirtual idx, 3)) (hf : cells ≤ R.cells ∧ slots ≤ R.slots)
    (kk : ∀ (r : Int32) (σ1 : ka_S) (H1 : Heap) (locs1 : List Loc), Qp r σ1 → ka_P G σ1 H1 → va_S (ka_A G) H0 H1 locs1 → W p l e R s m args below meth c H1 locs1 cells slots Q (F0 m (pc + 3) ls (.int r :: rest))) : W p l e R s m args below meth c H locs cells slots Q (F0 m pc ls (As.reverse ++ .ref (ka_a G k) :: rest)) :=
  va_calli (va_runV C0.fix hM (kr_cbV C0 hlink kd hrm) (kr_pV hK hP hv he hc hC) rfl hn hl.1 rfl (lv_room hW) hdg hf) hS (fun q _ h => h) (fun q h => h) (fun r u t H1 locs1 ht hvm hw hB hz hk1 hS1 => kk r u H1 locs1 hw (by rw [← ht]; exact hB.1) hS1)
theorem kr_Vl {Qp : Int64 → ka_S → Prop} {lv : List (Nat × Value)} (C0 : ka_C p s m args meth c cc nL own ret) (hK : ka_Kn G s) (hP : ka_P G σ H) (hS : va_S (ka_A G) H0 H locs) (hl : lv_has ls nL lv) (hM : kc_l l y (kw_ y bytes mL rt) rm G (.ref (ka_a G k) :: As) σ Qp) (kd : kd_V y bytes mL rt n) (hlink : Cond.methodLink own idx y ∈ kq_W) (hv : ka_v k) {ci : Nat} {q : vw_C} {fs : List Value} (he : ka_c G σ k = .inr (ci, fs)) (hc : vwCl[ci]? = some q) (hC : q.1 = y.cls) (hrm : rm.cells = 0 ∧ rm.slots = 0 ∧ rm.frames + 1 ≤ R.frames ∧ 8 + (mL + 11) + rm.locals ≤ R.locals) (hn : As.length = n) (hW : (rest.map fun v => v.category).sum ≤ 8) (hdg : decode cc pc = .ok (.invokevirtual idx, 3)) (hf : cells ≤ R.cells ∧ slots ≤ R.slots)
    (kk : ∀ (r : Int64) (σ1 : ka_S) (H1 : Heap) (locs1 : List Loc), Qp r σ1 → ka_P G σ1 H1 → va_S (ka_A G) H0 H1 locs1 → W p l e R s m args below meth c H1 locs1 cells slots Q (F0 m (pc + 3) ls (.long r :: rest))) : W p l e R s m args below meth c H locs cells slots Q (F0 m pc ls (As.reverse ++ .ref (ka_a G k) :: rest)) :=
  va_calll (va_runV C0.fix hM (kr_cbV C0 hlink kd hrm) (kr_pV hK hP hv he hc hC) rfl hn hl.1 rfl (lv_room hW) hdg hf) hS (fun q _ h => h) (fun q h => h) (fun r u t H1 locs1 ht hvm hw hB hz hk1 hS1 => kk r u H1 locs1 hw (by rw [← ht]; exact hB.1) hS1)
theorem kr_Vv {Qp : ka_S → Prop} {lv : List (Nat × Value)} (C0 : ka_C p s m args meth c cc nL own ret) (hK : ka_Kn G s) (hP : ka_P G σ H) (hS : va_S (ka_A G) H0 H locs) (hl : lv_has ls nL lv) (hM : kc_v l y (kw_ y bytes mL rt) rm G (.ref (ka_a G k) :: As) σ Qp) (kd : kd_V y bytes mL rt n) (hlink : Cond.methodLink own idx y ∈ kq_W) (hv : ka_v k) {ci : Nat} {q : vw_C} {fs : List Value} (he : ka_c G σ k = .inr (ci, fs)) (hc : vwCl[ci]? = some q) (hC : q.1 = y.cls) (hrm : rm.cells = 0 ∧ rm.slots = 0 ∧ rm.frames + 1 ≤ R.frames ∧ 8 + (mL + 11) + rm.locals ≤ R.locals) (hn : As.length = n) (hW : (rest.map fun v => v.category).sum ≤ 8) (hdg : decode cc pc = .ok (.invokevirtual idx, 3)) (hf : cells ≤ R.cells ∧ slots ≤ R.slots)
    (kk : ∀ (σ1 : ka_S) (H1 : Heap) (locs1 : List Loc), Qp σ1 → ka_P G σ1 H1 → va_S (ka_A G) H0 H1 locs1 → W p l e R s m args below meth c H1 locs1 cells slots Q (F0 m (pc + 3) ls (rest))) : W p l e R s m args below meth c H locs cells slots Q (F0 m pc ls (As.reverse ++ .ref (ka_a G k) :: rest)) :=
  va_callv (va_runV C0.fix hM (kr_cbV C0 hlink kd hrm) (kr_pV hK hP hv he hc hC) rfl hn hl.1 rfl (lv_room hW) hdg hf) hS (fun q _ h => h) (fun q h => h) (fun u t H1 locs1 ht hvm hw hB hz hk1 hS1 => kk u H1 locs1 hw (by rw [← ht]; exact hB.1) hS1)
theorem kr_Vr {Qp : ka_S → Prop} {kr : ka_K} {lv : List (Nat × Value)} (C0 : ka_C p s m args meth c cc nL own ret) (hK : ka_Kn G s) (hP : ka_P G σ H) (hS : va_S (ka_A G) H0 H locs) (hl : lv_has ls nL lv) (hM : kc_r l y (kw_ y bytes mL rt) rm G (.ref (ka_a G k) :: As) σ kr Qp) (kd : kd_V y bytes mL rt n) (hlink : Cond.methodLink own idx y ∈ kq_W) (hv : ka_v k) {ci : Nat} {q : vw_C} {fs : List Value} (he : ka_c G σ k = .inr (ci, fs)) (hc : vwCl[ci]? = some q) (hC : q.1 = y.cls) (hrm : rm.cells = 0 ∧ rm.slots = 0 ∧ rm.frames + 1 ≤ R.frames ∧ 8 + (mL + 11) + rm.locals ≤ R.locals) (hn : As.length = n) (hW : (rest.map fun v => v.category).sum ≤ 8) (hdg : decode cc pc = .ok (.invokevirtual idx, 3)) (hf : cells ≤ R.cells ∧ slots ≤ R.slots)
    (kk : ∀ (σ1 : ka_S) (H1 : Heap) (locs1 : List Loc), Qp σ1 → ka_P G σ1 H1 → va_S (ka_A G) H0 H1 locs1 → W p l e R s m args below meth c H1 locs1 cells slots Q (F0 m (pc + 3) ls (.ref (ka_a G kr) :: rest))) : W p l e R s m args below meth c H locs cells slots Q (F0 m pc ls (As.reverse ++ .ref (ka_a G k) :: rest)) :=
  va_callr (va_runV C0.fix hM (kr_cbV C0 hlink kd hrm) (kr_pV hK hP hv he hc hC) rfl hn hl.1 rfl (lv_room hW) hdg hf) hS (fun q _ h => h) (fun q h => h) (fun u ra t H1 locs1 ht hvm hw hB hz hk1 hS1 => by obtain ⟨rfl, hB⟩ := hB; exact kk u H1 locs1 hw (by rw [← ht]; exact hB.1) hS1)
theorem kr_Si {Qp : Int32 → ka_S → Prop} {lv : List (Nat × Value)} (C0 : ka_C p s m args meth c cc nL own ret) (hK : ka_Kn G s) (hP : ka_P G σ H) (hS : va_S (ka_A G) H0 H locs) (hl : lv_has ls nL lv) (hM : kc_i l y (kw_ y bytes mL rt) rm G As σ Qp) (kd : kd_S y bytes mL rt n) (hlink : Cond.methodLink own idx y ∈ kq_W) (hrm : rm.cells = 0 ∧ rm.slots = 0 ∧ rm.frames + 1 ≤ R.frames ∧ 8 + (mL + 11) + rm.locals ≤ R.locals) (hn : As.length = n) (hW : (rest.map fun v => v.category).sum ≤ 8) (hdg : decode cc pc = .ok (.invokestatic idx, 3)) (hf : cells ≤ R.cells ∧ slots ≤ R.slots)
    (kk : ∀ (r : Int32) (σ1 : ka_S) (H1 : Heap) (locs1 : List Loc), Qp r σ1 → ka_P G σ1 H1 → va_S (ka_A G) H0 H1 locs1 → W p l e R s m args below meth c H1 locs1 cells slots Q (F0 m (pc + 3) ls (.int r :: rest))) : W p l e R s m args below meth c H locs cells slots Q (F0 m pc ls (As.reverse ++ rest)) :=
  va_calli (va_runS C0.fix hM (kr_cbS C0 hlink kd hrm) (kr_pS hK hP) rfl hn hl.1 rfl (lv_room hW) hdg hf) hS (fun q _ h => h) (fun q h => h) (fun r u t H1 locs1 ht hvm hw hB hz hk1 hS1 => kk r u H1 locs1 hw (by rw [← ht]; exact hB.1) hS1)
theorem kr_Sl {Qp : Int64 → ka_S → Prop} {lv : List (Nat × Value)} (C0 : ka_C p s m args meth c cc nL own ret) (hK : ka_Kn G s) (hP : ka_P G σ H) (hS : va_S (ka_A G) H0 H locs) (hl : lv_has ls nL lv) (hM : kc_l l y (kw_ y bytes mL rt) rm G As σ Qp) (kd : kd_S y bytes mL rt n) (hlink : Cond.methodLink own idx y ∈ kq_W) (hrm : rm.cells = 0 ∧ rm.slots = 0 ∧ rm.frames + 1 ≤ R.frames ∧ 8 + (mL + 11) + rm.locals ≤ R.locals) (hn : As.length = n) (hW : (rest.map fun v => v.category).sum ≤ 8) (hdg : decode cc pc = .ok (.invokestatic idx, 3)) (hf : cells ≤ R.cells ∧ slots ≤ R.slots)
    (kk : ∀ (r : Int64) (σ1 : ka_S) (H1 : Heap) (locs1 : List Loc), Qp r σ1 → ka_P G σ1 H1 → va_S (ka_A G) H0 H1 locs1 → W p l e R s m args below meth c H1 locs1 cells slots Q (F0 m (pc + 3) ls (.long r :: rest))) : W p l e R s m args below meth c H locs cells slots Q (F0 m pc ls (As.reverse ++ rest)) :=
  va_calll (va_runS C0.fix hM (kr_cbS C0 hlink kd hrm) (kr_pS hK hP) rfl hn hl.1 rfl (lv_room hW) hdg hf) hS (fun q _ h => h) (fun q h => h) (fun r u t H1 locs1 ht hvm hw hB hz hk1 hS1 => kk r u H1 locs1 hw (by rw [← ht]; exact hB.1) hS1)
theorem kr_Sv {Qp : ka_S → Prop} {lv : List (Nat × Value)} (C0 : ka_C p s m args meth c cc nL own ret) (hK : ka_Kn G s) (hP : ka_P G σ H) (hS : va_S (ka_A G) H0 H locs) (hl : lv_has ls nL lv) (hM : kc_v l y (kw_ y bytes mL rt) rm G As σ Qp) (kd : kd_S y bytes mL rt n) (hlink : Cond.methodLink own idx y ∈ kq_W) (hrm : rm.cells = 0 ∧ rm.slots = 0 ∧ rm.frames + 1 ≤ R.frames ∧ 8 + (mL + 11) + rm.locals ≤ R.locals) (hn : As.length = n) (hW : (rest.map fun v => v.category).sum ≤ 8) (hdg : decode cc pc = .ok (.invokestatic idx, 3)) (hf : cells ≤ R.cells ∧ slots ≤ R.slots)
    (kk : ∀ (σ1 : ka_S) (H1 : Heap) (locs1 : List Loc), Qp σ1 → ka_P G σ1 H1 → va_S (ka_A G) H0 H1 locs1 → W p l e R s m args below meth c H1 locs1 cells slots Q (F0 m (pc + 3) ls (rest))) : W p l e R s m args below meth c H locs cells slots Q (F0 m pc ls (As.reverse ++ rest)) :=
  va_callv (va_runS C0.fix hM (kr_cbS C0 hlink kd hrm) (kr_pS hK hP) rfl hn hl.1 rfl (lv_room hW) hdg hf) hS (fun q _ h => h) (fun q h => h) (fun u t H1 locs1 ht hvm hw hB hz hk1 hS1 => kk u H1 locs1 hw (by rw [← ht]; exact hB.1) hS1)
theorem kr_Sr {Qp : ka_S → Prop} {kr : ka_K} {lv : List (Nat × Value)} (C0 : ka_C p s m args meth c cc nL own ret) (hK : ka_Kn G s) (hP : ka_P G σ H) (hS : va_S (ka_A G) H0 H locs) (hl : lv_has ls nL lv) (hM : kc_r l y (kw_ y bytes mL rt) rm G As σ kr Qp) (kd : kd_S y bytes mL rt n) (hlink : Cond.methodLink own idx y ∈ kq_W) (hrm : rm.cells = 0 ∧ rm.slots = 0 ∧ rm.frames + 1 ≤ R.frames ∧ 8 + (mL + 11) + rm.locals ≤ R.locals) (hn : As.length = n) (hW : (rest.map fun v => v.category).sum ≤ 8) (hdg : decode cc pc = .ok (.invokestatic idx, 3)) (hf : cells ≤ R.cells ∧ slots ≤ R.slots)
    (kk : ∀ (σ1 : ka_S) (H1 : Heap) (locs1 : List Loc), Qp σ1 → ka_P G σ1 H1 → va_S (ka_A G) H0 H1 locs1 → W p l e R s m args below meth c H1 locs1 cells slots Q (F0 m (pc + 3) ls (.ref (ka_a G kr) :: rest))) : W p l e R s m args below meth c H locs cells slots Q (F0 m pc ls (As.reverse ++ rest)) :=
  va_callr (va_runS C0.fix hM (kr_cbS C0 hlink kd hrm) (kr_pS hK hP) rfl hn hl.1 rfl (lv_room hW) hdg hf) hS (fun q _ h => h) (fun q h => h) (fun u ra t H1 locs1 ht hvm hw hB hz hk1 hS1 => by obtain ⟨rfl, hB⟩ := hB; exact kk u H1 locs1 hw (by rw [← ht]; exact hB.1) hS1)
theorem kr_max {x y : Int32} {lv : List (Nat × Value)} (C0 : ka_C p s m args meth c cc nL own ret) (hl : lv_has ls nL lv) (hlink : Cond.methodLink own idx Lib.Math.max.name ∈ kq_W) (hlocals : 1 ≤ R.frames ∧ (rest.map fun v => v.category).sum + 13 ≤ R.locals) (hf : cells ≤ R.cells ∧ slots ≤ R.slots) (hdg : decode cc pc = .ok (.invokestatic idx, 3))
    (kk : W p l e R s m args below meth c H locs cells slots Q (F0 m (pc + 3) ls (.int (if x < y then y else x) :: rest))) : W p l e R s m args below meth c H locs cells slots Q (F0 m pc ls (.int y :: .int x :: rest)) := by
  obtain ⟨hx, hb, -, hml, hown, hts, -⟩ := C0
  exact va_mmax hx hb (hml.trans hl.1.symm) hown (hts _ hlink) (hts _ kq_521) (hts _ kq_10) (hts _ kq_522) hlocals.1 hlocals.2 hf.1 hf.2 hdg kk
theorem kr_min {x y : Int32} {lv : List (Nat × Value)} (C0 : ka_C p s m args meth c cc nL own ret) (hl : lv_has ls nL lv) (hlink : Cond.methodLink own idx Lib.Math.min.name ∈ kq_W) (hlocals : 1 ≤ R.frames ∧ (rest.map fun v => v.category).sum + 13 ≤ R.locals) (hf : cells ≤ R.cells ∧ slots ≤ R.slots) (hdg : decode cc pc = .ok (.invokestatic idx, 3))
    (kk : W p l e R s m args below meth c H locs cells slots Q (F0 m (pc + 3) ls (.int (if y < x then y else x) :: rest))) : W p l e R s m args below meth c H locs cells slots Q (F0 m pc ls (.int y :: .int x :: rest)) := by
  obtain ⟨hx, hb, -, hml, hown, hts, -⟩ := C0
  exact va_mmin hx hb (hml.trans hl.1.symm) hown (hts _ hlink) (hts _ kq_708) (hts _ kq_10) (hts _ kq_709) hlocals.1 hlocals.2 hf.1 hf.2 hdg kk

theorem kr_iret {v : Int32} {Qp : Int32 → ka_S → Prop} (C0 : ka_C p s m args meth c cc nL own (some .int)) (hK : ka_Kn G s) (hP : ka_P G σ H) (hS : va_S (ka_A G) s.heap H locs) (hq : Qp v σ) (hdg : decode cc pc = .ok (.ireturn, 1)) : W p l e R s m args below meth c H locs cells slots (MQ below (va_Qi Qp (ka_B G) (ka_A G)) args s cells slots (ka_A G)) (F0 m pc ls [.int v]) :=
  W.iret (v := v) C0.1 C0.2.1 C0.2.2.1 (fun t ht hW => ⟨⟨v, σ, rfl, hq, by rw [ht]; exact hP, va_K.moved hW.alike hK⟩, hS.F ht⟩) hS.2.2 hdg C0.2.2.2.2.2.2
theorem kr_zret {v : Int32} {Qp : Int32 → ka_S → Prop} (C0 : ka_C p s m args meth c cc nL own (some .boolean)) (hK : ka_Kn G s) (hP : ka_P G σ H) (hS : va_S (ka_A G) s.heap H locs) (hz : narrow .boolean (.int v) = .int v) (hq : Qp v σ) (hdg : decode cc pc = .ok (.ireturn, 1)) : W p l e R s m args below meth c H locs cells slots (MQ below (va_Qi Qp (ka_B G) (ka_A G)) args s cells slots (ka_A G)) (F0 m pc ls [.int v]) :=
  W.zret (v := v) C0.1 C0.2.1 C0.2.2.1 hz (fun t ht hW => ⟨⟨v, σ, rfl, hq, by rw [ht]; exact hP, va_K.moved hW.alike hK⟩, hS.F ht⟩) hS.2.2 hdg C0.2.2.2.2.2.2
theorem kr_lret {v : Int64} {Qp : Int64 → ka_S → Prop} (C0 : ka_C p s m args meth c cc nL own (some .long)) (hK : ka_Kn G s) (hP : ka_P G σ H) (hS : va_S (ka_A G) s.heap H locs) (hq : Qp v σ) (hdg : decode cc pc = .ok (.lreturn, 1)) : W p l e R s m args below meth c H locs cells slots (MQ below (va_Ql Qp (ka_B G) (ka_A G)) args s cells slots (ka_A G)) (F0 m pc ls [.long v]) :=
  W.lret (v := v) C0.1 C0.2.1 C0.2.2.1 (fun t ht hW => ⟨⟨v, σ, rfl, hq, by rw [ht]; exact hP, va_K.moved hW.alike hK⟩, hS.F ht⟩) hS.2.2 hdg C0.2.2.2.2.2.2
theorem kr_vret {Qp : ka_S → Prop} (C0 : ka_C p s m args meth c cc nL own none) (hK : ka_Kn G s) (hP : ka_P G σ H) (hS : va_S (ka_A G) s.heap H locs) (hq : Qp σ) (hdg : decode cc pc = .ok (.return_, 1)) : W p l e R s m args below meth c H locs cells slots (MQ below (va_Qv Qp (ka_B G) (ka_A G)) args s cells slots (ka_A G)) (F0 m pc ls []) :=
  W.vret C0.1 C0.2.1 C0.2.2.1 (fun t ht hW => ⟨⟨σ, rfl, hq, by rw [ht]; exact hP, va_K.moved hW.alike hK⟩, hS.F ht⟩) hS.2.2 hdg C0.2.2.2.2.2.2
theorem kr_aret {nm : String} {Qp : ka_S → Prop} (C0 : ka_C p s m args meth c cc nL own (some (.object nm))) (hK : ka_Kn G s) (hP : ka_P G σ H) (hS : va_S (ka_A G) s.heap H locs) (hq : Qp σ) (hdg : decode cc pc = .ok (.areturn, 1)) : W p l e R s m args below meth c H locs cells slots (MQ below (va_Qr Qp (fun u a t => a = ka_a G k ∧ ka_B G u t) (ka_A G)) args s cells slots (ka_A G)) (F0 m pc ls [.ref (ka_a G k)]) :=
  W.aret (v := .ref (ka_a G k)) C0.1 C0.2.1 C0.2.2.1 (Or.inl ⟨_, rfl⟩) (Or.inr ⟨_, rfl⟩) (fun t ht hW => ⟨⟨σ, ka_a G k, rfl, hq, rfl, by rw [ht]; exact hP, va_K.moved hW.alike hK⟩, hS.F ht⟩) hS.2.2 hdg C0.2.2.2.2.2.2
end KR
