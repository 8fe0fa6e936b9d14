/-! Constructors: worlds are lists of cells by their addresses, and grow. -/
/-- words that the lists do not keep, for the constructors: the nest mates', the array of sheets -/
def Nq (U : State) : Prop := va_Nw (.methodLinkNest "RosetteShow" 30 yX1_init "RosetteShow") U ∧ va_Nw (.methodLinkNest "RosetteShow" 59 yX7_init "RosetteShow") U ∧ va_Nw (.methodLinkNest "RosetteShow" 66 yX0_init "RosetteShow") U ∧ va_Nw (.methodLinkNest "RosetteShow" 79 yX4_init "RosetteShow") U ∧ va_AO "RosetteShow$Sheet" U
theorem Nq_warm {s U : State} (hW : s.WarmedH U.vm) (h : Nq s) : Nq U := ⟨va_Nw.warmM hW h.1, va_Nw.warmM hW h.2.1, va_Nw.warmM hW h.2.2.1, va_Nw.warmM hW h.2.2.2.1, va_AO.moved hW.alike h.2.2.2.2⟩
theorem Nq_same {u U : State} (e : u.vm = U.vm) (hm : u.vm.Alike U.vm) (h : Nq u) : Nq U := ⟨va_Nw.same rfl e h.1, va_Nw.same rfl e h.2.1, va_Nw.same rfl e h.2.2.1, va_Nw.same rfl e h.2.2.2.1, va_AO.moved hm h.2.2.2.2⟩
def rmK (n mc ms : Nat) : Room := { frames := n, cells := mc, slots := ms, locals := 30 * n }
def QD (D : va_G) (cs : Cs) (A : Nat → Prop) (Ps : va_W → Prop) : Array Value → State → Outcome → State → Prop := fun _ st oc t => oc = .returned none ∧ (∃ ws, Ps ws ∧ va_P D vwCl ws t.heap ∧ va_D A ws) ∧ va_F A st t
def CD (y : MethodName) (cc : ByteArray) (nL lev mc ms : Nat) (as : List Value) (w0 : va_W) (cs : Cs) (Ps : va_W → Prop) : Prop :=
  ∀ (l : Launch) (D : va_G) (sz : Nat), Met l y (.code y cc nL none :: lw_g) (rmK lev mc ms) (va_Pc as (fun U => U.heap.size = sz ∧ va_P D vwCl w0 U.heap ∧ va_K D vwCl (tyl cs) U ∧ va_D (fun _ => True) w0 ∧ Nq U)) (QD D cs (va_A w0 sz) Ps) mc ms (va_A w0 sz)
def XD (own : String) (cc : ByteArray) (nL : Nat) (cs : Cs) (A : Nat → Prop) (p : Program) (s : State) (m : MethodId) (args : Array Value) (meth : Method) (c : Code) (D : va_G) : Prop :=
  p.tables.exec = Jvm.exec ∧ c.code = cc ∧ c.maxLocals = nL ∧ meth.sig.returnType = none ∧ meth.locks = false ∧ s.vm.findClass own = some m.cls ∧ (∀ x ∈ lw_g, x.before args s = true) ∧ va_K D vwCl (tyl cs) s ∧ (∀ q, s.heap.size ≤ q → A q) ∧ meth.name = "<init>" ∧ Nq s
def GD (own : String) (cc : ByteArray) (nL lev mc ms : Nat) (cs : Cs) (A : Nat → Prop) (Ps : va_W → Prop) (pc : Nat) (ls : List (Nat × Value)) (st : List Value) (ws : va_W) (ce sl : Nat) : Prop :=
  ∀ (p : Program) (l : Launch) (e : Env) (s : State) (m : MethodId) (args : Array Value) (below : List Frame) (meth : Method) (c : Code) (D : va_G), XD own cc nL cs A p s m args meth c D → ∀ (H : Heap) (locs : List Loc) (la : Array Slot),
    va_P D vwCl ws H → va_D A ws → va_S A s.heap H locs → lv_has la nL ls → W p l e (rmK lev mc ms) s m args below meth c H locs ce sl (MQ below (QD D cs A Ps) args s mc ms A) (F0 m pc la st)
theorem CD_of {y : MethodName} {cc : ByteArray} {nL lev mc ms : Nat} {as : List Value} {w0 : va_W} {cs : Cs} {Ps : va_W → Prop} (hy : plainFor y = true) (hni : y.name = "<init>") (hn : (lg_sl as).length ≤ nL) (k : ∀ sz : Nat, GD y.cls cc nL lev mc ms cs (va_A w0 sz) Ps 0 (lv_args 0 as) [] w0 0 0) : CD y cc nL lev mc ms as w0 cs Ps := by
  intro l D sz
  refine Met_ofWF (cc := cc) (maxL := nL) (ret := none) hy rfl ?_
  intro p e s m args below meth c s₁ B hml hv
  obtain ⟨rfl, hsz, hP, hK, hD0, hN⟩ := hv
  subst hsz
  have hts := atoms_spec (ws := Cond.code y cc nL none :: lw_g) B.pre
  have hl := lv_entry as (n := nL) hn
  rw [lg_entry_eq]
  exact k s.heap.size p l e s m _ below meth c D ⟨B.exec, B.bytes, hml, B.returns, B.notSynchronized, findClass_of_methodNamed B.named, fun x hx => hts x (List.mem_cons_of_mem _ hx), hK, fun q h => Or.inr h, (name_of_methodNamed B.named B.method).1.trans hni, hN⟩ s.heap [] _ hP hD0.self va_S.rf hl
section GDR
variable {own : String} {cc : ByteArray} {nL lev mc ms : Nat} {cs : Cs} {A : Nat → Prop} {Ps : va_W → Prop} {pc : Nat} {ls : List (Nat × Value)} {st : List Value} {ws : va_W} {ce sl : Nat}
theorem GD_aload_n {q : Fin 4} {x : Nat} (j : Nat) (hd : decode cc pc = .ok (.aload_n q, 1)) (hj : ls[j]? = some ((q : Nat), .ref x)) (k : GD own cc nL lev mc ms cs A Ps (pc + 1) ls (.ref x :: st) ws ce sl) : GD own cc nL lev mc ms cs A Ps pc ls (st) ws ce sl :=
  fun p l e s m args below meth c D C H locs la hP hD hS hl => lv_aload_n C.1 C.2.1 hd rfl (lv_at hl j hj) (k p l e s m args below meth c D C H locs la hP hD hS hl)
theorem GD_iload_n {q : Fin 4} {x : Int32} (j : Nat) (hd : decode cc pc = .ok (.iload_n q, 1)) (hj : ls[j]? = some ((q : Nat), .int x)) (k : GD own cc nL lev mc ms cs A Ps (pc + 1) ls (.int x :: st) ws ce sl) : GD own cc nL lev mc ms cs A Ps pc ls (st) ws ce sl :=
  fun p l e s m args below meth c D C H locs la hP hD hS hl => lv_iload_n C.1 C.2.1 hd rfl (lv_at hl j hj) (k p l e s m args below meth c D C H locs la hP hD hS hl)
theorem GD_iconst {n : Int} (v : Int32) (hd : decode cc pc = .ok (.iconst n, 1)) (hv : Int32.ofInt n = v) (k : GD own cc nL lev mc ms cs A Ps (pc + 1) ls (.int v :: st) ws ce sl) : GD own cc nL lev mc ms cs A Ps pc ls (st) ws ce sl :=
  fun p l e s m args below meth c D C H locs la hP hD hS hl => lv_iconst C.1 C.2.1 hd hv (k p l e s m args below meth c D C H locs la hP hD hS hl)
theorem GD_bipush {n : Int} (v : Int32) (hd : decode cc pc = .ok (.bipush n, 2)) (hv : (Int8.ofInt n).toInt32 = v) (k : GD own cc nL lev mc ms cs A Ps (pc + 2) ls (.int v :: st) ws ce sl) : GD own cc nL lev mc ms cs A Ps pc ls (st) ws ce sl :=
  fun p l e s m args below meth c D C H locs la hP hD hS hl => lv_bipush C.1 C.2.1 hd hv (k p l e s m args below meth c D C H locs la hP hD hS hl)
theorem GD_sipush {n : Int} (v : Int32) (hd : decode cc pc = .ok (.sipush n, 3)) (hv : (Int16.ofInt n).toInt32 = v) (k : GD own cc nL lev mc ms cs A Ps (pc + 3) ls (.int v :: st) ws ce sl) : GD own cc nL lev mc ms cs A Ps pc ls (st) ws ce sl :=
  fun p l e s m args below meth c D C H locs la hP hD hS hl => lv_sipush C.1 C.2.1 hd hv (k p l e s m args below meth c D C H locs la hP hD hS hl)
theorem GD_dup {v : Value} (hd : decode cc pc = .ok (.dup, 1)) (hc : v.category = 1) (k : GD own cc nL lev mc ms cs A Ps (pc + 1) ls (v :: v :: st) ws ce sl) : GD own cc nL lev mc ms cs A Ps pc ls (v :: st) ws ce sl :=
  fun p l e s m args below meth c D C H locs la hP hD hS hl => lv_dup C.1 C.2.1 hd hc (k p l e s m args below meth c D C H locs la hP hD hS hl)
theorem GD_imul {x y : Int32} (v : Int32) (hd : decode cc pc = .ok (.imul, 1)) (hv : x * y = v) (k : GD own cc nL lev mc ms cs A Ps (pc + 1) ls (.int v :: st) ws ce sl) : GD own cc nL lev mc ms cs A Ps pc ls (.int y :: .int x :: st) ws ce sl :=
  fun p l e s m args below meth c D C H locs la hP hD hS hl => lv_imul C.1 C.2.1 hd (hv ▸ k p l e s m args below meth c D C H locs la hP hD hS hl : W p l e (rmK lev mc ms) s m args below meth c H locs ce sl _ (F0 m (pc + 1) la (.int (x * y) :: st))) -- (k p l e s m args below meth c D C H locs la hP hD hS hl)
theorem GD_isub {x y : Int32} (v : Int32) (hd : decode cc pc = .ok (.isub, 1)) (hv : x - y = v) (k : GD own cc nL lev mc ms cs A Ps (pc + 1) ls (.int v :: st) ws ce sl) : GD own cc nL lev mc ms cs A Ps pc ls (.int y :: .int x :: st) ws ce sl :=
  fun p l e s m args below meth c D C H locs la hP hD hS hl => lv_isub C.1 C.2.1 hd (hv ▸ k p l e s m args below meth c D C H locs la hP hD hS hl : W p l e (rmK lev mc ms) s m args below meth c H locs ce sl _ (F0 m (pc + 1) la (.int (x - y) :: st))) -- (k p l e s m args below meth c D C H locs la hP hD hS hl)
theorem GD_istore_n {q : Fin 4} {x : Int32} (ls' : List (Nat × Value)) (hd : decode cc pc = .ok (.istore_n q, 1)) (hn : (q : Nat) < nL) (h : ((q : Nat), Value.int x) :: ls.filter (sf1 q) = ls') (k : GD own cc nL lev mc ms cs A Ps (pc + 1) ls' st ws ce sl) : GD own cc nL lev mc ms cs A Ps pc ls (.int x :: st) ws ce sl :=
  fun p l e s m args below meth c D C H locs la hP hD hS hl => lv_istore_n C.1 C.2.1 hd rfl hl hn h (fun la' hl' => k p l e s m args below meth c D C H locs la' hP hD hS hl')
theorem GD_iinc {i : Nat} {n : Int} {x : Int32} (v : Int32) (j : Nat) (ls' : List (Nat × Value)) (hd : decode cc pc = .ok (.iinc i n, 3)) (hj : ls[j]? = some (i, .int x)) (hv : x + Int32.ofInt n = v) (hn : i < nL) (h : (i, Value.int v) :: ls.filter (sf1 i) = ls') (k : GD own cc nL lev mc ms cs A Ps (pc + 3) ls' st ws ce sl) : GD own cc nL lev mc ms cs A Ps pc ls st ws ce sl :=
  fun p l e s m args below meth c D C H locs la hP hD hS hl => lv_iinc (k := j) C.1 C.2.1 hd hl hj hv hn h (fun la' hl' => k p l e s m args below meth c D C H locs la' hP hD hS hl')
theorem GD_goto (tgt : Nat) {off : Int} (hd : decode cc pc = .ok (.goto off, 3)) (ht : (pc : Int) + off = (tgt : Int)) (k : GD own cc nL lev mc ms cs A Ps tgt ls st ws ce sl) : GD own cc nL lev mc ms cs A Ps pc ls st ws ce sl :=
  fun p l e s m args below meth c D C H locs la hP hD hS hl => lv_goto C.1 C.2.1 hd ht (k p l e s m args below meth c D C H locs la hP hD hS hl)
theorem GD_geT (tgt : Nat) {x y : Int32} {off : Int} (hd : decode cc pc = .ok (.if_icmp .ge off, 3)) (ht : (pc : Int) + off = (tgt : Int)) (hx : y ≤ x) (k : GD own cc nL lev mc ms cs A Ps tgt ls st ws ce sl) : GD own cc nL lev mc ms cs A Ps pc ls (.int y :: .int x :: st) ws ce sl :=
  fun p l e s m args below meth c D C H locs la hP hD hS hl => lv_icmp_ge C.1 C.2.1 hd ht (fun _ => k p l e s m args below meth c D C H locs la hP hD hS hl) (fun h => absurd hx h)
theorem GD_geF (tgt : Nat) {x y : Int32} {off : Int} (hd : decode cc pc = .ok (.if_icmp .ge off, 3)) (ht : (pc : Int) + off = (tgt : Int)) (hx : ¬ y ≤ x) (k : GD own cc nL lev mc ms cs A Ps (pc + 3) ls st ws ce sl) : GD own cc nL lev mc ms cs A Ps pc ls (.int y :: .int x :: st) ws ce sl :=
  fun p l e s m args below meth c D C H locs la hP hD hS hl => lv_icmp_ge C.1 C.2.1 hd ht (fun h => absurd h hx) (fun _ => k p l e s m args below meth c D C H locs la hP hD hS hl)
theorem GD_obj {idx a : Nat} (hd : decode cc pc = .ok (.invokespecial idx, 3)) (hw : ∀ x ∈ ([.methodLink own idx objectInit, .instanceMethod objectInit, .code objectInit ⟨#[0xb1]⟩ 1 none] : List Cond), x ∈ lw_g) (hlev : 1 ≤ lev) (hr : (st.map fun v => v.category).sum ≤ 8) (k : GD own cc nL lev mc ms cs A Ps (pc + 3) ls st ws ce sl) : GD own cc nL lev mc ms cs A Ps pc ls (.ref a :: st) ws ce sl := by
  intro p l e s m args below meth c D C H locs la hP hD hS hl
  refine W.objInit C.1 C.2.1 C.2.2.2.2.2.1 (C.2.2.2.2.2.2.1 _ (hw _ (by simp))) (C.2.2.2.2.2.2.1 _ (hw _ (by simp))) (C.2.2.2.2.2.2.1 _ (hw _ (by simp))) rfl (hl.1.trans C.2.2.1.symm) rfl hd hlev ?_ ?_
  · show 2 * 0 + _ + 12 ≤ 30 * lev
    omega
  · exact k p l e s m args below meth c D C H locs la hP hD hS hl
theorem GD_widen {ce' sl' : Nat} (h1 : ce ≤ ce') (h2 : sl ≤ sl') (k : GD own cc nL lev mc ms cs A Ps pc ls st ws ce' sl') : GD own cc nL lev mc ms cs A Ps pc ls st ws ce sl := fun p l e s m args below meth c D C H locs la hP hD hS hl => W.widen h1 h2 (k p l e s m args below meth c D C H locs la hP hD hS hl)
theorem GD_new {idx : Nat} (ci : Nat) (fs : List Value) {C0 : String} {T : u_T} {N : Nat} {ty : Nat → FieldType} (hd : decode cc pc = .ok (.new idx, 3)) (hin : ∀ x ∈ u_ws C0 T N, x ∈ lw_g) (hty : ∀ k, k < N → parseFieldDescriptor (T k).2.2.1 = some (ty k)) (hw : ∀ x ∈ ([.classLink own idx C0, .instantiable C0 N, .initialized C0] : List Cond), x ∈ lw_g) (hcl : vwCl[ci]? = some (C0, T, N)) (hfs : ∀ j, j < N → defaultValue (ty j) = vp_V fs j) (hc : ce + 1 ≤ mc) (hs : sl + N ≤ ms) (k : ∀ q : Nat, GD own cc nL lev mc ms cs A Ps (pc + 3) ls (.ref q :: st) (ws ++ [(q, .inr (ci, fs))]) (ce + 1) (sl + N)) : GD own cc nL lev mc ms cs A Ps pc ls st ws ce sl :=
  fun p l e s m args below meth c D C H locs la hP hD hS hl => va_new C.1 C.2.1 C.2.2.2.2.2.2.1 hin ty hty C.2.2.2.2.2.1 (C.2.2.2.2.2.2.1 _ (hw _ (by simp))) (C.2.2.2.2.2.2.1 _ (hw _ (by simp))) (C.2.2.2.2.2.2.1 _ (hw _ (by simp))) C.2.2.2.2.2.2.2.1 hP hD hS C.2.2.2.2.2.2.2.2.1 hcl hfs hc hs hd (fun q H hP hD hS => k q p l e s m args below meth c D C H locs la hP hD hS hl)
theorem GD_newa (t : Nat) (at_ : ArrayType) (ty : FieldType) (a0 : vp_A) (N : Nat) {n : Int32} (hd : decode cc pc = .ok (.newarray at_, 2)) (hw : Cond.arrayClass (newarray.typeOf at_) ∈ lw_g) (hty : newarray.typeOf at_ = ty) (htc : ∀ cs : Cs, (tyl cs)[t]? = some (cs t, ty)) (hpr : ∀ U cA, va_RA U cA ty → U.vm.findClass ("[" ++ ty.toString) = some cA) (ha : ∀ cA : ClassId, vp_cell cA a0 = arrV cA N (fun _ => defaultValue ty)) (hn : ¬ n < 0) (hN : n.toNatClampNeg = N) (hbytes : N * componentBytes ty ≤ 536870912) (hc : ce + 1 ≤ mc) (hs : sl + N ≤ ms) (k : ∀ q : Nat, GD own cc nL lev mc ms cs A Ps (pc + 2) ls (.ref q :: st) (ws ++ [(q, .inl (cs t, a0))]) (ce + 1) (sl + N)) : GD own cc nL lev mc ms cs A Ps pc ls (.int n :: st) ws ce sl := by
  intro p l e s m args below meth c D C H locs la hP hD hS hl
  refine va_newa C.1 C.2.1 (C.2.2.2.2.2.2.1 _ hw) hty C.2.2.2.2.2.2.2.1 hP hD hS C.2.2.2.2.2.2.2.2.1 ha hn hN hbytes hc hs hd (fun q cA H hK' hP hD hS => ?_)
  have e1 := hpr _ _ ((hK'.2 4 (cA, ty) rfl).2)
  have e2 := hpr _ _ ((C.2.2.2.2.2.2.2.1.2 t (cs t, ty) (htc cs)).2)
  have e3 : cA = cs t := Option.some.inj (e1.symm.trans e2)
  subst e3
  exact k q p l e s m args below meth c D C H locs la hP hD hS hl
theorem GD_newq {idx : Nat} (N : Nat) {n : Int32} (hd : decode cc pc = .ok (.anewarray idx, 3)) (hw : Cond.classLink own idx "RosetteShow$Sheet" ∈ lw_g) (hn : ¬ n < 0) (hN : n.toNatClampNeg = N) (hb : N * 4 ≤ 536870912) (hc : ce + 1 ≤ mc) (hs : sl + N ≤ ms) (k : ∀ q : Nat, GD own cc nL lev mc ms cs A Ps (pc + 3) ls (.ref q :: st) (ws ++ [(q, .inl (cs 3, N, .inr (.inr (.inr (.inr (fun _ => none))))))]) (ce + 1) (sl + N)) : GD own cc nL lev mc ms cs A Ps pc ls (.int n :: st) ws ce sl := by
  intro p l e s m args below meth c D C H locs la hP hD hS hl
  refine va_newq C.1 C.2.1 C.2.2.2.2.2.1 (C.2.2.2.2.2.2.1 _ hw) C.2.2.2.2.2.2.2.2.2.2.2.2.2.2 C.2.2.2.2.2.2.2.1 hP hD hS C.2.2.2.2.2.2.2.2.1 hn hN hb hc hs hd (fun q cA H hK' hP hD hS => ?_)
  obtain ⟨_, _, _, _, _, e1⟩ := (hK'.2 4 (cA, .object "RosetteShow$Sheet") rfl).2
  obtain ⟨_, _, _, _, _, e2⟩ := (C.2.2.2.2.2.2.2.1.2 3 (cs 3, .object "RosetteShow$Sheet") rfl).2
  have e3 : cA = cs 3 := Option.some.inj (e1.symm.trans e2)
  subst e3
  exact k q p l e s m args below meth c D C H locs la hP hD hS hl
theorem GD_put {idx : Nat} (q0 ci : Nat) {a : Nat} {fs : List Value} {C0 : String} {T : u_T} {N : Nat} (j : Nat) {v : Value} {ty : FieldType} {ty0 : Nat → FieldType} (ws' : va_W) (hd : decode cc pc = .ok (.putfield idx, 3)) (hf : FL own idx T j) (hin : ∀ x ∈ u_ws C0 T N, x ∈ lw_g) (hty : ∀ k, k < N → parseFieldDescriptor (T k).2.2.1 = some (ty0 k)) (hnm : ∀ a, a < N → ∀ b, b < N → a ≠ b → (T a).2.1 ≠ (T b).2.1) (hcl : vwCl[ci]? = some (C0, T, N)) (hj : j < N) (he : ws[q0]? = some (a, .inr (ci, fs))) (hfin : (T j).2.2.2 = false ∨ (T j).1 = own) (hdt : parseFieldDescriptor (T j).2.2.1 = some ty) (hnar : narrow ty v = v) (hfit : fits ty v = true) (hlen : j < fs.length) (hs : ws.set q0 (a, .inr (ci, fs.set j v)) = ws') (k : GD own cc nL lev mc ms cs A Ps (pc + 3) ls st ws' ce sl) : GD own cc nL lev mc ms cs A Ps pc ls (v :: .ref a :: st) ws ce sl := by
  intro p l e s m args below meth c D C H locs la hP hD hS hl
  subst hs
  obtain ⟨ref, hl1, hl2⟩ := hf
  by_cases hff : (T j).2.2.2 = false
  · exact va_put C.1 C.2.1 C.2.2.2.2.2.2.1 hin ty0 hty hnm C.2.2.2.2.2.1 C.2.2.2.2.2.2.2.1 hP hD hS q0 he hcl j hj (C.2.2.2.2.2.2.1 _ hl1) (fl_same C.2.2.2.2.2.2.1 hl2) hff hdt hnar hfit hlen hd (fun H locs hP hD hS => k p l e s m args below meth c D C H locs la hP hD hS hl)
  · exact va_putF C.1 C.2.1 C.2.2.2.2.2.2.1 hin ty0 hty hnm C.2.2.2.2.2.1 C.2.2.2.2.2.2.2.1 hP hD hS q0 he hcl j hj (C.2.2.2.2.2.2.1 _ hl1) (fl_same C.2.2.2.2.2.2.1 hl2) (by simpa using hff) C.2.2.2.2.2.2.2.2.2.1 (hfin.resolve_left hff) hdt hnar hfit hlen hd (fun H locs hP hD hS => k p l e s m args below meth c D C H locs la hP hD hS hl)
theorem GD_get {idx : Nat} (q0 ci : Nat) {a : Nat} {fs : List Value} {C0 : String} {T : u_T} {N : Nat} (j : Nat) (v : Value) (hd : decode cc pc = .ok (.getfield idx, 3)) (hf : FL own idx T j) (hin : ∀ x ∈ u_ws C0 T N, x ∈ lw_g) (hcl : vwCl[ci]? = some (C0, T, N)) (hj : j < N) (he : ws[q0]? = some (a, .inr (ci, fs))) (hv : fs[j]? = some v) (k : GD own cc nL lev mc ms cs A Ps (pc + 3) ls (v :: st) ws ce sl) : GD own cc nL lev mc ms cs A Ps pc ls (.ref a :: st) ws ce sl := by
  intro p l e s m args below meth c D C H locs la hP hD hS hl
  obtain ⟨ref, hl1, hl2⟩ := hf
  exact va_get C.1 C.2.1 C.2.2.2.2.2.2.1 hin C.2.2.2.2.2.1 C.2.2.2.2.2.2.2.1 hP q0 he hcl j hj (C.2.2.2.2.2.2.1 _ hl1) (fl_same C.2.2.2.2.2.2.1 hl2) hv hd (k p l e s m args below meth c D C H locs la hP hD hS hl)
theorem GD_iast (q0 : Nat) {a n : Nat} {f : Nat → Int32} {i x : Int32} (ws' : va_W) (hd : decode cc pc = .ok (.iastore, 1)) (ha : ws[q0]? = some (a, .inl (cs 0, n, .inl f))) (hin : vp_in i n) (hs : ws.set q0 (a, .inl (cs 0, n, .inl (upd f i.toNatClampNeg x))) = ws') (k : GD own cc nL lev mc ms cs A Ps (pc + 1) ls st ws' ce sl) : GD own cc nL lev mc ms cs A Ps pc ls (.int x :: .int i :: .ref a :: st) ws ce sl := by
  intro p l e s m args below meth c D C H locs la hP hD hS hl
  subst hs
  exact va_iast C.1 C.2.1 C.2.2.2.2.2.2.2.1 hP hD hS q0 0 ha rfl hin hd (fun H locs hP hD hS => k p l e s m args below meth c D C H locs la hP hD hS hl)
theorem GD_aast (q0 qk : Nat) {a n v : Nat} {vs : List Value} {f : Nat → Option Nat} {i : Int32} (ws' : va_W) (hd : decode cc pc = .ok (.aastore, 1)) (ha : ws[q0]? = some (a, .inl (cs 3, n, .inr (.inr (.inr (.inr f)))))) (hv : ws[qk]? = some (v, .inr (4, vs))) (hin : vp_in i n) (hs : ws.set q0 (a, .inl (cs 3, n, .inr (.inr (.inr (.inr (va_up f i.toNatClampNeg (some v))))))) = ws') (k : GD own cc nL lev mc ms cs A Ps (pc + 1) ls st ws' ce sl) : GD own cc nL lev mc ms cs A Ps pc ls (.ref v :: .int i :: .ref a :: st) ws ce sl := by
  intro p l e s m args below meth c D C H locs la hP hD hS hl
  subst hs
  exact va_astq (r := (RX4, TX4, 3)) C.1 C.2.1 C.2.2.2.2.2.2.2.1 hP hD hS q0 3 qk 4 ha rfl hv rfl hin hd (fun H locs hP hD hS => k p l e s m args below meth c D C H locs la hP hD hS hl)
theorem GD_ret (hd : decode cc pc = .ok (.return_, 1)) (h1 : ce = mc) (h2 : sl = ms) (hp : Ps ws) : GD own cc nL lev mc ms cs A Ps pc ls [] ws ce sl := by
  intro p l e s m args below meth c D C H locs la hP hD hS hl
  subst h1; subst h2
  have hlocks := C.2.2.2.2.1
  exact W.vret C.1 C.2.1 C.2.2.2.1 (fun t ht hW => ⟨rfl, ⟨ws, hp, by rw [ht]; exact hP, hD⟩, hS.F ht⟩) hS.2.2 hd
/-- what a call of a constructor gives, whatever the link -/
theorem GD_after {p : Program} {l : Launch} {e : Env} {s : State} {m : MethodId} {args : Array Value} {below : List Frame} {meth : Method} {c : Code} {D : va_G} {H : Heap} {locs : List Loc} {la : Array Slot} {Q : State → Prop} {R : Room} {st0 rest : List Value} {aa : Array Value} {mc' ms' : Nat} {wc wr : va_W} {Ps' : va_W → Prop} (isC isR : List Nat)
    (hr : va_Run p l e R s m args below meth c H locs ce sl mc' ms' (F0 m pc la st0) rest (QD D cs (va_A wc H.size) Ps' aa) (va_A wc H.size)) (hA : ∀ q, s.heap.size ≤ q → A q) (hP : va_P D vwCl ws H) (hD : va_D A ws) (hS : va_S A s.heap H locs) (hC : isC.map (fun i => ws[i]?) = wc.map some) (hR : isR.map (fun i => ws[i]?) = wr.map some) (hn : va_nd isR = true) (hdis : ∀ i ∈ isR, i ∉ isC)
    (kk : ∀ (w1 : va_W) (H1 : Heap) (locs1 : List Loc), Ps' w1 → va_P D vwCl (wr ++ w1) H1 → va_D A (wr ++ w1) → va_S A s.heap H1 locs1 → W p l e R s m args below meth c H1 locs1 (ce + mc') (sl + ms') Q (F0 m (pc + 3) la rest)) : W p l e R s m args below meth c H locs ce sl Q (F0 m pc la st0) := by
  intro T hT X
  have hF := va_free hD hS hA isC hC
  obtain ⟨v, st₀, t, T', L, h0, X', hL, e1, e2, ⟨hv, ⟨w1, hw1, hP1, hD1⟩, hz, hk⟩, st⟩ := hr T hT X
  cases hv
  rw [h0] at hz hk
  obtain ⟨hPj, hDj⟩ := va_join hP hD isC isR hC hR hn hdis hk hF hP1 hD1
  obtain ⟨t2, a1, b1⟩ := kk w1 T'.heap (locs ++ L) hw1 (by rw [e1]; exact hPj) hDj
    ⟨Nat.le_trans hS.1 (by rw [e1]; exact hz), fun q h1 h2 => by rw [e1, hk q (Nat.lt_of_lt_of_le h1 hS.1) (fun z => h2 (hF _ z))]; exact hS.2.1 q h1 h2, fun q hq => (List.mem_append.mp hq).elim (hS.2.2 q) (fun h => hF _ (hL q h))⟩ T' rfl X'
  exact ⟨t2, st t2 a1, b1⟩
theorem PD_now {p : Program} {s : State} {m : MethodId} {args : Array Value} {meth : Method} {c : Code} {D : va_G} (C : XD own cc nL cs A p s m args meth c D) {wc : va_W} {H : Heap} (hP : va_P D vwCl wc H) (hD : va_D A wc) {U : State} (hU : U.heap = H) (hW : s.WarmedH U.vm) : U.heap.size = H.size ∧ va_P D vwCl wc U.heap ∧ va_K D vwCl (tyl cs) U ∧ va_D (fun _ => True) wc ∧ Nq U :=
  ⟨by rw [hU], by rw [hU]; exact hP, va_K.moved hW.alike C.2.2.2.2.2.2.2.1, hD.weaken (fun _ _ _ _ => trivial), Nq_warm hW C.2.2.2.2.2.2.2.2.2.2⟩
theorem PD_blind {D : va_G} {sz : Nat} {wc : va_W} {av : List Value} : FrameBlind (va_Pc av (fun U => U.heap.size = sz ∧ va_P D vwCl wc U.heap ∧ va_K D vwCl (tyl cs) U ∧ va_D (fun _ => True) wc ∧ Nq U)) := by
  intro a U g mk h
  obtain ⟨h0, h1, h2, h3, h4, h5⟩ := h
  exact ⟨h0, h1, h2, va_K.moved (u := U) (U := U.calling g mk a) (Vm.Alike.refl U.vm) h3, h4, Nq_same (u := U) (U := U.calling g mk a) rfl (Vm.Alike.refl U.vm) h5⟩
theorem rmK_ok {lev lev' nL' mc ms mc' ms' : Nat} (h : lev' + 1 ≤ lev) (h2 : nL' ≤ 11) : (rmK lev' mc' ms').frames + 1 ≤ (rmK lev mc ms).frames ∧ 8 + (nL' + 11) + (rmK lev' mc' ms').locals ≤ (rmK lev mc ms).locals := by
  refine ⟨h, ?_⟩
  show 8 + (nL' + 11) + 30 * lev' ≤ 30 * lev
  omega
theorem GD_call0 {idx : Nat} {y : MethodName} {cc' : ByteArray} {nL' lev' mc' ms' : Nat} {a : Nat} {wc : va_W} {Ps' : va_W → Prop} (isC isR : List Nat) (wr : va_W) (hd : decode cc pc = .ok (.invokespecial idx, 3)) (hw : (∀ x ∈ ([.initialized y.cls, .methodLink own idx y, .instanceMethod y] : List Cond), x ∈ lw_g) ∧ y.name = "<init>" ∧ y.cls ≠ "java/lang/invoke/MethodHandle" ∧ y.cls ≠ "java/lang/invoke/VarHandle" ∧ (parseMethodDescriptor y.desc).map (fun d => d.parameters.length) = some 0) (hcode : Cond.code y cc' nL' none ∈ lw_g) (hc : CD y cc' nL' lev' mc' ms' (.ref a :: []) wc cs Ps') (hlev : lev' + 1 ≤ lev) (hnl : nL' ≤ 11) (hC : isC.map (fun i => ws[i]?) = wc.map some) (hR : isR.map (fun i => ws[i]?) = wr.map some) (hnd : va_nd isR = true) (hnc : va_nd isC = true) (hdis : ∀ i ∈ isR, i ∉ isC) (hroom : (st.map fun v => v.category).sum ≤ 8) (h1 : ce + mc' ≤ mc) (h2 : sl + ms' ≤ ms) (k : ∀ w1, Ps' w1 → GD own cc nL lev mc ms cs A Ps (pc + 3) ls st (wr ++ w1) (ce + mc') (sl + ms')) : GD own cc nL lev mc ms cs A Ps pc ls (.ref a :: st) ws ce sl := by
  intro p l e s m args below meth c D C H locs la hP hD hS hl
  have hDc := hD.sub isC hnc hC
  have hPc : va_P D vwCl wc H := by
    intro j q hq
    have h1 : (isC.map (fun i => ws[i]?))[j]? = some (some q) := by rw [hC, List.getElem?_map, hq]; rfl
    rw [List.getElem?_map] at h1
    cases hi : isC[j]? with
    | none => rw [hi] at h1; cases h1
    | some i => rw [hi] at h1; exact hP i q (Option.some.inj h1)
  exact GD_after isC isR (va_runI (As := []) (rest := st) ⟨C.1, C.2.1, C.2.2.1, C.2.2.2.2.2.1, C.2.2.2.2.2.2.1⟩ (hc l D H.size) (cwI 0 C.2.2.2.2.2.2.1 (wsall (L := []) (fun _ h => absurd h List.not_mem_nil) hcode) rfl rfl rfl (C.2.2.2.2.2.2.1 _ (hw.1 _ (by simp))) (C.2.2.2.2.2.2.1 _ (hw.1 _ (by simp))) (C.2.2.2.2.2.2.1 _ (hw.1 _ (by simp))) hw.2.1 hw.2.2 (rmK_ok hlev hnl)) ⟨PD_blind, fun U hU hW => ⟨rfl, PD_now C hPc hDc hU hW⟩⟩ rfl rfl hl.1 rfl (lv_room hroom) hd ⟨h1, h2⟩) C.2.2.2.2.2.2.2.2.1 hP hD hS hC hR hnd hdis (fun w1 H locs hw1 hP hD hS => k w1 hw1 p l e s m args below meth c D C H locs la hP hD hS hl)
theorem GD_callN0 {host : String} {idx : Nat} {y : MethodName} {cc' : ByteArray} {nL' lev' mc' ms' : Nat} {a : Nat} {wc : va_W} {Ps' : va_W → Prop} (isC isR : List Nat) (wr : va_W) (hd : decode cc pc = .ok (.invokespecial idx, 3)) (hz : ∀ U, Nq U → va_Nw (.methodLinkNest own idx y host) U) (hw : (∀ x ∈ ([.initialized y.cls, .instanceMethod y] : List Cond), x ∈ lw_g) ∧ y.name = "<init>" ∧ y.cls ≠ "java/lang/invoke/MethodHandle" ∧ y.cls ≠ "java/lang/invoke/VarHandle" ∧ (parseMethodDescriptor y.desc).map (fun d => d.parameters.length) = some 0) (hcode : Cond.code y cc' nL' none ∈ lw_g) (hc : CD y cc' nL' lev' mc' ms' (.ref a :: []) wc cs Ps') (hlev : lev' + 1 ≤ lev) (hnl : nL' ≤ 11) (hC : isC.map (fun i => ws[i]?) = wc.map some) (hR : isR.map (fun i => ws[i]?) = wr.map some) (hnd : va_nd isR = true) (hnc : va_nd isC = true) (hdis : ∀ i ∈ isR, i ∉ isC) (hroom : (st.map fun v => v.category).sum ≤ 8) (h1 : ce + mc' ≤ mc) (h2 : sl + ms' ≤ ms) (k : ∀ w1, Ps' w1 → GD own cc nL lev mc ms cs A Ps (pc + 3) ls st (wr ++ w1) (ce + mc') (sl + ms')) : GD own cc nL lev mc ms cs A Ps pc ls (.ref a :: st) ws ce sl := by
  intro p l e s m args below meth c D C H locs la hP hD hS hl
  have hDc := hD.sub isC hnc hC
  have hPc : va_P D vwCl wc H := by
    intro j q hq
    have h1 : (isC.map (fun i => ws[i]?))[j]? = some (some q) := by rw [hC, List.getElem?_map, hq]; rfl
    rw [List.getElem?_map] at h1
    cases hi : isC[j]? with
    | none => rw [hi] at h1; cases h1
    | some i => rw [hi] at h1; exact hP i q (Option.some.inj h1)
  exact GD_after isC isR (va_runIN (As := []) (rest := st) ⟨C.1, C.2.1, C.2.2.1, C.2.2.2.2.2.1, C.2.2.2.2.2.2.1⟩ (hc l D H.size) ⟨va_cnB 0 C.2.2.2.2.2.2.1 (wsall (L := []) (fun _ h => absurd h List.not_mem_nil) hcode) rfl rfl rfl (hz s C.2.2.2.2.2.2.2.2.2.2) (C.2.2.2.2.2.2.1 _ (hw.1 _ (by simp))) hw.2.2 (rmK_ok hlev hnl), hw.2.1, C.2.2.2.2.2.2.1 _ (hw.1 _ (by simp))⟩ ⟨PD_blind, fun U hU hW => ⟨rfl, PD_now C hPc hDc hU hW⟩⟩ rfl rfl hl.1 rfl (lv_room hroom) hd ⟨h1, h2⟩) C.2.2.2.2.2.2.2.2.1 hP hD hS hC hR hnd hdis (fun w1 H locs hw1 hP hD hS => k w1 hw1 p l e s m args below meth c D C H locs la hP hD hS hl)
theorem GD_call1 {idx : Nat} {y : MethodName} {cc' : ByteArray} {nL' lev' mc' ms' : Nat} {v1 : Value} {a : Nat} {wc : va_W} {Ps' : va_W → Prop} (isC isR : List Nat) (wr : va_W) (hd : decode cc pc = .ok (.invokespecial idx, 3)) (hw : (∀ x ∈ ([.initialized y.cls, .methodLink own idx y, .instanceMethod y] : List Cond), x ∈ lw_g) ∧ y.name = "<init>" ∧ y.cls ≠ "java/lang/invoke/MethodHandle" ∧ y.cls ≠ "java/lang/invoke/VarHandle" ∧ (parseMethodDescriptor y.desc).map (fun d => d.parameters.length) = some 1) (hcode : Cond.code y cc' nL' none ∈ lw_g) (hc : CD y cc' nL' lev' mc' ms' (.ref a :: [v1]) wc cs Ps') (hlev : lev' + 1 ≤ lev) (hnl : nL' ≤ 11) (hC : isC.map (fun i => ws[i]?) = wc.map some) (hR : isR.map (fun i => ws[i]?) = wr.map some) (hnd : va_nd isR = true) (hnc : va_nd isC = true) (hdis : ∀ i ∈ isR, i ∉ isC) (hroom : (st.map fun v => v.category).sum ≤ 8) (h1 : ce + mc' ≤ mc) (h2 : sl + ms' ≤ ms) (k : ∀ w1, Ps' w1 → GD own cc nL lev mc ms cs A Ps (pc + 3) ls st (wr ++ w1) (ce + mc') (sl + ms')) : GD own cc nL lev mc ms cs A Ps pc ls (v1 :: .ref a :: st) ws ce sl := by
  intro p l e s m args below meth c D C H locs la hP hD hS hl
  have hDc := hD.sub isC hnc hC
  have hPc : va_P D vwCl wc H := by
    intro j q hq
    have h1 : (isC.map (fun i => ws[i]?))[j]? = some (some q) := by rw [hC, List.getElem?_map, hq]; rfl
    rw [List.getElem?_map] at h1
    cases hi : isC[j]? with
    | none => rw [hi] at h1; cases h1
    | some i => rw [hi] at h1; exact hP i q (Option.some.inj h1)
  exact GD_after isC isR (va_runI (As := [v1]) (rest := st) ⟨C.1, C.2.1, C.2.2.1, C.2.2.2.2.2.1, C.2.2.2.2.2.2.1⟩ (hc l D H.size) (cwI 1 C.2.2.2.2.2.2.1 (wsall (L := []) (fun _ h => absurd h List.not_mem_nil) hcode) rfl rfl rfl (C.2.2.2.2.2.2.1 _ (hw.1 _ (by simp))) (C.2.2.2.2.2.2.1 _ (hw.1 _ (by simp))) (C.2.2.2.2.2.2.1 _ (hw.1 _ (by simp))) hw.2.1 hw.2.2 (rmK_ok hlev hnl)) ⟨PD_blind, fun U hU hW => ⟨rfl, PD_now C hPc hDc hU hW⟩⟩ rfl rfl hl.1 rfl (lv_room hroom) hd ⟨h1, h2⟩) C.2.2.2.2.2.2.2.2.1 hP hD hS hC hR hnd hdis (fun w1 H locs hw1 hP hD hS => k w1 hw1 p l e s m args below meth c D C H locs la hP hD hS hl)
theorem GD_callN1 {host : String} {idx : Nat} {y : MethodName} {cc' : ByteArray} {nL' lev' mc' ms' : Nat} {v1 : Value} {a : Nat} {wc : va_W} {Ps' : va_W → Prop} (isC isR : List Nat) (wr : va_W) (hd : decode cc pc = .ok (.invokespecial idx, 3)) (hz : ∀ U, Nq U → va_Nw (.methodLinkNest own idx y host) U) (hw : (∀ x ∈ ([.initialized y.cls, .instanceMethod y] : List Cond), x ∈ lw_g) ∧ y.name = "<init>" ∧ y.cls ≠ "java/lang/invoke/MethodHandle" ∧ y.cls ≠ "java/lang/invoke/VarHandle" ∧ (parseMethodDescriptor y.desc).map (fun d => d.parameters.length) = some 1) (hcode : Cond.code y cc' nL' none ∈ lw_g) (hc : CD y cc' nL' lev' mc' ms' (.ref a :: [v1]) wc cs Ps') (hlev : lev' + 1 ≤ lev) (hnl : nL' ≤ 11) (hC : isC.map (fun i => ws[i]?) = wc.map some) (hR : isR.map (fun i => ws[i]?) = wr.map some) (hnd : va_nd isR = true) (hnc : va_nd isC = true) (hdis : ∀ i ∈ isR, i ∉ isC) (hroom : (st.map fun v => v.category).sum ≤ 8) (h1 : ce + mc' ≤ mc) (h2 : sl + ms' ≤ ms) (k : ∀ w1, Ps' w1 → GD own cc nL lev mc ms cs A Ps (pc + 3) ls st (wr ++ w1) (ce + mc') (sl + ms')) : GD own cc nL lev mc ms cs A Ps pc ls (v1 :: .ref a :: st) ws ce sl := by
  intro p l e s m args below meth c D C H locs la hP hD hS hl
  have hDc := hD.sub isC hnc hC
  have hPc : va_P D vwCl wc H := by
    intro j q hq
    have h1 : (isC.map (fun i => ws[i]?))[j]? = some (some q) := by rw [hC, List.getElem?_map, hq]; rfl
    rw [List.getElem?_map] at h1
    cases hi : isC[j]? with
    | none => rw [hi] at h1; cases h1
    | some i => rw [hi] at h1; exact hP i q (Option.some.inj h1)
  exact GD_after isC isR (va_runIN (As := [v1]) (rest := st) ⟨C.1, C.2.1, C.2.2.1, C.2.2.2.2.2.1, C.2.2.2.2.2.2.1⟩ (hc l D H.size) ⟨va_cnB 1 C.2.2.2.2.2.2.1 (wsall (L := []) (fun _ h => absurd h List.not_mem_nil) hcode) rfl rfl rfl (hz s C.2.2.2.2.2.2.2.2.2.2) (C.2.2.2.2.2.2.1 _ (hw.1 _ (by simp))) hw.2.2 (rmK_ok hlev hnl), hw.2.1, C.2.2.2.2.2.2.1 _ (hw.1 _ (by simp))⟩ ⟨PD_blind, fun U hU hW => ⟨rfl, PD_now C hPc hDc hU hW⟩⟩ rfl rfl hl.1 rfl (lv_room hroom) hd ⟨h1, h2⟩) C.2.2.2.2.2.2.2.2.1 hP hD hS hC hR hnd hdis (fun w1 H locs hw1 hP hD hS => k w1 hw1 p l e s m args below meth c D C H locs la hP hD hS hl)
theorem GD_call2 {idx : Nat} {y : MethodName} {cc' : ByteArray} {nL' lev' mc' ms' : Nat} {v1 v2 : Value} {a : Nat} {wc : va_W} {Ps' : va_W → Prop} (isC isR : List Nat) (wr : va_W) (hd : decode cc pc = .ok (.invokespecial idx, 3)) (hw : (∀ x ∈ ([.initialized y.cls, .methodLink own idx y, .instanceMethod y] : List Cond), x ∈ lw_g) ∧ y.name = "<init>" ∧ y.cls ≠ "java/lang/invoke/MethodHandle" ∧ y.cls ≠ "java/lang/invoke/VarHandle" ∧ (parseMethodDescriptor y.desc).map (fun d => d.parameters.length) = some 2) (hcode : Cond.code y cc' nL' none ∈ lw_g) (hc : CD y cc' nL' lev' mc' ms' (.ref a :: [v1, v2]) wc cs Ps') (hlev : lev' + 1 ≤ lev) (hnl : nL' ≤ 11) (hC : isC.map (fun i => ws[i]?) = wc.map some) (hR : isR.map (fun i => ws[i]?) = wr.map some) (hnd : va_nd isR = true) (hnc : va_nd isC = true) (hdis : ∀ i ∈ isR, i ∉ isC) (hroom : (st.map fun v => v.category).sum ≤ 8) (h1 : ce + mc' ≤ mc) (h2 : sl + ms' ≤ ms) (k : ∀ w1, Ps' w1 → GD own cc nL lev mc ms cs A Ps (pc + 3) ls st (wr ++ w1) (ce + mc') (sl + ms')) : GD own cc nL lev mc ms cs A Ps pc ls (v2 :: v1 :: .ref a :: st) ws ce sl := by
  intro p l e s m args below meth c D C H locs la hP hD hS hl
  have hDc := hD.sub isC hnc hC
  have hPc : va_P D vwCl wc H := by
    intro j q hq
    have h1 : (isC.map (fun i => ws[i]?))[j]? = some (some q) := by rw [hC, List.getElem?_map, hq]; rfl
    rw [List.getElem?_map] at h1
    cases hi : isC[j]? with
    | none => rw [hi] at h1; cases h1
    | some i => rw [hi] at h1; exact hP i q (Option.some.inj h1)
  exact GD_after isC isR (va_runI (As := [v1, v2]) (rest := st) ⟨C.1, C.2.1, C.2.2.1, C.2.2.2.2.2.1, C.2.2.2.2.2.2.1⟩ (hc l D H.size) (cwI 2 C.2.2.2.2.2.2.1 (wsall (L := []) (fun _ h => absurd h List.not_mem_nil) hcode) rfl rfl rfl (C.2.2.2.2.2.2.1 _ (hw.1 _ (by simp))) (C.2.2.2.2.2.2.1 _ (hw.1 _ (by simp))) (C.2.2.2.2.2.2.1 _ (hw.1 _ (by simp))) hw.2.1 hw.2.2 (rmK_ok hlev hnl)) ⟨PD_blind, fun U hU hW => ⟨rfl, PD_now C hPc hDc hU hW⟩⟩ rfl rfl hl.1 rfl (lv_room hroom) hd ⟨h1, h2⟩) C.2.2.2.2.2.2.2.2.1 hP hD hS hC hR hnd hdis (fun w1 H locs hw1 hP hD hS => k w1 hw1 p l e s m args below meth c D C H locs la hP hD hS hl)
theorem GD_callN2 {host : String} {idx : Nat} {y : MethodName} {cc' : ByteArray} {nL' lev' mc' ms' : Nat} {v1 v2 : Value} {a : Nat} {wc : va_W} {Ps' : va_W → Prop} (isC isR : List Nat) (wr : va_W) (hd : decode cc pc = .ok (.invokespecial idx, 3)) (hz : ∀ U, Nq U → va_Nw (.methodLinkNest own idx y host) U) (hw : (∀ x ∈ ([.initialized y.cls, .instanceMethod y] : List Cond), x ∈ lw_g) ∧ y.name = "<init>" ∧ y.cls ≠ "java/lang/invoke/MethodHandle" ∧ y.cls ≠ "java/lang/invoke/VarHandle" ∧ (parseMethodDescriptor y.desc).map (fun d => d.parameters.length) = some 2) (hcode : Cond.code y cc' nL' none ∈ lw_g) (hc : CD y cc' nL' lev' mc' ms' (.ref a :: [v1, v2]) wc cs Ps') (hlev : lev' + 1 ≤ lev) (hnl : nL' ≤ 11) (hC : isC.map (fun i => ws[i]?) = wc.map some) (hR : isR.map (fun i => ws[i]?) = wr.map some) (hnd : va_nd isR = true) (hnc : va_nd isC = true) (hdis : ∀ i ∈ isR, i ∉ isC) (hroom : (st.map fun v => v.category).sum ≤ 8) (h1 : ce + mc' ≤ mc) (h2 : sl + ms' ≤ ms) (k : ∀ w1, Ps' w1 → GD own cc nL lev mc ms cs A Ps (pc + 3) ls st (wr ++ w1) (ce + mc') (sl + ms')) : GD own cc nL lev mc ms cs A Ps pc ls (v2 :: v1 :: .ref a :: st) ws ce sl := by
  intro p l e s m args below meth c D C H locs la hP hD hS hl
  have hDc := hD.sub isC hnc hC
  have hPc : va_P D vwCl wc H := by
    intro j q hq
    have h1 : (isC.map (fun i => ws[i]?))[j]? = some (some q) := by rw [hC, List.getElem?_map, hq]; rfl
    rw [List.getElem?_map] at h1
    cases hi : isC[j]? with
    | none => rw [hi] at h1; cases h1
    | some i => rw [hi] at h1; exact hP i q (Option.some.inj h1)
  exact GD_after isC isR (va_runIN (As := [v1, v2]) (rest := st) ⟨C.1, C.2.1, C.2.2.1, C.2.2.2.2.2.1, C.2.2.2.2.2.2.1⟩ (hc l D H.size) ⟨va_cnB 2 C.2.2.2.2.2.2.1 (wsall (L := []) (fun _ h => absurd h List.not_mem_nil) hcode) rfl rfl rfl (hz s C.2.2.2.2.2.2.2.2.2.2) (C.2.2.2.2.2.2.1 _ (hw.1 _ (by simp))) hw.2.2 (rmK_ok hlev hnl), hw.2.1, C.2.2.2.2.2.2.1 _ (hw.1 _ (by simp))⟩ ⟨PD_blind, fun U hU hW => ⟨rfl, PD_now C hPc hDc hU hW⟩⟩ rfl rfl hl.1 rfl (lv_room hroom) hd ⟨h1, h2⟩) C.2.2.2.2.2.2.2.2.1 hP hD hS hC hR hnd hdis (fun w1 H locs hw1 hP hD hS => k w1 hw1 p l e s m args below meth c D C H locs la hP hD hS hl)
end GDR
