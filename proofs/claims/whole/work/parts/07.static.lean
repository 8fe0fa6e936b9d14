/-! A static method called through a subclass's name (the class file names Roll, the method stands in Text); the static array; arraycopy. -/
section SUp
variable {Q : Unit → Pre} {E : CtlPost} {e : Env} {d : Bool} {acts : List Action} {s s₀ : State} {f : JFrame}
theorem su_cold {index ci n k0 : Nat} {mm : MethodId} {dk ck : Class} {cf : ClassFile} {name desc : String} (hs : s.topJava?.isSome) (hp : e.platform.polymorphicOnlyByInvokevirtual = true)
    (hW : s₀.WarmedH s.vm) (hE : s₀.MethodEntryUp e s.vm f.method.cls index k0 mm ci) (h1 : s₀.vm.classes[f.method.cls]? = some dk) (h2 : dk.cf = some cf)
    (h3 : cf.constantPool[index]? = some (.methodref ci n)) (h4 : cf.constantPool.nameAndType? n = some (name, desc)) (hck : s₀.vm.classes[k0]? = some ck)
    (hno : (ck.methods.any fun x => x.name == name && !x.isStatic && signaturePolymorphic ck x) = false) :
    wp (invokestatic.sem index) Q E e d acts (s.setTop f) ↔ wp (invokestatic.sem index) Q E e d acts ((s.setVm (s.vm.calledUp f.method.cls ci index k0 mm)).setTop f) := by
  have hs1 : (s.setVm (s.vm.noted f.method.cls ci (.cls k0))).topJava?.isSome := hs
  have hs2 : (s.setVm (s.vm.calledUp f.method.cls ci index k0 mm)).topJava?.isSome := hs
  have h3' : cf.constantPool[index]? = some (if false then .interfaceMethodref ci n else .methodref ci n) := h3
  obtain ⟨hgc, -, hW1, hgm⟩ := hE.classFirst
  obtain ⟨ka, hka, ea⟩ := hW.alike.2.2 _ _ h1
  obtain ⟨kb, hkb, eb⟩ := hE.warmed.alike.2.2 _ _ h1
  obtain ⟨ca, hca, eca⟩ := hW1.alike.2.2 _ _ hck
  obtain ⟨cb, hcb, ecb⟩ := hE.warmed.alike.2.2 _ _ hck
  have na : (ca.methods.any fun x => x.name == name && !x.isStatic && signaturePolymorphic ca x) = false := by rw [eca]; exact hno
  have nb : (cb.methods.any fun x => x.name == name && !x.isStatic && signaturePolymorphic cb x) = false := by rw [ecb]; exact hno
  have ra := memberRef_ask_via (e := e) hka (by rw [ea]; exact h2) h3' h4
  have rb := memberRef_ask_via (e := e) hkb (by rw [eb]; exact h2) h3' h4
  have hL : ∀ {Q' : ClassId → Pre} {d' : Bool} {acts' : List Action}, wp (Jvm.resolveClassAt ci) Q' E e d' acts' (s.setTop f) ↔ Q' k0 d' acts' ((s.setVm (s.vm.noted f.method.cls ci (.cls k0))).setTop f) :=
    Jvm.W.resolveClassAt_links (t := s.setTop f) (State.method?_setTop f hs) hgc
  have hM : ∀ {Q' : MethodId → Pre} {d' : Bool} {acts' : List Action}, wp (Jvm.resolveMethodAt index) Q' E e d' acts' ((s.setVm (s.vm.noted f.method.cls ci (.cls k0))).setTop f) ↔ Q' mm d' acts' ((s.setVm (s.vm.calledUp f.method.cls ci index k0 mm)).setTop f) :=
    Jvm.W.resolveMethodAt_links (t := (s.setVm (s.vm.noted f.method.cls ci (.cls k0))).setTop f) (State.method?_setTop f hs1) hgm
  simp [invokestatic.sem, hp, Seam.memberRefOf, State.method?_setTop f hs, State.method?_setTop f hs2, ra, rb, hL, Jvm.W.resolveClassAt_ready (s := (s.setVm (s.vm.calledUp f.method.cls ci index k0 mm)).setTop f) (State.method?_setTop f hs2) hE.classReady,
    hca, hcb, na, nb, hM, Jvm.W.resolveMethodAt_ready (s := (s.setVm (s.vm.calledUp f.method.cls ci index k0 mm)).setTop f) (State.method?_setTop f hs2) hE.ready, -Array.any_eq_true]
end SUp
section SUq
variable {p : Program} {l : Launch} {e : Env} {R : Room} {s : State} {m : MethodId} {args : Array Value} {below : List Frame} {meth : Method} {c : Code} {T : State} {locs : List Loc} {cells slots : Nat} {H : Heap}
theorem su_step (X : Stand p l e R s m args below meth c T locs cells slots) (hexec : p.tables.exec = Jvm.exec) {own owner : String} {index : Nat} {x : MethodName} (hown : s.vm.findClass own = some m.cls) (hlink : (Cond.methodLink own index x).before args s = true)
    (hsame : (Cond.sameMethod x.cls owner x.name x.desc).before args s = true) (howner : notMH owner) {mk : MethodId} {methM : Method} {kP : Class} (hn : s.methodNamed? ⟨owner, x.name, x.desc⟩ = some mk) (hmk : s.vm.method? mk = some methM) (hst : methM.isStatic = true)
    (hkP : s.vm.classes[mk.cls]? = some kP) (hini : kP.init = .initialized) {g : JFrame} (hg : g.method = m) {As rest : List Value} (hlen : As.length = methM.sig.parameters.length) (hstack : g.stack = As.reverse ++ rest) (hdg : decode c.code g.pc = .ok (.invokestatic index, 3)) :
    ∃ vm', Stand p l e R s m args below meth c (T.setVm vm') locs cells slots ∧ ∀ target, (∀ acts, Steps p.tables e below (doInvoke e ((T.setVm vm').setTop { g with stack := rest }) acts mk As.toArray).1 target) → Steps p.tables e below (T.setTop g) target := by
  subst hg
  obtain ⟨cn, ck, r1, hcn, hck, hni, hf, hn1⟩ := Cond.sameMethod_found hsame
  cases hn.symm.trans hn1
  obtain ⟨ci, hl, hright⟩ := Cond.methodLink_specUp hown hcn hck hni hf hlink e.platform (by rw [X.admits.platform]) (by rw [X.admits.platform])
  have hE : s.MethodEntryUp e T.vm g.method.cls index cn mk ci := State.methodEntryUp X.warmed hl hright
  obtain ⟨kx, hkx, hnx⟩ := className_of_methodNamed hn
  cases hkP.symm.trans hkx
  obtain ⟨dk, cfile, nt, mname, mdesc, ck', _, _, hd, hcf, hcp, hnt, -, -, hck', -, hnopoly, -⟩ := hl.here
  cases hck.symm.trans hck'
  have al := hE.warmed.alike
  obtain ⟨dk2, hdk2, ed2⟩ := al.2.2 _ _ hd
  obtain ⟨k2, hk2, e2⟩ := al.2.2 _ _ hkP
  obtain ⟨ck2, hck2, ec2⟩ := al.2.2 _ _ hck
  have n1 : (ck.methods.any fun y => y.name == mname && !y.isStatic && signaturePolymorphic ck y) = false := by simp [hnopoly]
  have n2 : (ck2.methods.any fun y => y.name == mname && !y.isStatic && signaturePolymorphic ck2 y) = false := by rw [ec2]; exact n1
  have hcp' : cfile.constantPool[index]? = some (if false then .interfaceMethodref ci nt else .methodref ci nt) := hcp
  refine ⟨T.vm.calledUp g.method.cls ci index cn mk, X.noted hE.warmed, fun target hrest => ?_⟩
  jvm_step X.here [hexec, hdg, su_cold (e := e) (s := T) (s₀ := s) (f := g) X.here.top (by rw [X.admits.platform]) X.warmed hE hd hcf hcp hnt hck n1,
    invokestatic.wp_ready (e := e) (s := T.setVm (T.vm.calledUp g.method.cls ci index cn mk)) (k := k2) (meth := methM) (m := mk) (args := As) (rest := rest) (f := g)
      X.here.top ⟨ci, mname, mdesc, false, cn, ck2, memberRef_ask_via (e := e) hdk2 (by rw [ed2]; exact hcf) hcp' hnt, hE.classReady, hck2, n2⟩ hE.ready hk2
      (by show (T.vm.calledUp g.method.cls ci index cn mk).method? mk = some methM; rw [al.method?]; exact hmk)
      (by rw [e2]; show signaturePolymorphic kP methM = false; simp [signaturePolymorphic, hnx, howner.1, howner.2]) hst (by rw [e2]; exact hini) hlen hstack]
  exact fun acts => hrest _
theorem su_run {y x : MethodName} {owner : String} {bytes cc : ByteArray} {maxL nL n index : Nat} {ret : Option FieldType} {ws : List Cond} {rm : Room} {Pc : Array Value → State → Prop} {Qc : Array Value → State → Outcome → State → Prop} {free : Addr → Prop} {Ts : List Cond} {own : String} {As rest : List Value} {g : JFrame}
    (S : CallFix p m c cc nL s args Ts own) (hM : Met l y ws rm Pc Qc 0 0 free) (hyx : y = ⟨owner, x.name, x.desc⟩) (hrc : rm.cells = 0) (hrs : rm.slots = 0) (hR : rm.frames + 1 ≤ R.frames ∧ 8 + (maxL + 11) + rm.locals ≤ R.locals) (hws : GoodIn Ts ws) (hcw : Cond.code y bytes maxL ret ∈ ws)
    (hlink : Cond.methodLink own index x ∈ Ts) (hsame : Cond.sameMethod x.cls owner x.name x.desc ∈ Ts) (hstat : Cond.static y ∈ Ts) (hinit : Cond.initialized owner ∈ Ts) (howner : notMH owner) (hnp : (parseMethodDescriptor x.desc).map (fun d => d.parameters.length) = some n) (hp : PreS s H Pc As)
    (hg : g.method = m) (hn : As.length = n) (hsize : g.locals.size = nL) (hstack : g.stack = As.reverse ++ rest) (hW : 2 * g.monitorRoom + (rest.map fun v => v.category).sum ≤ 8) (hdg : decode cc g.pc = .ok (.invokestatic index, 3)) (hf : cells + 0 ≤ R.cells ∧ slots + 0 ≤ R.slots) :
    va_Run p l e R s m args below meth c H locs cells slots 0 0 g rest (Qc As.toArray) free := by
  obtain ⟨hx, hb, hml, ho, hts⟩ := S
  have hini := hts _ hinit
  have hcode := hts _ (hws _ hcw).1
  have hK : Back l R p e below s args y 3 8 (PreOf R 0 0 Pc) (PostOf Qc 0 0 free) := back_of (bytes := bytes) (maxL := maxL) (ret := ret) hM hp.1 hrc hrs hR.1 hR.2 (pay_in hts hws) hcw (fun a' U hW => word_at hW (Or.inl rfl) (by rw [hyx]; exact hini))
  obtain ⟨mk, hnamed⟩ := Cond.code_named hcode
  obtain ⟨methM, cM, hmethM, -, -, -, -, -, -, hsigM⟩ := Cond.code_spec hnamed hcode
  have hst : methM.isStatic = true := Cond.static_spec hnamed hmethM (hts _ hstat)
  obtain ⟨kP, hkP, -⟩ := className_of_methodNamed hnamed
  have hi : kP.init = .initialized := Cond.initialized_spec (findClass_of_methodNamed hnamed) hkP (by rw [hyx]; exact hini)
  intro T hT X
  have hlen : As.length = methM.sig.parameters.length := by
    rw [hyx] at hsigM
    have hsig : parseMethodDescriptor x.desc = some methM.sig := hsigM
    rw [hsig] at hnp
    rw [hn]
    exact (Option.some.inj hnp).symm
  obtain ⟨vm₁, X₁, hstep₁⟩ := su_step X hx ho (hts _ hlink) (hts _ hsame) howner (by rw [← hyx]; exact hnamed) hmethM hst hkP hi hg hlen hstack (by rw [hb]; exact hdg)
  obtain ⟨v, ⟨U', l2, c2, s2⟩, X', ⟨g', mk', t, L, e1, e2, hq, h1, hL, h2, h3⟩, st⟩ := hK m meth c ⟨T.setVm vm₁, locs, cells, slots⟩ { g with stack := rest } (.invokestatic index) mk As.toArray X₁ hg (hsize.trans hml.symm) (by rw [hb]; exact hdg) hW (X₁.named hnamed) ⟨hf.1, hf.2, hp.2 (T.setVm vm₁) hT X₁.warmed⟩
  dsimp only [Pt.U, Pt.locs, Pt.cells, Pt.slots] at X' e1 e2 h1 h2 h3 st
  subst h1; subst h2; subst h3
  exact ⟨v, (T.setVm vm₁).calling g' mk' As.toArray, t, U', L, hT, X', hL, e1, e2, hq, fun target h => hstep₁ _ fun acts => by rw [doInvoke_state]; exact st.trans h⟩
end SUq
section GStat
variable {w : Wd} {own : String} {cc : ByteArray} {nL : Nat} {ret : Option FieldType} {lev : Nat} {r : Option Value} {μr : Mm} {pc : Nat} {ls : List (Nat × Value)} {st : List Value} {μ : Mm}
/-- the words of a static call through a subclass's name -/
def WX (own : String) (idx : Nat) (owner : String) (x y : MethodName) (n : Nat) : Prop := (∀ z ∈ ([.methodLink own idx x, .sameMethod x.cls owner x.name x.desc, .static y, .initialized owner] : List Cond), z ∈ lw_g) ∧ notMH owner ∧ (parseMethodDescriptor x.desc).map (fun d => d.parameters.length) = some n
theorem G_callX3r {idx : Nat} {x y : MethodName} {owner : String} {cc' : ByteArray} {nL' : Nat} {ret' : Option FieldType} {lev' : Nat} {v1 v2 v3 : Value} {vr : Value} {μ' : Mm} (hd : decode cc pc = .ok (.invokestatic idx, 3)) (hw : WX own idx owner x y 3) (hyx : y = ⟨owner, x.name, x.desc⟩) (hcode : Cond.code y cc' nL' ret' ∈ lw_g) (hc : Cn w y cc' nL' ret' lev' [v1, v2, v3] μ (some vr) μ') (hlev : lev' + 1 ≤ lev) (hnl : nL' ≤ 11) (hroom : (st.map fun v => v.category).sum ≤ 8) (k : G w own cc nL ret lev r μr (pc + 3) ls (vr :: st) μ') : G w own cc nL ret lev r μr pc ls (v3 :: v2 :: v1 :: st) μ :=
  fun p l e s m args below meth c ad cs D C H locs la hP hD hS hl => va_callQ (su_run (As := [tr ad v1, tr ad v2, tr ad v3]) (rest := st.map (tr ad)) ⟨C.1, C.2.1, C.2.2.1, C.2.2.2.2.2.1, C.2.2.2.2.2.2.1⟩ (hc l ad cs D H.size) hyx rfl rfl (rm_ok hlev hnl) (wsall (L := []) (fun _ h => absurd h List.not_mem_nil) hcode) List.mem_cons_self (hw.1 _ (by simp)) (hw.1 _ (by simp)) (hw.1 _ (by simp)) (hw.1 _ (by simp)) hw.2.1 hw.2.2 ⟨Pw_blind, fun U hU hW => ⟨rfl, Pw_now C hP hD hS hU hW⟩⟩ rfl rfl hl.1 rfl (roomst hroom) hd ⟨Nat.le_refl _, Nat.le_refl _⟩) hS (fun H locs hP hD hS => k p l e s m args below meth c ad cs D C H locs la hP hD hS hl)
/-- the static array: its reference is the number 99 -/
theorem G_getst {idx : Nat} (hd : decode cc pc = .ok (.getstatic idx, 3)) (hw : Cond.fieldLink own idx "RosetteShow" "DIGEST_WEEKS" "[I" ∈ lw_g) (k : G w own cc nL ret lev r μr (pc + 3) ls (.ref 99 :: st) μ) : G w own cc nL ret lev r μr pc ls st μ :=
  fun p l e s m args below meth c ad cs D C H locs la hP hD hS hl => va_gets C.1 C.2.1 C.2.2.2.2.2.2.2.2.1.1 hS C.2.2.2.2.2.1 (C.2.2.2.2.2.2.1 _ hw) (fun _ h => h) hd (k p l e s m args below meth c ad cs D C H locs la hP hD hS hl)
theorem G_tlen (hd : decode cc pc = .ok (.arraylength, 1)) (k : G w own cc nL ret lev r μr (pc + 1) ls (.int 4 :: st) μ) : G w own cc nL ret lev r μr pc ls (.ref 99 :: st) μ :=
  fun p l e s m args below meth c ad cs D C H locs la hP hD hS hl => va_tlen C.1 C.2.1 C.2.2.2.2.2.2.2.2.1.2 hS rfl hd (k p l e s m args below meth c ad cs D C H locs la hP hD hS hl)
theorem G_tald {i : Int32} (hd : decode cc pc = .ok (.iaload, 1)) (hin : vp_in i 4) (k : G w own cc nL ret lev r μr (pc + 1) ls (.int (dW i.toNatClampNeg) :: st) μ) : G w own cc nL ret lev r μr pc ls (.int i :: .ref 99 :: st) μ :=
  fun p l e s m args below meth c ad cs D C H locs la hP hD hS hl => va_ti C.1 C.2.1 C.2.2.2.2.2.2.2.2.1.2 hS hin rfl hd (k p l e s m args below meth c ad cs D C H locs la hP hD hS hl)
/-- arraycopy of two int arrays of the world (perhaps one) -/
theorem G_acopy {idx : Nat} (a b n0 n1 : Nat) {sp dp n : Int32} (hd : decode cc pc = .ok (.invokestatic idx, 3)) (hw : ∀ x ∈ ([.methodLink own idx arraycopyName, .native arraycopyName, .static arraycopyName, .initialized "java/lang/System"] : List Cond), x ∈ lw_g)
    (h1 : ¬ sp < 0) (h2 : ¬ dp < 0) (h3 : ¬ n < 0) (h4 : sp.toNatClampNeg + n.toNatClampNeg ≤ n0) (h5 : dp.toNatClampNeg + n.toNatClampNeg ≤ n1) (ha : a < w.1) (hb : b < w.1) (hlev : 1 ≤ lev) (hroom : (st.map fun v => v.category).sum ≤ 8)
    (hva : ∀ ad cs f, w.2 ad cs f (μ.2 a) a = .inl (cs 0, n0, .inl f)) (hvb : ∀ ad cs f, w.2 ad cs f (μ.2 b) b = .inl (cs 0, n1, .inl f))
    (k : G w own cc nL ret lev r μr (pc + 3) ls st (wR μ b (va_cpy (μ.1 a) (μ.1 b) sp.toNatClampNeg dp.toNatClampNeg n.toNatClampNeg))) : G w own cc nL ret lev r μr pc ls (.int n :: .int dp :: .ref b :: .int sp :: .ref a :: st) μ := by
  intro p l e s m args below meth c ad cs D C H locs la hP hD hS hl
  refine va_copyi (ty := .int) C.1 C.2.1 (C.2.2.1.trans hl.1.symm) C.2.2.2.2.2.1 (C.2.2.2.2.2.2.1 _ (hw _ (by simp))) (C.2.2.2.2.2.2.1 _ (hw _ (by simp))) (C.2.2.2.2.2.2.1 _ (hw _ (by simp))) (C.2.2.2.2.2.2.1 _ (hw _ (by simp))) C.2.2.2.2.2.2.2.1 hP hD hS a b 0 0 ((ww_at ha).trans (by rw [hva])) ((ww_at hb).trans (by rw [hvb])) rfl rfl rfl h1 h2 h3 h4 h5 (fun _ _ => rfl) hlev ?_ hd (fun H locs hP hD hS => ?_)
  · rw [tr_cats]
    have e1 : nativeFrameWords "java/lang/System" "arraycopy" 5 ≤ 11 := by decide
    show _ ≤ 30 * lev
    omega
  · rw [ww_setR (f := va_cpy (μ.1 a) (μ.1 b) sp.toNatClampNeg dp.toNatClampNeg n.toNatClampNeg) hb (hvb ad cs _).symm] at hP hD
    exact k p l e s m args below meth c ad cs D C H locs la hP hD hS hl
end GStat
