/-! A small program logic over worlds of fixed cells. A world is a number of cells and what each cell is, given its row of ints and its row of longs. References on the stack and in locals are numbers of cells. -/
def lw_g : List Cond := lw_tbl.filter goodWord
theorem lg_of {x : Cond} (h : x ∈ lw_tbl) (hg : goodWord x = true) : x ∈ lw_g := List.mem_filter.mpr ⟨h, hg⟩
theorem lg_good {L : List Cond} (h : ∀ x ∈ L, x ∈ lw_g) : GoodIn lw_g L := fun x hx => ⟨h x hx, good_of_word (List.mem_filter.mp (h x hx)).2⟩
/-- three words that are not kept by the lists: they go from caller to callee -/
def Nx (U : State) : Prop := va_Nw (.declares ⟨"RosetteShow$Text", "fits", "(II)Z"⟩) U ∧ va_Nw (.declares ⟨"RosetteShow$Text", "mayEndAt", "(I)Z"⟩) U ∧ va_Nw (.methodLinkNest "RosetteShow$Sheet" 26 ⟨"RosetteShow", "isIn", "(II)Z"⟩ "RosetteShow") U
theorem Nx_warm {s U : State} (hW : s.WarmedH U.vm) (h : Nx s) : Nx U := ⟨va_Nw.warmD hW h.1, va_Nw.warmD hW h.2.1, va_Nw.warmM hW h.2.2⟩
theorem Nx_same {u U : State} (e : u.vm = U.vm) (h : Nx u) : Nx U := ⟨va_Nw.same rfl e h.1, va_Nw.same rfl e h.2.1, va_Nw.same rfl e h.2.2⟩
abbrev Mm : Type := (Nat → Nat → Int32) × (Nat → Nat → Int64)
abbrev Ad : Type := Nat → Nat
abbrev Cs : Type := Nat → ClassId
abbrev Wd : Type := Nat × (Ad → Cs → (Nat → Int32) → (Nat → Int64) → Nat → va_E)
def wR (μ : Mm) (k : Nat) (f : Nat → Int32) : Mm := (fun a => if a = k then f else μ.1 a, μ.2)
def wRL (μ : Mm) (k : Nat) (f : Nat → Int64) : Mm := (μ.1, fun a => if a = k then f else μ.2 a)
def wI (μ : Mm) (k i : Nat) (v : Int32) : Mm := wR μ k (upd (μ.1 k) i v)
def wL (μ : Mm) (k i : Nat) (v : Int64) : Mm := wRL μ k (vp_updL (μ.2 k) i v)
def ww (w : Wd) (ad : Ad) (cs : Cs) (μ : Mm) : va_W := (List.range w.1).map (fun k => (ad k, w.2 ad cs (μ.1 k) (μ.2 k) k))
def tyl (cs : Cs) : List (ClassId × FieldType) := [(cs 0, .int), (cs 1, .long), (cs 2, .boolean), (cs 3, .object "RosetteShow$Sheet")]
def tr (ad : Ad) : Value → Value
  | .ref k => .ref (ad k)
  | v => v
def trl (ad : Ad) (q : Nat × Value) : Nat × Value := (q.1, tr ad q.2)
def Aw (w : Wd) (ad : Ad) (sz : Nat) : Nat → Prop := fun q => (∃ k, k < w.1 ∧ q = ad k) ∨ sz ≤ q
def dW (j : Nat) : Int32 := if j = 0 then 0 else if j = 1 then 4 else if j = 2 then 8 else 11
def Zs (t : Nat) (A : Nat → Prop) (U : State) (H : Heap) : Prop := va_Z "RosetteShow" "DIGEST_WEEKS" "[I" (.ref t) A U H ∧ va_T .int t 4 (fun j => .int (dW j)) A U H
def rmL (n : Nat) : Room := { frames := n, cells := 0, slots := 0, locals := 30 * n }
def Pw (w : Wd) (ad : Ad) (cs : Cs) (D : va_G) (sz : Nat) (μ : Mm) (U : State) : Prop := U.heap.size = sz ∧ va_P D vwCl (ww w ad cs μ) U.heap ∧ va_K D vwCl (tyl cs) U ∧ va_D (fun _ => True) (ww w ad cs μ) ∧ Zs (ad 99) (Aw w ad sz) U U.heap ∧ Nx U
def Qw (w : Wd) (ad : Ad) (cs : Cs) (D : va_G) (A : Nat → Prop) (r : Option Value) (μ : Mm) : Array Value → State → Outcome → State → Prop := fun _ st oc t => oc = .returned r ∧ va_P D vwCl (ww w ad cs μ) t.heap ∧ va_K D vwCl (tyl cs) t ∧ va_D A (ww w ad cs μ) ∧ va_F A st t
/-- a method's contract: with these arguments and this memory it answers r and leaves the memory μ' -/
def Cn (w : Wd) (y : MethodName) (cc : ByteArray) (nL : Nat) (ret : Option FieldType) (lev : Nat) (as : List Value) (μ : Mm) (r : Option Value) (μ' : Mm) : Prop :=
  ∀ (l : Launch) (ad : Ad) (cs : Cs) (D : va_G) (sz : Nat), Met l y (.code y cc nL ret :: lw_g) (rmL lev) (va_Pc (as.map (tr ad)) (Pw w ad cs D sz μ)) (Qw w ad cs D (Aw w ad sz) (r.map (tr ad)) μ') 0 0 (Aw w ad sz)
/-- what holds all through a method's body -/
def Cx (w : Wd) (own : String) (cc : ByteArray) (nL : Nat) (ret : Option FieldType) (p : Program) (s : State) (m : MethodId) (args : Array Value) (meth : Method) (c : Code) (ad : Ad) (cs : Cs) (D : va_G) : Prop :=
  p.tables.exec = Jvm.exec ∧ c.code = cc ∧ c.maxLocals = nL ∧ meth.sig.returnType = ret ∧ meth.locks = false ∧ s.vm.findClass own = some m.cls ∧ (∀ x ∈ lw_g, x.before args s = true) ∧ va_K D vwCl (tyl cs) s ∧ Zs (ad 99) (Aw w ad s.heap.size) s s.heap ∧ Nx s
/-- from this place of the body, with these locals, this stack and this memory, the method comes to its end with r and μr -/
def G (w : Wd) (own : String) (cc : ByteArray) (nL : Nat) (ret : Option FieldType) (lev : Nat) (r : Option Value) (μr : Mm) (pc : Nat) (ls : List (Nat × Value)) (st : List Value) (μ : Mm) : Prop :=
  ∀ (p : Program) (l : Launch) (e : Env) (s : State) (m : MethodId) (args : Array Value) (below : List Frame) (meth : Method) (c : Code) (ad : Ad) (cs : Cs) (D : va_G),
    Cx w own cc nL ret p s m args meth c ad cs D → ∀ (H : Heap) (locs : List Loc) (la : Array Slot),
      va_P D vwCl (ww w ad cs μ) H → va_D (Aw w ad s.heap.size) (ww w ad cs μ) → va_S (Aw w ad s.heap.size) s.heap H locs → lv_has la nL (ls.map (trl ad)) →
      W p l e (rmL lev) s m args below meth c H locs 0 0 (MQ below (Qw w ad cs D (Aw w ad s.heap.size) (r.map (tr ad)) μr) args s 0 0 (Aw w ad s.heap.size)) (F0 m pc la (st.map (tr ad)))
theorem tr_cat (ad : Ad) (v : Value) : (tr ad v).category = v.category := by cases v <;> rfl
theorem tr_cats (ad : Ad) (st : List Value) : ((st.map (tr ad)).map fun v => v.category) = st.map fun v => v.category := by
  rw [List.map_map]; exact List.map_congr_left fun v _ => tr_cat ad v
theorem ww_at {w : Wd} {ad : Ad} {cs : Cs} {μ : Mm} {k : Nat} (hk : k < w.1) : (ww w ad cs μ)[k]? = some (ad k, w.2 ad cs (μ.1 k) (μ.2 k) k) := by
  simp [ww, hk]
theorem ww_len {w : Wd} {ad : Ad} {cs : Cs} {μ : Mm} : (ww w ad cs μ).length = w.1 := by simp [ww]
theorem ww_some {w : Wd} {ad : Ad} {cs : Cs} {μ : Mm} {k : Nat} {q : Nat × va_E} (h : (ww w ad cs μ)[k]? = some q) : k < w.1 ∧ q.1 = ad k := by
  have hk : k < w.1 := by rw [← ww_len (w := w) (ad := ad) (cs := cs) (μ := μ)]; exact (List.getElem?_eq_some_iff.mp h).1
  rw [ww_at hk] at h
  cases h
  exact ⟨hk, rfl⟩
theorem ww_set {w : Wd} {ad : Ad} {cs : Cs} {μ μ' : Mm} {k : Nat} {e : va_E} (hk : k < w.1) (h0 : ∀ j, j ≠ k → μ'.1 j = μ.1 j ∧ μ'.2 j = μ.2 j) (he : e = w.2 ad cs (μ'.1 k) (μ'.2 k) k) : (ww w ad cs μ).set k (ad k, e) = ww w ad cs μ' := by
  apply List.ext_getElem?
  intro j
  by_cases hj : j = k
  · subst hj
    rw [List.getElem?_set_self (by rw [ww_len]; exact hk), ww_at hk, he]
  · rw [List.getElem?_set_ne (Ne.symm hj)]
    by_cases hl : j < w.1
    · rw [ww_at hl, ww_at hl, (h0 j hj).1, (h0 j hj).2]
    · rw [List.getElem?_eq_none (by rw [ww_len]; omega), List.getElem?_eq_none (by rw [ww_len]; omega)]
theorem wR_ne {μ : Mm} {k : Nat} {f : Nat → Int32} {j : Nat} (h : j ≠ k) : (wR μ k f).1 j = μ.1 j := if_neg h
theorem wR_eq {μ : Mm} {k : Nat} {f : Nat → Int32} : (wR μ k f).1 k = f := if_pos rfl
theorem wRL_ne {μ : Mm} {k : Nat} {f : Nat → Int64} {j : Nat} (h : j ≠ k) : (wRL μ k f).2 j = μ.2 j := if_neg h
theorem wRL_eq {μ : Mm} {k : Nat} {f : Nat → Int64} : (wRL μ k f).2 k = f := if_pos rfl
theorem ww_setR {w : Wd} {ad : Ad} {cs : Cs} {μ : Mm} {k : Nat} {f : Nat → Int32} {e : va_E} (hk : k < w.1) (he : e = w.2 ad cs f (μ.2 k) k) : (ww w ad cs μ).set k (ad k, e) = ww w ad cs (wR μ k f) :=
  ww_set hk (fun _ hj => ⟨wR_ne hj, rfl⟩) (by rw [wR_eq]; exact he)
theorem ww_setL {w : Wd} {ad : Ad} {cs : Cs} {μ : Mm} {k : Nat} {f : Nat → Int64} {e : va_E} (hk : k < w.1) (he : e = w.2 ad cs (μ.1 k) f k) : (ww w ad cs μ).set k (ad k, e) = ww w ad cs (wRL μ k f) :=
  ww_set hk (fun _ hj => ⟨rfl, wRL_ne hj⟩) (by rw [wRL_eq]; exact he)
theorem Aw_mono {w : Wd} {ad : Ad} {a b : Nat} (h : a ≤ b) : ∀ q, Aw w ad b q → Aw w ad a q := fun q hq => hq.elim Or.inl (fun z => Or.inr (Nat.le_trans h z))
theorem Aw_lt {w : Wd} {ad : Ad} {a b : Nat} : ∀ q, q < b → Aw w ad b q → Aw w ad a q := fun q hq h => h.elim Or.inl (fun z => absurd hq (by omega))
theorem Zs_kept {t : Nat} {A : Nat → Prop} {U : State} {H H1 : Heap} (h : Zs t A U H) (hq : ∀ a : Nat, a < H.size → ¬ A a → H1[a]? = H[a]?) : Zs t A U H1 := ⟨h.1.kept hq, h.2.kept hq⟩
theorem Zs_narrow {t : Nat} {A B : Nat → Prop} {U : State} {H : Heap} (h : Zs t A U H) (hq : ∀ q, B q → A q) : Zs t B U H := ⟨h.1.narrow hq, h.2.narrow hq⟩
theorem Zs_moved {t : Nat} {A : Nat → Prop} {u U : State} {H : Heap} (hvm : u.vm.Alike U.vm) (h : Zs t A u H) : Zs t A U H := ⟨h.1.moved hvm, h.2.moved hvm⟩
theorem Pw_blind {w : Wd} {ad : Ad} {cs : Cs} {D : va_G} {sz : Nat} {μ : Mm} {av : List Value} : FrameBlind (va_Pc av (Pw w ad cs D sz μ)) := by
  intro a U g mk h
  obtain ⟨h0, h1, h2, h3, h4, h5, h6⟩ := h
  exact ⟨h0, h1, h2, va_K.moved (u := U) (U := U.calling g mk a) (Vm.Alike.refl U.vm) h3, h4, Zs_moved (u := U) (U := U.calling g mk a) (Vm.Alike.refl U.vm) h5, Nx_same (u := U) (U := U.calling g mk a) rfl h6⟩
theorem Met_ofWF {l : Launch} {y : MethodName} {ws ws' : List Cond} {rm : Room} {Pc : Array Value → State → Prop} {Qc : Array Value → State → Outcome → State → Prop} {mc ms : Nat} {free : Addr → Prop} {cc : ByteArray} {maxL : Nat} {ret : Option FieldType} (hy : plainFor y = true) (hw : ws = Cond.code y cc maxL ret :: ws')
    (body : ∀ p e s m args below meth c s₁, BodyLoose p l y (headSpec ws rm) cc maxL ret e s m args below meth c s₁ → c.maxLocals = maxL → Pc args s → W p l e (headSpec ws rm).room s m args below meth c s.heap [] 0 0 (MQ below Qc args s mc ms free) (entryFrame m args maxL)) : Met l y ws rm Pc Qc mc ms free := by
  refine MetFree.of_bodySF (code := cc) (maxLocals := maxL) (ret := ret) hy ?_ ?_
  · intro args s m h hn
    obtain ⟨meth, c, h1, h2, h3, h4, h5, h6, -, -⟩ := Cond.code_spec hn (atoms_spec (ws := ws) h _ (by rw [hw]; exact List.mem_cons_self))
    exact ⟨meth, c, h1, h2, h3, h4, h5, h6⟩
  · intro p e s m args below meth c s₁ B hml hP _
    obtain ⟨t, a1, o, b1, b2, b3⟩ := body p e s m args below meth c s₁ B hml hP s₁ (by rw [B.state]; rfl) (Stand.of_body B)
    exact ⟨t, o, a1, b1, b2, ⟨b3.1, b3.2⟩⟩
/-- the whole of a method's body gives its contract -/
theorem Cn_of {w : Wd} {y : MethodName} {cc : ByteArray} {nL : Nat} {ret : Option FieldType} {lev : Nat} {as : List Value} {μ : Mm} {r : Option Value} {μ' : Mm} (hy : plainFor y = true) (hn : (lg_sl as).length ≤ nL)
    (k : G w y.cls cc nL ret lev r μ' 0 (lv_args 0 as) [] μ) : Cn w y cc nL ret lev as μ r μ' := by
  intro l ad cs D sz
  refine Met_ofWF (cc := cc) (maxL := nL) (ret := ret) hy rfl ?_
  intro p e s m args below meth c s₁ B hml hv
  obtain ⟨rfl, hsz, hP, hK, hD0, hZ, hNx⟩ := hv
  subst hsz
  have hts := atoms_spec (ws := Cond.code y cc nL ret :: lw_g) B.pre
  have hown : s.vm.findClass y.cls = some m.cls := findClass_of_methodNamed B.named
  have hD : va_D (Aw w ad s.heap.size) (ww w ad cs μ) := ⟨hD0.1, fun k q hk => Or.inl ⟨k, ww_some hk⟩⟩
  have hsl : ∀ as : List Value, (lg_sl (as.map (tr ad))).length = (lg_sl as).length := by
    intro as
    induction as with
    | nil => rfl
    | cons v t ih =>
      simp only [lg_sl, List.map_cons, List.flatMap_cons, List.length_append, tr_cat] at ih ⊢
      rw [ih]
      by_cases hc : v.category = 2 <;> simp [hc]
  have hla : ∀ (as : List Value) (i : Nat), lv_args i (as.map (tr ad)) = (lv_args i as).map (trl ad) := by
    intro as
    induction as with
    | nil => intro i; rfl
    | cons v t ih => intro i; simp only [List.map_cons, lv_args, tr_cat, ih]; rfl
  have hl := lv_entry (as.map (tr ad)) (n := nL) (by rw [hsl]; exact hn)
  rw [lg_entry_eq]
  rw [hla] at hl
  exact k p l e s m _ below meth c ad cs D ⟨B.exec, B.bytes, hml, B.returns, B.notSynchronized, hown, fun x hx => hts x (List.mem_cons_of_mem _ hx), hK, hZ, hNx⟩ s.heap [] _ hP hD va_S.rf hl
