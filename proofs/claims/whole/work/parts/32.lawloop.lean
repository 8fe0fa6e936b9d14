def R_law : String := "RosetteShowLaw"
def lw_P (b : Addr) (xs : List Int32) (args : Array Value) (s : State) : Prop := args = #[.ref b] ∧ s.IntsAt b xs ∧ xs.length ≤ 384 ∧ (Jvm.Cond.and given_1 narrow_1).before args s = true
def lw_Q (_ : Array Value) (s : State) (o : Outcome) (t : State) : Prop := o = .returned (some (.int 1)) ∧ Framed s o t [] 600000 7302250
def lw_Z (below : List Frame) (a : Array Value) (s : State) : State → Prop := fun t => ∃ o, t.status = .running ∧ Ended t below o ∧ lw_Q a s o t
/-- the law's own end, with 1 on the stack, nothing written that was there before, its room as the claim has it -/
theorem lw_ret {p : Program} {l : Launch} {e : Env} {s : State} {m : MethodId} {below : List Frame} {meth : Method} {c : Code} {b : Nat} (hx : p.tables.exec = Jvm.exec) (hb : c.code = code) (hr : meth.sig.returnType = ret) (hlocks : meth.locks = false) {pc : Nat} {H : Heap} {ls : Array Slot} (hdg : decode code pc = .ok (.ireturn, 1)) : W p l e room_1 s m #[Value.ref b] below meth c H [] 600000 7302250 (lw_Z below #[Value.ref b] s) (F0 m pc ls [.int 1]) := by
  intro T hT X
  obtain ⟨fs, hret, hrun, hended, hW, hframe⟩ := X.leave (v := some (.int 1)) (hlocks := hlocks) (fun h => by rw [hr] at h; cases h)
  have hmeth' : T.vm.method? m = some meth := X.method'
  refine ⟨T.setFrames fs, ?_, .returned (some (.int 1)), hrun, hended, rfl, ⟨_, rfl⟩, hW, hframe⟩
  jvm_step X.here [X.here.top, hx, hb, hdg, hmeth', hr, ret, narrow_b1]
  (try refine ⟨rfl, ?_⟩); (try refine ⟨rfl, ?_⟩)
  first | (intro acts; rw [hret _ acts rfl rfl rfl]) | rw [hret _ _ rfl rfl rfl]
  exact Steps.refl _
/-- what holds at the law's entry: the machine, the code, the tables' words (any of lw_tbl by 'hts w (by decide +kernel)'), the script of L ints xs at the cell b, what the Statement gives of the start (any of its parts by flat_of_before) -/
def lw_At (p : Program) (s : State) (m : MethodId) (meth : Method) (c : Code) (b L : Nat) (xs : Nat → Int32) : Prop :=
  p.tables.exec = Jvm.exec ∧ c.code = code ∧ meth.sig.returnType = ret ∧ c.maxLocals = 4 ∧ s.vm.findClass R_law = some m.cls ∧ (∀ w ∈ lw_tbl, w.before #[Value.ref b] s = true) ∧ va_X b L xs s s.heap ∧ b < s.heap.size ∧ meth.locks = false ∧ (Jvm.Cond.and given_1 narrow_1).before #[Value.ref b] s = true

theorem cd_X9_init : Cond.code yX9_init cX9_init 2 none ∈ lw_g := lg_of (List.mem_of_getElem? (i := 783) (by decide +kernel)) rfl
theorem cd_X8_init : Cond.code yX8_init cX8_init 2 none ∈ lw_g := lg_of (List.mem_of_getElem? (i := 79) (by decide +kernel)) rfl
/-- addresses by a list; 99 is the static array -/
def adL (l : List Nat) (t : Nat) : Ad := fun k => if k = 99 then t else l.getD k 0
/-- the memories behind the constructors -/
def μC0 : Mm := (fun k => match k with
  | 1 => fun j => if j = 2 then -1 else 0
  | 3 => fun j => if j = 2 then -1 else if j = 3 then 1 else 0
  | 5 => fun j => if j = 2 then -1 else 0
  | 12 => fun j => if j = 1 then -1 else 0
  | 14 => fun j => if j = 1 then -1 else 0
  | 16 => fun j => if j = 1 then -1 else 0
  | 18 => fun j => if j = 1 then -1 else 0
  | 20 => fun j => if j = 11 then -1 else if j = 12 then -1 else if j = 13 then -1 else 0
  | 34 => fun j => if j = 0 then -1 else if j = 1 then -1 else 0
  | _ => fun _ => 0, fun _ _ => 0)
def μM0 : Mm := (fun k => match k with
  | 0 => fun j => if j = 16 then -1 else if j = 18 then -1 else 0
  | 1 => upd (upd (upd (upd (fun _ => 0) 0 (-1)) 1 (-1)) 2 (-1)) 3 (-1)
  | _ => fun _ => 0, fun _ _ => 0)
theorem cellq {cA : ClassId} {n : Nat} {f g : Nat → Option Nat} (h : ∀ j, j < n → f j = g j) : vp_cell cA (n, .inr (.inr (.inr (.inr f)))) = vp_cell cA (n, .inr (.inr (.inr (.inr g)))) := by
  show arrV cA n (fun j => va_rf (f j)) = arrV cA n (fun j => va_rf (g j))
  unfold arrV
  congr 2
  funext j
  show va_rf (f j.val) = va_rf (g j.val)
  rw [h j.val j.isLt]
set_option maxRecDepth 100000 in
set_option maxHeartbeats 4000000 in
theorem law_loop {I : Mm → Mm → Prop} (hO : LawOps I) {p : Program} {l : Launch} {e : Env} {s : State} {m : MethodId} {below : List Frame} {meth : Method} {c : Code} {b L : Nat} {xs : Nat → Int32} {D : va_G} {cs : Cs} {ac am : Ad} (X : LX p s m meth c b L xs D cs ac am) : ∀ (n j : Nat), L < j + n → ∀ (μ ν : Mm), I μ ν → ∀ (H : Heap) (locs : List Loc) (la : Array Slot), j ≤ 400 → LSt s D cs ac am μ ν H locs → lv_has la 4 [(0, .ref b), (1, .ref (ac 0)), (2, .ref (am 0)), (3, .int (nI j))] → W p l e room_1 s m #[Value.ref b] below meth c H locs 62 1996 (lw_Z below #[Value.ref b] s) (F0 m 18 la []) := by
  intro n
  induction n with
  | zero =>
    intro j hn μ ν hI H locs la hj4 S hl
    obtain ⟨hx, hb, hr, hml, hown, hts, hX, hbl, hlocks⟩ := X.1
    have hL := X.2.2.2.2.2.2
    refine lv_iload_n hx hb dL_law_18 rfl (lv_at hl 3 rfl) ?_
    refine lv_aload_n hx hb dL_law_19 rfl (lv_at hl 0 rfl) ?_
    refine va_slen hx hb hX hbl (Nat.not_le.mpr hbl) S.2.2.2.2 dL_law_20 ?_
    refine lv_bipush (v := 6) hx hb dL_law_21 (by decide) ?_
    refine lv_isub hx hb dL_law_23 ?_
    refine lv_icmp_gt (tgt := 1278) hx hb dL_law_24 (by decide) (fun _ => ?_) (fun hc => ?_)
    · refine lv_iconst (v := 1) hx hb dL_law_1278 (by decide) ?_
      refine va_forget (fun q h => S.2.2.2.2.2.2 q h) ?_
      refine W.widen (k := 600000) (n := 7302250) (Nat.le_of_ble_eq_true rfl) (Nat.le_of_ble_eq_true rfl) ?_
      exact lw_ret hx hb hr hlocks dL_law_1279
    · refine absurd ?_ hc
      rw [Int32.lt_iff_toInt_lt]
      have e1 : (Int32.ofNat L - 6 : Int32).toInt = (L : Int) - 6 := pk_sub_toInt (a := L) (b := 6) (by omega) (by omega)
      have e2 : (nI j).toInt = (j : Int) := nI_toInt (by omega)
      rw [e1, e2]
      omega
  | succ n ih =>
    intro j hn μ ν hI H locs la hj4 S hl
    obtain ⟨hx, hb, hr, hml, hown, hts, hX, hbl, hlocks⟩ := X.1
    have hL := X.2.2.2.2.2.2
    refine lv_iload_n hx hb dL_law_18 rfl (lv_at hl 3 rfl) ?_
    refine lv_aload_n hx hb dL_law_19 rfl (lv_at hl 0 rfl) ?_
    refine va_slen hx hb hX hbl (Nat.not_le.mpr hbl) S.2.2.2.2 dL_law_20 ?_
    refine lv_bipush (v := 6) hx hb dL_law_21 (by decide) ?_
    refine lv_isub hx hb dL_law_23 ?_
    have e1 : (Int32.ofNat L - 6 : Int32).toInt = (L : Int) - 6 := pk_sub_toInt (a := L) (b := 6) (by omega) (by omega)
    have e2 : (nI j).toInt = (j : Int) := nI_toInt (by omega)
    refine lv_icmp_gt (tgt := 1278) hx hb dL_law_24 (by decide) (fun _ => ?_) (fun hc => ?_)
    · refine lv_iconst (v := 1) hx hb dL_law_1278 (by decide) ?_
      refine va_forget (fun q h => S.2.2.2.2.2.2 q h) ?_
      refine W.widen (k := 600000) (n := 7302250) (Nat.le_of_ble_eq_true rfl) (Nat.le_of_ble_eq_true rfl) ?_
      exact lw_ret hx hb hr hlocks dL_law_1279
    have hj : j + 6 ≤ L := by
      rw [Int32.lt_iff_toInt_lt, e1, e2] at hc
      omega
    have kk : ∀ (μ' ν' : Mm) (H1 : Heap) (locs1 : List Loc), I μ' ν' → LSt s D cs ac am μ' ν' H1 locs1 → W p l e room_1 s m #[Value.ref b] below meth c H1 locs1 62 1996 (lw_Z below #[Value.ref b] s) (F0 m 1272 la []) := by
      intro μ' ν' H1 locs1 hI2 S2
      refine lv_iinc (k := 3) (v := nI (j + 6)) (lv' := [(3, .int (nI (j + 6))), (0, .ref b), (1, .ref (ac 0)), (2, .ref (am 0))]) hx hb dL_law_1272 hl rfl (nI_add j 6) (by decide) rfl (fun la' hl' => ?_)
      refine lv_goto (tgt := 18) hx hb dL_law_1275 (by decide) ?_
      exact ih (j + 6) (by omega) μ' ν' hI2 H1 locs1 la' (by omega) S2 (lv_sub hl' [1, 2, 3, 0] rfl)
    refine lv_aload_n hx hb dL_law_27 rfl (lv_at hl 0 rfl) ?_
    refine lv_iload_n hx hb dL_law_28 rfl (lv_at hl 3 rfl) ?_
    refine va_sld hx hb hX hbl (Nat.not_le.mpr hbl) S.2.2.2.2 (vp_in_nI (by omega) (by omega)) dL_law_29 ?_
    refine lv_bipush (v := 63) hx hb dL_law_30 (by decide) ?_
    refine lv_iand hx hb dL_law_32 ?_
    generalize (xs (nI j).toNatClampNeg &&& 63) = x0
    by_cases c0 : x0 = 0
    · subst c0
      exact lv_tableIn (tgt := 192) hx hb dL_law_33 (by decide) (by decide) rfl (by decide) (law_0 hO X hj μ ν hI H locs la S hl kk)
    by_cases c1 : x0 = 1
    · subst c1
      exact lv_tableIn (tgt := 225) hx hb dL_law_33 (by decide) (by decide) rfl (by decide) (law_1 hO X hj μ ν hI H locs la S hl kk)
    by_cases c2 : x0 = 2
    · subst c2
      exact lv_tableIn (tgt := 248) hx hb dL_law_33 (by decide) (by decide) rfl (by decide) (law_2 hO X hj μ ν hI H locs la S hl kk)
    by_cases c3 : x0 = 3
    · subst c3
      exact lv_tableIn (tgt := 271) hx hb dL_law_33 (by decide) (by decide) rfl (by decide) (law_3 hO X hj μ ν hI H locs la S hl kk)
    by_cases c4 : x0 = 4
    · subst c4
      exact lv_tableIn (tgt := 294) hx hb dL_law_33 (by decide) (by decide) rfl (by decide) (law_4 hO X hj μ ν hI H locs la S hl kk)
    by_cases c5 : x0 = 5
    · subst c5
      exact lv_tableIn (tgt := 327) hx hb dL_law_33 (by decide) (by decide) rfl (by decide) (law_5 hO X hj μ ν hI H locs la S hl kk)
    by_cases c6 : x0 = 6
    · subst c6
      exact lv_tableIn (tgt := 360) hx hb dL_law_33 (by decide) (by decide) rfl (by decide) (law_6 hO X hj μ ν hI H locs la S hl kk)
    by_cases c7 : x0 = 7
    · subst c7
      exact lv_tableIn (tgt := 403) hx hb dL_law_33 (by decide) (by decide) rfl (by decide) (law_7 hO X hj μ ν hI H locs la S hl kk)
    by_cases c8 : x0 = 8
    · subst c8
      exact lv_tableIn (tgt := 416) hx hb dL_law_33 (by decide) (by decide) rfl (by decide) (law_8 hO X hj μ ν hI H locs la S hl kk)
    by_cases c9 : x0 = 9
    · subst c9
      exact lv_tableIn (tgt := 439) hx hb dL_law_33 (by decide) (by decide) rfl (by decide) (law_9 hO X hj μ ν hI H locs la S hl kk)
    by_cases c10 : x0 = 10
    · subst c10
      exact lv_tableIn (tgt := 472) hx hb dL_law_33 (by decide) (by decide) rfl (by decide) (law_10 hO X hj μ ν hI H locs la S hl kk)
    by_cases c11 : x0 = 11
    · subst c11
      exact lv_tableIn (tgt := 515) hx hb dL_law_33 (by decide) (by decide) rfl (by decide) (law_11 hO X hj μ ν hI H locs la S hl kk)
    by_cases c12 : x0 = 12
    · subst c12
      exact lv_tableIn (tgt := 548) hx hb dL_law_33 (by decide) (by decide) rfl (by decide) (law_12 hO X hj μ ν hI H locs la S hl kk)
    by_cases c13 : x0 = 13
    · subst c13
      exact lv_tableIn (tgt := 571) hx hb dL_law_33 (by decide) (by decide) rfl (by decide) (law_13 hO X hj μ ν hI H locs la S hl kk)
    by_cases c14 : x0 = 14
    · subst c14
      exact lv_tableIn (tgt := 584) hx hb dL_law_33 (by decide) (by decide) rfl (by decide) (law_14 hO X hj μ ν hI H locs la S hl kk)
    by_cases c15 : x0 = 15
    · subst c15
      exact lv_tableIn (tgt := 597) hx hb dL_law_33 (by decide) (by decide) rfl (by decide) (law_15 hO X hj μ ν hI H locs la S hl kk)
    by_cases c16 : x0 = 16
    · subst c16
      exact lv_tableIn (tgt := 620) hx hb dL_law_33 (by decide) (by decide) rfl (by decide) (law_16 hO X hj μ ν hI H locs la S hl kk)
    by_cases c17 : x0 = 17
    · subst c17
      exact lv_tableIn (tgt := 653) hx hb dL_law_33 (by decide) (by decide) rfl (by decide) (law_17 hO X hj μ ν hI H locs la S hl kk)
    by_cases c18 : x0 = 18
    · subst c18
      exact lv_tableIn (tgt := 686) hx hb dL_law_33 (by decide) (by decide) rfl (by decide) (law_18 hO X hj μ ν hI H locs la S hl kk)
    by_cases c19 : x0 = 19
    · subst c19
      exact lv_tableIn (tgt := 729) hx hb dL_law_33 (by decide) (by decide) rfl (by decide) (law_19 hO X hj μ ν hI H locs la S hl kk)
    by_cases c20 : x0 = 20
    · subst c20
      exact lv_tableIn (tgt := 752) hx hb dL_law_33 (by decide) (by decide) rfl (by decide) (law_20 hO X hj μ ν hI H locs la S hl kk)
    by_cases c21 : x0 = 21
    · subst c21
      exact lv_tableIn (tgt := 795) hx hb dL_law_33 (by decide) (by decide) rfl (by decide) (law_21 hO X hj μ ν hI H locs la S hl kk)
    by_cases c22 : x0 = 22
    · subst c22
      exact lv_tableIn (tgt := 808) hx hb dL_law_33 (by decide) (by decide) rfl (by decide) (law_22 hO X hj μ ν hI H locs la S hl kk)
    by_cases c23 : x0 = 23
    · subst c23
      exact lv_tableIn (tgt := 821) hx hb dL_law_33 (by decide) (by decide) rfl (by decide) (law_23 hO X hj μ ν hI H locs la S hl kk)
    by_cases c24 : x0 = 24
    · subst c24
      exact lv_tableIn (tgt := 844) hx hb dL_law_33 (by decide) (by decide) rfl (by decide) (law_24 hO X hj μ ν hI H locs la S hl kk)
    by_cases c25 : x0 = 25
    · subst c25
      exact lv_tableIn (tgt := 867) hx hb dL_law_33 (by decide) (by decide) rfl (by decide) (law_25 hO X hj μ ν hI H locs la S hl kk)
    by_cases c26 : x0 = 26
    · subst c26
      exact lv_tableIn (tgt := 890) hx hb dL_law_33 (by decide) (by decide) rfl (by decide) (law_26 hO X hj μ ν hI H locs la S hl kk)
    by_cases c27 : x0 = 27
    · subst c27
      exact lv_tableIn (tgt := 934) hx hb dL_law_33 (by decide) (by decide) rfl (by decide) (law_27 hO X hj μ ν hI H locs la S hl kk)
    by_cases c28 : x0 = 28
    · subst c28
      exact lv_tableIn (tgt := 977) hx hb dL_law_33 (by decide) (by decide) rfl (by decide) (law_28 hO X hj μ ν hI H locs la S hl kk)
    by_cases c29 : x0 = 29
    · subst c29
      exact lv_tableIn (tgt := 1020) hx hb dL_law_33 (by decide) (by decide) rfl (by decide) (law_29 hO X hj μ ν hI H locs la S hl kk)
    by_cases c30 : x0 = 30
    · subst c30
      exact lv_tableIn (tgt := 1043) hx hb dL_law_33 (by decide) (by decide) rfl (by decide) (law_30 hO X hj μ ν hI H locs la S hl kk)
    by_cases c31 : x0 = 31
    · subst c31
      exact lv_tableIn (tgt := 1096) hx hb dL_law_33 (by decide) (by decide) rfl (by decide) (law_31 hO X hj μ ν hI H locs la S hl kk)
    by_cases c32 : x0 = 32
    · subst c32
      exact lv_tableIn (tgt := 1139) hx hb dL_law_33 (by decide) (by decide) rfl (by decide) (law_32 hO X hj μ ν hI H locs la S hl kk)
    by_cases c33 : x0 = 33
    · subst c33
      exact lv_tableIn (tgt := 1202) hx hb dL_law_33 (by decide) (by decide) rfl (by decide) (law_33 hO X hj μ ν hI H locs la S hl kk)
    by_cases c34 : x0 = 34
    · subst c34
      exact lv_tableIn (tgt := 1235) hx hb dL_law_33 (by decide) (by decide) rfl (by decide) (law_34 hO X hj μ ν hI H locs la S hl kk)
    by_cases c35 : x0 = 35
    · subst c35
      exact lv_tableIn (tgt := 1258) hx hb dL_law_33 (by decide) (by decide) rfl (by decide) (law_35 hO X hj μ ν hI H locs la S hl kk)
    exact lv_tableOut (tgt := 1272) hx hb dL_law_33 (tswO 36 (by decide) (lt_s (lt_s (lt_s (lt_s (lt_s (lt_s (lt_s (lt_s (lt_s (lt_s (lt_s (lt_s (lt_s (lt_s (lt_s (lt_s (lt_s (lt_s (lt_s (lt_s (lt_s (lt_s (lt_s (lt_s (lt_s (lt_s (lt_s (lt_s (lt_s (lt_s (lt_s (lt_s (lt_s (lt_s (lt_s (lt_s lt_0 c0) c1) c2) c3) c4) c5) c6) c7) c8) c9) c10) c11) c12) c13) c14) c15) c16) c17) c18) c19) c20) c21) c22) c23) c24) c25) c26) c27) c28) c29) c30) c31) c32) c33) c34) c35)) (by decide) (kk μ ν H locs hI S)
set_option maxRecDepth 100000 in
set_option maxHeartbeats 8000000 in
theorem law_start {I : Mm → Mm → Prop} (hO : LawOps I) (hI0 : I μC0 μM0) {p : Program} {e : Env} {s : State} {m : MethodId} {below : List Frame} {meth : Method} {c : Code} (l : Launch) {b L : Nat} {xs : Nat → Int32} (hL : L ≤ 384) (C0 : lw_At p s m meth c b L xs) : W p l e room_1 s m #[Value.ref b] below meth c s.heap [] 0 0 (lw_Z below #[Value.ref b] s) (entryFrame m ([Value.ref b] : List Value).toArray 4) := by
  obtain ⟨hx, hb, hr, hml, hown, hts0, hX, hbl, hlocks, hgv⟩ := C0
  have hts : ∀ x ∈ lw_g, x.before #[Value.ref b] s = true := fun x h => hts0 x (List.mem_filter.mp h).1
  obtain ⟨k0, i0, hk0⟩ := u_known (C := RX0) (T := TX0) (N := 2) (n := 2) hts0 inX0 (hts0 (.instantiable RX0 2) (List.mem_of_getElem? (i := 257) (by decide +kernel)))
  obtain ⟨k1, i1, hk1⟩ := u_known (C := RX1) (T := TX1) (N := 2) (n := 2) hts0 inX1 (hts0 (.instantiable RX1 2) (List.mem_of_getElem? (i := 133) (by decide +kernel)))
  obtain ⟨k2, i2, hk2⟩ := u_known (C := RX2) (T := TX2) (N := 14) (n := 14) hts0 inX2 (hts0 (.instantiable RX2 14) (List.mem_of_getElem? (i := 150) (by decide +kernel)))
  obtain ⟨k3, i3, hk3⟩ := u_known (C := RX3) (T := TX3) (N := 4) (n := 4) hts0 inX3 (hts0 (.instantiable RX3 4) (List.mem_of_getElem? (i := 84) (by decide +kernel)))
  obtain ⟨k4, i4, hk4⟩ := u_known (C := RX4) (T := TX4) (N := 3) (n := 3) hts0 inX4 (hts0 (.instantiable RX4 3) (List.mem_of_getElem? (i := 270) (by decide +kernel)))
  obtain ⟨k5, i5, hk5⟩ := u_known (C := RX6) (T := TX6) (N := 3) (n := 3) hts0 inX6 (hts0 (.instantiable RX6 3) (List.mem_of_getElem? (i := 123) (by decide +kernel)))
  obtain ⟨k6, i6, hk6⟩ := u_known (C := RX7) (T := TX7) (N := 9) (n := 9) hts0 inX7 (hts0 (.instantiable RX7 9) (List.mem_of_getElem? (i := 220) (by decide +kernel)))
  obtain ⟨k7, i7, hk7⟩ := u_known (C := RX8) (T := TX8) (N := 12) (n := 12) hts0 inX8 (hts0 (.instantiable RX8 12) (List.mem_of_getElem? (i := 76) (by decide +kernel)))
  obtain ⟨k8, i8, hk8⟩ := u_known (C := RX9) (T := TX9) (N := 37) (n := 37) hts0 inX9 (hts0 (.instantiable RX9 37) (List.mem_of_getElem? (i := 780) (by decide +kernel)))
  obtain ⟨D, hKc⟩ : ∃ D : va_G, ∀ (k : Nat) (q : vw_C), vwCl[k]? = some q → u_Kn s q.1 q.2.1 q.2.2 (D.1 k) (D.2 k) := by
    refine ⟨(fun k => match k with | 0 => k0 | 1 => k1 | 2 => k2 | 3 => k3 | 4 => k4 | 5 => k5 | 6 => k6 | 7 => k7 | _ => k8, fun k => match k with | 0 => i0 | 1 => i1 | 2 => i2 | 3 => i3 | 4 => i4 | 5 => i5 | 6 => i6 | 7 => i7 | _ => i8), ?_⟩
    intro k q hq
    match k, hq with
    | 0, hq => cases hq; exact hk0
    | 1, hq => cases hq; exact hk1
    | 2, hq => cases hq; exact hk2
    | 3, hq => cases hq; exact hk3
    | 4, hq => cases hq; exact hk4
    | 5, hq => cases hq; exact hk5
    | 6, hq => cases hq; exact hk6
    | 7, hq => cases hq; exact hk7
    | 8, hq => cases hq; exact hk8
    | k + 9, hq => simp [vwCl] at hq
  obtain ⟨cs, hKt⟩ : ∃ cs : Cs, ∀ (k : Nat) (q : ClassId × FieldType), (tyl cs)[k]? = some q → ArrOfT s q.1 q.2 ∧ va_RA s q.1 q.2 := by
    obtain ⟨a0, b0, d0, x0, y0, z0⟩ := Cond.arrayClass_spec (hts0 (.arrayClass .int) (List.mem_of_getElem? (i := 121) (by decide +kernel)))
    obtain ⟨a1, b1, d1, x1, y1, z1⟩ := Cond.arrayClass_spec (hts0 (.arrayClass .long) (List.mem_of_getElem? (i := 288) (by decide +kernel)))
    obtain ⟨a2, b2, d2, x2, y2, z2⟩ := Cond.arrayClass_spec (hts0 (.arrayClass .boolean) (List.mem_of_getElem? (i := 897) (by decide +kernel)))
    obtain ⟨d3, a3, b3, w3, -, y3, z3, x3⟩ := Cond.arrayOver_spec (hts0 (.arrayOver (.object "RosetteShow$Sheet")) (List.mem_of_getElem? (i := 148) (by decide +kernel)))
    refine ⟨fun k => match k with | 0 => a0 | 1 => a1 | 2 => a2 | _ => a3, ?_⟩
    intro k q hq
    match k, hq with
    | 0, hq => cases hq; exact ⟨fun n z => ⟨fun k h => (by cases h), b0, y0, d0, z0⟩, x0⟩
    | 1, hq => cases hq; exact ⟨fun n z => ⟨fun k h => (by cases h), b1, y1, d1, z1⟩, x1⟩
    | 2, hq => cases hq; exact ⟨fun n z => ⟨fun k h => (by cases h), b2, y2, d2, z2⟩, x2⟩
    | 3, hq => cases hq; exact ⟨fun n z => ⟨fun k h => (by cases h), b3, y3, d3, z3⟩, b3, d3, y3, z3, w3, x3⟩
    | k + 4, hq => simp [tyl] at hq
  have hK : va_K D vwCl (tyl cs) s := ⟨hKc, hKt⟩
  have hA0 : ∀ a : Nat, a < s.heap.size → ¬ A0 s a := fun a h => Nat.not_le.mpr h
  obtain ⟨t0, hev, hTd⟩ : ∃ t : Nat, (Term.static "RosetteShow" "DIGEST_WEEKS" "[I").eval #[Value.ref b] s none [] s = some (.ref t) ∧ va_T .int t 4 (fun j => .int (dW j)) (A0 s) s s.heap := by
    have hs := flat_of_before _ hgv
    refine va_Tof (by decide) (hs _ (by decide +kernel)) (va_eqt (z := 4) (hs _ (by decide +kernel))) (fun j hj => ?_) hA0
    rcases (show j = 0 ∨ j = 1 ∨ j = 2 ∨ j = 3 by omega) with rfl | rfl | rfl | rfl
    · exact va_eqt (z := 0) (hs _ (by decide +kernel))
    · exact va_eqt (z := 4) (hs _ (by decide +kernel))
    · exact va_eqt (z := 8) (hs _ (by decide +kernel))
    · exact va_eqt (z := 11) (hs _ (by decide +kernel))
  have hZs : Zs t0 (A0 s) s s.heap := ⟨va_Zof (hts0 (.laysStatic "RosetteShow" "DIGEST_WEEKS" "[I") (List.mem_of_getElem? (i := 756) (by decide +kernel))) (hts0 (.initialized "RosetteShow") (List.mem_of_getElem? (i := 62) (by decide +kernel))) hev hA0, hTd⟩
  have hNx : Nx s := ⟨va_Nw.of rfl (hts0 (.declares ⟨"RosetteShow$Text", "fits", "(II)Z"⟩) (List.mem_of_getElem? (i := 347) (by decide +kernel))), va_Nw.of rfl (hts0 (.declares ⟨"RosetteShow$Text", "mayEndAt", "(I)Z"⟩) (List.mem_of_getElem? (i := 365) (by decide +kernel))), va_Nw.of rfl (hts0 (.methodLinkNest "RosetteShow$Sheet" 26 ⟨"RosetteShow", "isIn", "(II)Z"⟩ "RosetteShow") (List.mem_of_getElem? (i := 705) (by decide +kernel)))⟩
  have hNq : Nq s := ⟨va_Nw.of rfl (hts0 (.methodLinkNest "RosetteShow" 30 yX1_init "RosetteShow") (List.mem_of_getElem? (i := 134) (by decide +kernel))), va_Nw.of rfl (hts0 (.methodLinkNest "RosetteShow" 59 yX7_init "RosetteShow") (List.mem_of_getElem? (i := 221) (by decide +kernel))), va_Nw.of rfl (hts0 (.methodLinkNest "RosetteShow" 66 yX0_init "RosetteShow") (List.mem_of_getElem? (i := 258) (by decide +kernel))), va_Nw.of rfl (hts0 (.methodLinkNest "RosetteShow" 79 yX4_init "RosetteShow") (List.mem_of_getElem? (i := 271) (by decide +kernel))), va_AO.of (hts0 (.arrayOver (.object "RosetteShow$Sheet")) (List.mem_of_getElem? (i := 148) (by decide +kernel)))⟩
  have hAq : ∀ q : Nat, s.heap.size ≤ q → A0 s q := fun _ h => h
  have hS : va_S (A0 s) s.heap s.heap [] := va_S.rf
  have hP : va_P D vwCl [] s.heap := fun k q h => by simp at h
  have hD : va_D (A0 s) [] := ⟨fun i j p q h => by simp at h, fun k q h => by simp at h⟩
  have hl := lv_entry ([.ref b]) (n := 4) (Nat.le_of_ble_eq_true rfl)
  rw [lg_entry_eq]
  generalize (lg_sl ([.ref b]) ++ List.replicate (4 - (lg_sl ([.ref b])).length) Slot.unset).toArray = la at hl ⊢
  have hl : lv_has la 4 [(0, .ref b)] := hl
  have hpd : ∀ (w0 : va_W) (H : Heap), va_P D vwCl w0 H → va_D (A0 s) w0 → ∀ U : State, U.heap = H → s.WarmedH U.vm → U.heap.size = H.size ∧ va_P D vwCl w0 U.heap ∧ va_K D vwCl (tyl cs) U ∧ va_D (fun _ => True) w0 ∧ Nq U := fun w0 H hP hD U hU hW => ⟨by rw [hU], by rw [hU]; exact hP, va_K.moved hW.alike hK, hD.weaken (fun _ _ _ _ => trivial), Nq_warm hW hNq⟩
  refine va_new (ci := 7) (fs := [.null, .null, .null, .null, .null, .null, .int 0, .null, .null, .null, .null, .null]) (C := RX8) (T := TX8) (N := 12) hx hb hts igX8 tyX8 tyX8_ok hown (hts0 (.classLink RL 7 RX8) (List.mem_of_getElem? (i := 75) (by decide +kernel))) (hts0 (.instantiable RX8 12) (List.mem_of_getElem? (i := 76) (by decide +kernel))) (hts0 (.initialized RX8) (List.mem_of_getElem? (i := 62) (by decide +kernel))) hK hP hD hS hAq rfl (by decide +kernel) (Nat.le_of_ble_eq_true rfl) (Nat.le_of_ble_eq_true rfl) dL_law_0 (fun h0 H hP hD hS => ?_)
  have hP : va_P D vwCl [(h0, .inr (7, [.null, .null, .null, .null, .null, .null, .int 0, .null, .null, .null, .null, .null]))] H := hP
  have hD : va_D (A0 s) [(h0, .inr (7, [.null, .null, .null, .null, .null, .null, .int 0, .null, .null, .null, .null, .null]))] := hD
  refine W.widen (k := 1) (n := 12) (by omega) (by omega) ?_
  refine lv_dup hx hb dL_law_3 rfl ?_
  refine GD_after (cs := cs) (A := A0 s) (wr := []) [0] [] (va_runI (As := []) (rest := [.ref h0]) ⟨hx, hb, hml, hown, hts⟩ (K_X8_init cs h0 l D H.size) (cwI 0 hts (wsall (L := []) (fun _ h => absurd h List.not_mem_nil) cd_X8_init) rfl rfl rfl (hts0 (.initialized RX8) (List.mem_of_getElem? (i := 62) (by decide +kernel))) (hts0 (.methodLink RL 9 yX8_init) (List.mem_of_getElem? (i := 77) (by decide +kernel))) (hts0 (.instanceMethod yX8_init) (List.mem_of_getElem? (i := 78) (by decide +kernel))) rfl (by decide +kernel) ⟨Nat.le_of_ble_eq_true rfl, Nat.le_of_ble_eq_true rfl⟩) ⟨PD_blind, fun U hU hW => ⟨rfl, hpd _ H hP hD U hU hW⟩⟩ rfl rfl hl.1 rfl (lv_room (Nat.le_of_ble_eq_true rfl)) dL_law_4 ⟨Nat.le_of_ble_eq_true rfl, Nat.le_of_ble_eq_true rfl⟩) hAq hP hD hS rfl rfl (by decide) (by decide) (fun w1 H locs hw1 hP hD hS => ?_)
  obtain ⟨q1, q2, q3, q4, q5, q6, q7, q8, q9, q10, q11, q12, q13, q14, q15, q16, q17, q18, q19, q20, q21, q22, q23, q24, q25, q26, q27, q28, q29, q30, q31, q32, q33, q34, q35, q36, rfl⟩ := hw1
  refine W.widen (k := 37) (n := 610) (by omega) (by omega) ?_
  refine lv_astore_n (lv' := [(1, .ref h0), (0, .ref b)]) hx hb dL_law_7 rfl hl (by decide) rfl (fun la hl => ?_)
  -- the class's world
  have hP : va_P D vwCl ([(h0, .inr (7, [.ref q1, .ref q3, .ref q5, .ref q7, .ref q9, .ref q11, .int 0, .ref q12, .ref q20, .ref q26, .ref q27, .ref q28])), (q1, .inr (3, [.ref q2, .int 0, .int (-1), .int 0])), (q2, .inl (cs 0, 39, .inl (fun _ => 0))), (q3, .inr (3, [.ref q4, .int 0, .int (-1), .int 1])), (q4, .inl (cs 0, 15, .inl (fun _ => 0))), (q5, .inr (5, [.ref q6, .int 0, .int (-1)])), (q6, .inl (cs 0, 12, .inl (fun _ => 0))), (q7, .inr (1, [.ref q8, .int 0])), (q8, .inl (cs 0, 24, .inl (fun _ => 0))), (q9, .inr (1, [.ref q10, .int 0])), (q10, .inl (cs 0, 24, .inl (fun _ => 0))), (q11, .inl (cs 3, 4, .inr (.inr (.inr (.inr (va_up (va_up (va_up (va_up (fun _ => none) 0 (some q29)) 1 (some q31)) 2 (some q33)) 3 (some q35))))))), (q12, .inr (2, [.ref q7, .int 0, .ref q13, .ref q14, .ref q15, .int 0, .ref q16, .ref q17, .ref q18, .ref q19, .int 0, .int (-1), .int (-1), .int (-1)])), (q13, .inl (cs 0, 10, .inl (fun _ => 0))), (q14, .inl (cs 0, 10, .inl (fun _ => 0))), (q15, .inl (cs 0, 10, .inl (fun _ => 0))), (q16, .inl (cs 0, 4, .inl (fun _ => 0))), (q17, .inl (cs 0, 4, .inl (fun _ => 0))), (q18, .inl (cs 0, 4, .inl (fun _ => 0))), (q19, .inl (cs 0, 12, .inl (fun _ => 0))), (q20, .inr (6, [.ref q21, .ref q22, .ref q23, .ref q24, .ref q25, .int 0, .int 0, .int 0, .int 0])), (q21, .inl (cs 0, 10, .inl (fun _ => 0))), (q22, .inl (cs 0, 10, .inl (fun _ => 0))), (q23, .inl (cs 0, 10, .inl (fun _ => 0))), (q24, .inl (cs 0, 10, .inl (fun _ => 0))), (q25, .inl (cs 0, 36, .inl (fun _ => 0))), (q26, .inr (0, [.int (-1), .int (-1)])), (q27, .inl (cs 1, 10, .inr (.inl (fun _ => 0)))), (q28, .inl (cs 0, 48, .inl (fun _ => 0))), (q29, .inr (4, [.ref q30, .int (-1), .int 0])), (q30, .inl (cs 0, 60, .inl (fun _ => 0))), (q31, .inr (4, [.ref q32, .int (-1), .int 0])), (q32, .inl (cs 0, 60, .inl (fun _ => 0))), (q33, .inr (4, [.ref q34, .int (-1), .int 0])), (q34, .inl (cs 0, 60, .inl (fun _ => 0))), (q35, .inr (4, [.ref q36, .int (-1), .int 0])), (q36, .inl (cs 0, 60, .inl (fun _ => 0)))]) H := hP
  have hD : va_D (A0 s) ([(h0, .inr (7, [.ref q1, .ref q3, .ref q5, .ref q7, .ref q9, .ref q11, .int 0, .ref q12, .ref q20, .ref q26, .ref q27, .ref q28])), (q1, .inr (3, [.ref q2, .int 0, .int (-1), .int 0])), (q2, .inl (cs 0, 39, .inl (fun _ => 0))), (q3, .inr (3, [.ref q4, .int 0, .int (-1), .int 1])), (q4, .inl (cs 0, 15, .inl (fun _ => 0))), (q5, .inr (5, [.ref q6, .int 0, .int (-1)])), (q6, .inl (cs 0, 12, .inl (fun _ => 0))), (q7, .inr (1, [.ref q8, .int 0])), (q8, .inl (cs 0, 24, .inl (fun _ => 0))), (q9, .inr (1, [.ref q10, .int 0])), (q10, .inl (cs 0, 24, .inl (fun _ => 0))), (q11, .inl (cs 3, 4, .inr (.inr (.inr (.inr (va_up (va_up (va_up (va_up (fun _ => none) 0 (some q29)) 1 (some q31)) 2 (some q33)) 3 (some q35))))))), (q12, .inr (2, [.ref q7, .int 0, .ref q13, .ref q14, .ref q15, .int 0, .ref q16, .ref q17, .ref q18, .ref q19, .int 0, .int (-1), .int (-1), .int (-1)])), (q13, .inl (cs 0, 10, .inl (fun _ => 0))), (q14, .inl (cs 0, 10, .inl (fun _ => 0))), (q15, .inl (cs 0, 10, .inl (fun _ => 0))), (q16, .inl (cs 0, 4, .inl (fun _ => 0))), (q17, .inl (cs 0, 4, .inl (fun _ => 0))), (q18, .inl (cs 0, 4, .inl (fun _ => 0))), (q19, .inl (cs 0, 12, .inl (fun _ => 0))), (q20, .inr (6, [.ref q21, .ref q22, .ref q23, .ref q24, .ref q25, .int 0, .int 0, .int 0, .int 0])), (q21, .inl (cs 0, 10, .inl (fun _ => 0))), (q22, .inl (cs 0, 10, .inl (fun _ => 0))), (q23, .inl (cs 0, 10, .inl (fun _ => 0))), (q24, .inl (cs 0, 10, .inl (fun _ => 0))), (q25, .inl (cs 0, 36, .inl (fun _ => 0))), (q26, .inr (0, [.int (-1), .int (-1)])), (q27, .inl (cs 1, 10, .inr (.inl (fun _ => 0)))), (q28, .inl (cs 0, 48, .inl (fun _ => 0))), (q29, .inr (4, [.ref q30, .int (-1), .int 0])), (q30, .inl (cs 0, 60, .inl (fun _ => 0))), (q31, .inr (4, [.ref q32, .int (-1), .int 0])), (q32, .inl (cs 0, 60, .inl (fun _ => 0))), (q33, .inr (4, [.ref q34, .int (-1), .int 0])), (q34, .inl (cs 0, 60, .inl (fun _ => 0))), (q35, .inr (4, [.ref q36, .int (-1), .int 0])), (q36, .inl (cs 0, 60, .inl (fun _ => 0)))]) := hD
  have hPB : va_P D vwCl ([(h0, .inr (7, [.ref q1, .ref q3, .ref q5, .ref q7, .ref q9, .ref q11, .int 0, .ref q12, .ref q20, .ref q26, .ref q27, .ref q28])), (q1, .inr (3, [.ref q2, .int 0, .int (-1), .int 0])), (q2, .inl (cs 0, 39, .inl (fun _ => 0))), (q3, .inr (3, [.ref q4, .int 0, .int (-1), .int 1])), (q4, .inl (cs 0, 15, .inl (fun _ => 0))), (q5, .inr (5, [.ref q6, .int 0, .int (-1)])), (q6, .inl (cs 0, 12, .inl (fun _ => 0))), (q7, .inr (1, [.ref q8, .int 0])), (q8, .inl (cs 0, 24, .inl (fun _ => 0))), (q9, .inr (1, [.ref q10, .int 0])), (q10, .inl (cs 0, 24, .inl (fun _ => 0))), (q11, .inl (cs 3, 4, .inr (.inr (.inr (.inr (va_up (va_up (va_up (va_up (fun _ => none) 0 (some q29)) 1 (some q31)) 2 (some q33)) 3 (some q35))))))), (q29, .inr (4, [.ref q30, .int (-1), .int 0])), (q30, .inl (cs 0, 60, .inl (fun _ => 0))), (q31, .inr (4, [.ref q32, .int (-1), .int 0])), (q32, .inl (cs 0, 60, .inl (fun _ => 0))), (q33, .inr (4, [.ref q34, .int (-1), .int 0])), (q34, .inl (cs 0, 60, .inl (fun _ => 0))), (q35, .inr (4, [.ref q36, .int (-1), .int 0])), (q36, .inl (cs 0, 60, .inl (fun _ => 0))), (q12, .inr (2, [.ref q7, .int 0, .ref q13, .ref q14, .ref q15, .int 0, .ref q16, .ref q17, .ref q18, .ref q19, .int 0, .int (-1), .int (-1), .int (-1)])), (q13, .inl (cs 0, 10, .inl (fun _ => 0))), (q14, .inl (cs 0, 10, .inl (fun _ => 0))), (q15, .inl (cs 0, 10, .inl (fun _ => 0))), (q16, .inl (cs 0, 4, .inl (fun _ => 0))), (q17, .inl (cs 0, 4, .inl (fun _ => 0))), (q18, .inl (cs 0, 4, .inl (fun _ => 0))), (q19, .inl (cs 0, 12, .inl (fun _ => 0))), (q20, .inr (6, [.ref q21, .ref q22, .ref q23, .ref q24, .ref q25, .int 0, .int 0, .int 0, .int 0])), (q21, .inl (cs 0, 10, .inl (fun _ => 0))), (q22, .inl (cs 0, 10, .inl (fun _ => 0))), (q23, .inl (cs 0, 10, .inl (fun _ => 0))), (q24, .inl (cs 0, 10, .inl (fun _ => 0))), (q25, .inl (cs 0, 36, .inl (fun _ => 0))), (q26, .inr (0, [.int (-1), .int (-1)])), (q27, .inl (cs 1, 10, .inr (.inl (fun _ => 0)))), (q28, .inl (cs 0, 48, .inl (fun _ => 0)))]) H := hP.sub [0, 1, 2, 3, 4, 5, 6, 7, 8, 9, 10, 11, 29, 30, 31, 32, 33, 34, 35, 36, 12, 13, 14, 15, 16, 17, 18, 19, 20, 21, 22, 23, 24, 25, 26, 27, 28] rfl
  have hDB : va_D (A0 s) ([(h0, .inr (7, [.ref q1, .ref q3, .ref q5, .ref q7, .ref q9, .ref q11, .int 0, .ref q12, .ref q20, .ref q26, .ref q27, .ref q28])), (q1, .inr (3, [.ref q2, .int 0, .int (-1), .int 0])), (q2, .inl (cs 0, 39, .inl (fun _ => 0))), (q3, .inr (3, [.ref q4, .int 0, .int (-1), .int 1])), (q4, .inl (cs 0, 15, .inl (fun _ => 0))), (q5, .inr (5, [.ref q6, .int 0, .int (-1)])), (q6, .inl (cs 0, 12, .inl (fun _ => 0))), (q7, .inr (1, [.ref q8, .int 0])), (q8, .inl (cs 0, 24, .inl (fun _ => 0))), (q9, .inr (1, [.ref q10, .int 0])), (q10, .inl (cs 0, 24, .inl (fun _ => 0))), (q11, .inl (cs 3, 4, .inr (.inr (.inr (.inr (va_up (va_up (va_up (va_up (fun _ => none) 0 (some q29)) 1 (some q31)) 2 (some q33)) 3 (some q35))))))), (q29, .inr (4, [.ref q30, .int (-1), .int 0])), (q30, .inl (cs 0, 60, .inl (fun _ => 0))), (q31, .inr (4, [.ref q32, .int (-1), .int 0])), (q32, .inl (cs 0, 60, .inl (fun _ => 0))), (q33, .inr (4, [.ref q34, .int (-1), .int 0])), (q34, .inl (cs 0, 60, .inl (fun _ => 0))), (q35, .inr (4, [.ref q36, .int (-1), .int 0])), (q36, .inl (cs 0, 60, .inl (fun _ => 0))), (q12, .inr (2, [.ref q7, .int 0, .ref q13, .ref q14, .ref q15, .int 0, .ref q16, .ref q17, .ref q18, .ref q19, .int 0, .int (-1), .int (-1), .int (-1)])), (q13, .inl (cs 0, 10, .inl (fun _ => 0))), (q14, .inl (cs 0, 10, .inl (fun _ => 0))), (q15, .inl (cs 0, 10, .inl (fun _ => 0))), (q16, .inl (cs 0, 4, .inl (fun _ => 0))), (q17, .inl (cs 0, 4, .inl (fun _ => 0))), (q18, .inl (cs 0, 4, .inl (fun _ => 0))), (q19, .inl (cs 0, 12, .inl (fun _ => 0))), (q20, .inr (6, [.ref q21, .ref q22, .ref q23, .ref q24, .ref q25, .int 0, .int 0, .int 0, .int 0])), (q21, .inl (cs 0, 10, .inl (fun _ => 0))), (q22, .inl (cs 0, 10, .inl (fun _ => 0))), (q23, .inl (cs 0, 10, .inl (fun _ => 0))), (q24, .inl (cs 0, 10, .inl (fun _ => 0))), (q25, .inl (cs 0, 36, .inl (fun _ => 0))), (q26, .inr (0, [.int (-1), .int (-1)])), (q27, .inl (cs 1, 10, .inr (.inl (fun _ => 0)))), (q28, .inl (cs 0, 48, .inl (fun _ => 0)))]) := hD.sub [0, 1, 2, 3, 4, 5, 6, 7, 8, 9, 10, 11, 29, 30, 31, 32, 33, 34, 35, 36, 12, 13, 14, 15, 16, 17, 18, 19, 20, 21, 22, 23, 24, 25, 26, 27, 28] (by decide) rfl
  generalize hac : adL [h0, q1, q2, q3, q4, q5, q6, q7, q8, q9, q10, q11, q29, q30, q31, q32, q33, q34, q35, q36, q12, q13, q14, q15, q16, q17, q18, q19, q20, q21, q22, q23, q24, q25, q26, q27, q28] t0 = ac
  have hcell : va_at D vwCl (q11, .inl (cs 3, 4, .inr (.inr (.inr (.inr (fun j => some (ac (12 + 2 * j)))))))) H := by
    have h11 := hPB 11 _ rfl
    refine Eq.trans h11 (congrArg some (cellq (fun j hj => ?_)))
    subst hac
    rcases (show j = 0 ∨ j = 1 ∨ j = 2 ∨ j = 3 by omega) with rfl | rfl | rfl | rfl <;> rfl
  have hPC0 := hPB.set hDB (p := 11) rfl hcell (fun _ _ => rfl)
  have hDC0 := hDB.set (p := 11) (e := .inl (cs 3, 4, .inr (.inr (.inr (.inr (fun j => some (ac (12 + 2 * j)))))))) rfl
  have eC : ([(h0, .inr (7, [.ref q1, .ref q3, .ref q5, .ref q7, .ref q9, .ref q11, .int 0, .ref q12, .ref q20, .ref q26, .ref q27, .ref q28])), (q1, .inr (3, [.ref q2, .int 0, .int (-1), .int 0])), (q2, .inl (cs 0, 39, .inl (fun _ => 0))), (q3, .inr (3, [.ref q4, .int 0, .int (-1), .int 1])), (q4, .inl (cs 0, 15, .inl (fun _ => 0))), (q5, .inr (5, [.ref q6, .int 0, .int (-1)])), (q6, .inl (cs 0, 12, .inl (fun _ => 0))), (q7, .inr (1, [.ref q8, .int 0])), (q8, .inl (cs 0, 24, .inl (fun _ => 0))), (q9, .inr (1, [.ref q10, .int 0])), (q10, .inl (cs 0, 24, .inl (fun _ => 0))), (q11, .inl (cs 3, 4, .inr (.inr (.inr (.inr (va_up (va_up (va_up (va_up (fun _ => none) 0 (some q29)) 1 (some q31)) 2 (some q33)) 3 (some q35))))))), (q29, .inr (4, [.ref q30, .int (-1), .int 0])), (q30, .inl (cs 0, 60, .inl (fun _ => 0))), (q31, .inr (4, [.ref q32, .int (-1), .int 0])), (q32, .inl (cs 0, 60, .inl (fun _ => 0))), (q33, .inr (4, [.ref q34, .int (-1), .int 0])), (q34, .inl (cs 0, 60, .inl (fun _ => 0))), (q35, .inr (4, [.ref q36, .int (-1), .int 0])), (q36, .inl (cs 0, 60, .inl (fun _ => 0))), (q12, .inr (2, [.ref q7, .int 0, .ref q13, .ref q14, .ref q15, .int 0, .ref q16, .ref q17, .ref q18, .ref q19, .int 0, .int (-1), .int (-1), .int (-1)])), (q13, .inl (cs 0, 10, .inl (fun _ => 0))), (q14, .inl (cs 0, 10, .inl (fun _ => 0))), (q15, .inl (cs 0, 10, .inl (fun _ => 0))), (q16, .inl (cs 0, 4, .inl (fun _ => 0))), (q17, .inl (cs 0, 4, .inl (fun _ => 0))), (q18, .inl (cs 0, 4, .inl (fun _ => 0))), (q19, .inl (cs 0, 12, .inl (fun _ => 0))), (q20, .inr (6, [.ref q21, .ref q22, .ref q23, .ref q24, .ref q25, .int 0, .int 0, .int 0, .int 0])), (q21, .inl (cs 0, 10, .inl (fun _ => 0))), (q22, .inl (cs 0, 10, .inl (fun _ => 0))), (q23, .inl (cs 0, 10, .inl (fun _ => 0))), (q24, .inl (cs 0, 10, .inl (fun _ => 0))), (q25, .inl (cs 0, 36, .inl (fun _ => 0))), (q26, .inr (0, [.int (-1), .int (-1)])), (q27, .inl (cs 1, 10, .inr (.inl (fun _ => 0)))), (q28, .inl (cs 0, 48, .inl (fun _ => 0)))]).set 11 (q11, .inl (cs 3, 4, .inr (.inr (.inr (.inr (fun j => some (ac (12 + 2 * j)))))))) = ww wC ac cs μC0 := by
    subst hac
    rfl
  rw [eC] at hPC0 hDC0
  have hac0 : ac 0 = h0 := by rw [← hac]; rfl
  have hac99 : ac 99 = t0 := by rw [← hac]; rfl
  clear hPB hDB hcell eC hP hD hac
  rw [← hac0] at hl
  -- the reference
  refine va_new (ci := 8) (fs := [.null, .null, .null, .null, .int 0, .null, .null, .int 0, .null, .int 0, .null, .int 0, .null, .int 0, .null, .int 0, .int 0, .int 0, .int 0, .null, .null, .null, .null, .null, .null, .int 0, .int 0, .null, .null, .null, .null, .null, .null, .int 0, .null, .null, .int 0]) (C := RX9) (T := TX9) (N := 37) hx hb hts igX9 tyX9 tyX9_ok hown (hts0 (.classLink RL 10 RX9) (List.mem_of_getElem? (i := 779) (by decide +kernel))) (hts0 (.instantiable RX9 37) (List.mem_of_getElem? (i := 780) (by decide +kernel))) (hts0 (.initialized RX9) (List.mem_of_getElem? (i := 71) (by decide +kernel))) hK hPC0 hDC0 hS hAq rfl (by decide +kernel) (Nat.le_of_ble_eq_true rfl) (Nat.le_of_ble_eq_true rfl) dL_law_8 (fun g0 H hP hD hS => ?_)
  refine W.widen (k := 38) (n := 647) (by omega) (by omega) ?_
  refine lv_dup hx hb dL_law_11 rfl ?_
  have hlen : (ww wC ac cs μC0).length = 37 := ww_len
  have hsp : ∀ k : Nat, k < 37 → (ww wC ac cs μC0 ++ [(g0, .inr (8, [.null, .null, .null, .null, .int 0, .null, .null, .int 0, .null, .int 0, .null, .int 0, .null, .int 0, .null, .int 0, .int 0, .int 0, .int 0, .null, .null, .null, .null, .null, .null, .int 0, .int 0, .null, .null, .null, .null, .null, .null, .int 0, .null, .null, .int 0]))])[k]? = (ww wC ac cs μC0)[k]? := fun k hk => List.getElem?_append_left (by rw [hlen]; exact hk)
  have hsq : (ww wC ac cs μC0 ++ [(g0, .inr (8, [.null, .null, .null, .null, .int 0, .null, .null, .int 0, .null, .int 0, .null, .int 0, .null, .int 0, .null, .int 0, .int 0, .int 0, .int 0, .null, .null, .null, .null, .null, .null, .int 0, .int 0, .null, .null, .null, .null, .null, .null, .int 0, .null, .null, .int 0]))])[37]? = some (g0, .inr (8, [.null, .null, .null, .null, .int 0, .null, .null, .int 0, .null, .int 0, .null, .int 0, .null, .int 0, .null, .int 0, .int 0, .int 0, .int 0, .null, .null, .null, .null, .null, .null, .int 0, .int 0, .null, .null, .null, .null, .null, .null, .int 0, .null, .null, .int 0])) := by
    rw [List.getElem?_append_right (by rw [hlen]; exact Nat.le_refl _), hlen]; rfl
  have hCm : [37].map (fun i => (ww wC ac cs μC0 ++ [(g0, .inr (8, [.null, .null, .null, .null, .int 0, .null, .null, .int 0, .null, .int 0, .null, .int 0, .null, .int 0, .null, .int 0, .int 0, .int 0, .int 0, .null, .null, .null, .null, .null, .null, .int 0, .int 0, .null, .null, .null, .null, .null, .null, .int 0, .null, .null, .int 0]))])[i]?) = ([(g0, .inr (8, [.null, .null, .null, .null, .int 0, .null, .null, .int 0, .null, .int 0, .null, .int 0, .null, .int 0, .null, .int 0, .int 0, .int 0, .int 0, .null, .null, .null, .null, .null, .null, .int 0, .int 0, .null, .null, .null, .null, .null, .null, .int 0, .null, .null, .int 0]))] : va_W).map some := by
    exact congrArg (fun z => [z]) hsq
  have hRm : (List.range 37).map (fun i => (ww wC ac cs μC0 ++ [(g0, .inr (8, [.null, .null, .null, .null, .int 0, .null, .null, .int 0, .null, .int 0, .null, .int 0, .null, .int 0, .null, .int 0, .int 0, .int 0, .int 0, .null, .null, .null, .null, .null, .null, .int 0, .int 0, .null, .null, .null, .null, .null, .null, .int 0, .null, .null, .int 0]))])[i]?) = (ww wC ac cs μC0).map some := by
    apply List.ext_getElem?
    intro i
    rw [List.getElem?_map, List.getElem?_map]
    by_cases hi : i < 37
    · rw [List.getElem?_range hi, Option.map_some, hsp i hi, ww_at hi]; rfl
    · rw [List.getElem?_eq_none (by simp; omega), List.getElem?_eq_none (by rw [hlen]; omega)]; rfl
  have hPg : va_P D vwCl [(g0, .inr (8, [.null, .null, .null, .null, .int 0, .null, .null, .int 0, .null, .int 0, .null, .int 0, .null, .int 0, .null, .int 0, .int 0, .int 0, .int 0, .null, .null, .null, .null, .null, .null, .int 0, .int 0, .null, .null, .null, .null, .null, .null, .int 0, .null, .null, .int 0]))] H := by
    intro k q hk
    have h1 : k < 1 := (List.getElem?_eq_some_iff.mp hk).1
    obtain rfl : k = 0 := by omega
    cases hk
    exact hP 37 _ hsq
  have hDg : va_D (A0 s) [(g0, .inr (8, [.null, .null, .null, .null, .int 0, .null, .null, .int 0, .null, .int 0, .null, .int 0, .null, .int 0, .null, .int 0, .int 0, .int 0, .int 0, .null, .null, .null, .null, .null, .null, .int 0, .int 0, .null, .null, .null, .null, .null, .null, .int 0, .null, .null, .int 0]))] := hD.sub [37] (by decide) hCm
  refine GD_after (cs := cs) (A := A0 s) (wr := ww wC ac cs μC0) [37] (List.range 37) (va_runI (As := []) (rest := [.ref g0]) ⟨hx, hb, hml, hown, hts⟩ (K_X9_init cs g0 l D H.size) (cwI 0 hts (wsall (L := []) (fun _ h => absurd h List.not_mem_nil) cd_X9_init) rfl rfl rfl (hts0 (.initialized RX9) (List.mem_of_getElem? (i := 71) (by decide +kernel))) (hts0 (.methodLink RL 12 yX9_init) (List.mem_of_getElem? (i := 781) (by decide +kernel))) (hts0 (.instanceMethod yX9_init) (List.mem_of_getElem? (i := 782) (by decide +kernel))) rfl (by decide +kernel) ⟨Nat.le_of_ble_eq_true rfl, Nat.le_of_ble_eq_true rfl⟩) ⟨PD_blind, fun U hU hW => ⟨rfl, hpd _ H hPg hDg U hU hW⟩⟩ rfl rfl hl.1 rfl (lv_room (Nat.le_of_ble_eq_true rfl)) dL_law_12 ⟨Nat.le_of_ble_eq_true rfl, Nat.le_of_ble_eq_true rfl⟩) hAq hP hD hS hCm hRm (by decide) (by decide) (fun w1 H locs hw1 hP hD hS => ?_)
  obtain ⟨q1, q2, q3, q4, q5, q6, q7, q8, q9, q10, q11, q12, q13, q14, q15, q16, q17, q18, q19, q20, q21, q22, q23, q24, rfl⟩ := hw1
  refine W.widen (k := 62) (n := 1996) (by omega) (by omega) ?_
  refine lv_astore_n (lv' := [(2, .ref g0), (1, .ref (ac 0)), (0, .ref b)]) hx hb dL_law_15 rfl hl (by decide) rfl (fun la hl => ?_)
  generalize ham : adL [g0, q1, q2, q3, q4, q5, q6, q7, q8, q9, q10, q11, q12, q13, q14, q15, q16, q17, q18, q19, q20, q21, q22, q23, q24] t0 = am
  have eM : ([(g0, .inr (8, [.ref q1, .ref q2, .ref q3, .ref q4, .int 0, .ref q5, .ref q6, .int 0, .ref q7, .int 0, .ref q8, .int 0, .ref q9, .int 0, .ref q10, .int 0, .int (-1), .int 0, .int (-1), .ref q11, .ref q12, .ref q13, .ref q14, .ref q15, .ref q16, .int 0, .int 0, .ref q17, .ref q18, .ref q19, .ref q20, .ref q21, .ref q22, .int 0, .ref q23, .ref q24, .int 0])), (q1, .inl (cs 0, 4, .inl (upd (upd (upd (upd (fun _ => 0) 0 (-1)) 1 (-1)) 2 (-1)) 3 (-1)))), (q2, .inl (cs 0, 4, .inl (fun _ => 0))), (q3, .inl (cs 0, 240, .inl (fun _ => 0))), (q4, .inl (cs 0, 60, .inl (fun _ => 0))), (q5, .inl (cs 0, 120, .inl (fun _ => 0))), (q6, .inl (cs 0, 3, .inl (fun _ => 0))), (q7, .inl (cs 0, 30, .inl (fun _ => 0))), (q8, .inl (cs 0, 12, .inl (fun _ => 0))), (q9, .inl (cs 0, 12, .inl (fun _ => 0))), (q10, .inl (cs 0, 24, .inl (fun _ => 0))), (q11, .inl (cs 0, 10, .inl (fun _ => 0))), (q12, .inl (cs 0, 10, .inl (fun _ => 0))), (q13, .inl (cs 0, 10, .inl (fun _ => 0))), (q14, .inl (cs 2, 10, .inl (fun _ => 0))), (q15, .inl (cs 0, 10, .inl (fun _ => 0))), (q16, .inl (cs 2, 10, .inl (fun _ => 0))), (q17, .inl (cs 0, 120, .inl (fun _ => 0))), (q18, .inl (cs 0, 120, .inl (fun _ => 0))), (q19, .inl (cs 0, 120, .inl (fun _ => 0))), (q20, .inl (cs 0, 120, .inl (fun _ => 0))), (q21, .inl (cs 0, 120, .inl (fun _ => 0))), (q22, .inl (cs 0, 36, .inl (fun _ => 0))), (q23, .inl (cs 0, 24, .inl (fun _ => 0))), (q24, .inl (cs 0, 120, .inl (fun _ => 0)))] : va_W) = ww wM am cs μM0 := by
    subst ham
    rfl
  have ham0 : am 0 = g0 := by rw [← ham]; rfl
  have ham99 : am 99 = t0 := by rw [← ham]; rfl
  rw [eM] at hP hD
  rw [← ham0] at hl
  refine lv_iconst (v := 0) hx hb dL_law_16 (by decide) ?_
  refine lv_istore_n (lv' := [(3, .int 0), (2, .ref (am 0)), (1, .ref (ac 0)), (0, .ref b)]) hx hb dL_law_17 rfl hl (by decide) rfl (fun la hl => ?_)
  have hgC : ∀ k : Nat, k < 37 → (ww wC ac cs μC0 ++ ww wM am cs μM0)[k]? = (ww wC ac cs μC0)[k]? := fun k hk => List.getElem?_append_left (by rw [hlen]; exact hk)
  have hgM : ∀ k : Nat, (ww wC ac cs μC0 ++ ww wM am cs μM0)[37 + k]? = (ww wM am cs μM0)[k]? := fun k => by
    rw [List.getElem?_append_right (by rw [hlen]; omega), hlen]
    congr 1
    omega
  have hap : ∀ i j, i < 37 → j < 25 → ac i ≠ am j := by
    intro i j hi hj he
    have h1 := hD.1 i (37 + j) _ _ ((hgC i hi).trans (ww_at hi)) ((hgM j).trans (ww_at hj)) he
    omega
  have S : LSt s D cs ac am μC0 μM0 H locs := by
    refine ⟨fun k q hk => ?_, ⟨fun i j x y h1 h2 hxy => ?_, fun k q hk => ?_⟩, fun k q hk => hP (37 + k) q ((hgM k).trans hk), ⟨fun i j x y h1 h2 hxy => ?_, fun k q hk => hD.2 (37 + k) q ((hgM k).trans hk)⟩, hS⟩
    · exact hP k q ((hgC k (ww_some hk).1).trans hk)
    · exact hD.1 i j x y ((hgC i (ww_some h1).1).trans h1) ((hgC j (ww_some h2).1).trans h2) hxy
    · exact hD.2 k q ((hgC k (ww_some hk).1).trans hk)
    · have := hD.1 (37 + i) (37 + j) x y ((hgM i).trans h1) ((hgM j).trans h2) hxy
      omega
  have X : LX p s m meth c b L xs D cs ac am := ⟨⟨hx, hb, hr, hml, hown, hts, hX, hbl, hlocks⟩, hK, by rw [hac99]; exact hZs, by rw [ham99]; exact hZs, hNx, hap, hL⟩
  exact law_loop hO X (L + 1) 0 (by omega) μC0 μM0 hI0 H locs la (by omega) S (lv_sub hl [3, 2, 1, 0] rfl)
