section GRows
variable {w : Wd} {own : String} {cc : ByteArray} {nL : Nat} {ret : Option FieldType} {lev : Nat} {r : Option Value} {μr : Mm} {pc : Nat} {ls : List (Nat × Value)} {st : List Value} {μ : Mm}
theorem G_iadd {x y : Int32} (hd : decode cc pc = .ok (.iadd, 1))  (k : G w own cc nL ret lev r μr (pc + 1) ls (.int (x + y) :: st) μ) : G w own cc nL ret lev r μr pc ls (.int y :: .int x :: st) μ :=
  fun p l e s m args below meth c ad cs D C H locs la hP hD hS hl => lv_iadd C.1 C.2.1 hd  (k p l e s m args below meth c ad cs D C H locs la hP hD hS hl)
theorem G_isub {x y : Int32} (hd : decode cc pc = .ok (.isub, 1))  (k : G w own cc nL ret lev r μr (pc + 1) ls (.int (x - y) :: st) μ) : G w own cc nL ret lev r μr pc ls (.int y :: .int x :: st) μ :=
  fun p l e s m args below meth c ad cs D C H locs la hP hD hS hl => lv_isub C.1 C.2.1 hd  (k p l e s m args below meth c ad cs D C H locs la hP hD hS hl)
theorem G_imul {x y : Int32} (hd : decode cc pc = .ok (.imul, 1))  (k : G w own cc nL ret lev r μr (pc + 1) ls (.int (x * y) :: st) μ) : G w own cc nL ret lev r μr pc ls (.int y :: .int x :: st) μ :=
  fun p l e s m args below meth c ad cs D C H locs la hP hD hS hl => lv_imul C.1 C.2.1 hd  (k p l e s m args below meth c ad cs D C H locs la hP hD hS hl)
theorem G_iand {x y : Int32} (hd : decode cc pc = .ok (.iand, 1))  (k : G w own cc nL ret lev r μr (pc + 1) ls (.int (x &&& y) :: st) μ) : G w own cc nL ret lev r μr pc ls (.int y :: .int x :: st) μ :=
  fun p l e s m args below meth c ad cs D C H locs la hP hD hS hl => lv_iand C.1 C.2.1 hd  (k p l e s m args below meth c ad cs D C H locs la hP hD hS hl)
theorem G_ior {x y : Int32} (hd : decode cc pc = .ok (.ior, 1))  (k : G w own cc nL ret lev r μr (pc + 1) ls (.int (x ||| y) :: st) μ) : G w own cc nL ret lev r μr pc ls (.int y :: .int x :: st) μ :=
  fun p l e s m args below meth c ad cs D C H locs la hP hD hS hl => lv_ior C.1 C.2.1 hd  (k p l e s m args below meth c ad cs D C H locs la hP hD hS hl)
theorem G_ixor {x y : Int32} (hd : decode cc pc = .ok (.ixor, 1))  (k : G w own cc nL ret lev r μr (pc + 1) ls (.int (x ^^^ y) :: st) μ) : G w own cc nL ret lev r μr pc ls (.int y :: .int x :: st) μ :=
  fun p l e s m args below meth c ad cs D C H locs la hP hD hS hl => lv_ixor C.1 C.2.1 hd  (k p l e s m args below meth c ad cs D C H locs la hP hD hS hl)
theorem G_ladd {x y : Int64} (hd : decode cc pc = .ok (.ladd, 1))  (k : G w own cc nL ret lev r μr (pc + 1) ls (.long (x + y) :: st) μ) : G w own cc nL ret lev r μr pc ls (.long y :: .long x :: st) μ :=
  fun p l e s m args below meth c ad cs D C H locs la hP hD hS hl => lv_ladd C.1 C.2.1 hd  (k p l e s m args below meth c ad cs D C H locs la hP hD hS hl)
theorem G_lsub {x y : Int64} (hd : decode cc pc = .ok (.lsub, 1))  (k : G w own cc nL ret lev r μr (pc + 1) ls (.long (x - y) :: st) μ) : G w own cc nL ret lev r μr pc ls (.long y :: .long x :: st) μ :=
  fun p l e s m args below meth c ad cs D C H locs la hP hD hS hl => lv_lsub C.1 C.2.1 hd  (k p l e s m args below meth c ad cs D C H locs la hP hD hS hl)
theorem G_lmul {x y : Int64} (hd : decode cc pc = .ok (.lmul, 1))  (k : G w own cc nL ret lev r μr (pc + 1) ls (.long (x * y) :: st) μ) : G w own cc nL ret lev r μr pc ls (.long y :: .long x :: st) μ :=
  fun p l e s m args below meth c ad cs D C H locs la hP hD hS hl => lv_lmul C.1 C.2.1 hd  (k p l e s m args below meth c ad cs D C H locs la hP hD hS hl)
theorem G_land {x y : Int64} (hd : decode cc pc = .ok (.land, 1))  (k : G w own cc nL ret lev r μr (pc + 1) ls (.long (x &&& y) :: st) μ) : G w own cc nL ret lev r μr pc ls (.long y :: .long x :: st) μ :=
  fun p l e s m args below meth c ad cs D C H locs la hP hD hS hl => lv_land C.1 C.2.1 hd  (k p l e s m args below meth c ad cs D C H locs la hP hD hS hl)
theorem G_lor {x y : Int64} (hd : decode cc pc = .ok (.lor, 1))  (k : G w own cc nL ret lev r μr (pc + 1) ls (.long (x ||| y) :: st) μ) : G w own cc nL ret lev r μr pc ls (.long y :: .long x :: st) μ :=
  fun p l e s m args below meth c ad cs D C H locs la hP hD hS hl => lv_lor C.1 C.2.1 hd  (k p l e s m args below meth c ad cs D C H locs la hP hD hS hl)
theorem G_lxor {x y : Int64} (hd : decode cc pc = .ok (.lxor, 1))  (k : G w own cc nL ret lev r μr (pc + 1) ls (.long (x ^^^ y) :: st) μ) : G w own cc nL ret lev r μr pc ls (.long y :: .long x :: st) μ :=
  fun p l e s m args below meth c ad cs D C H locs la hP hD hS hl => lv_lxor C.1 C.2.1 hd  (k p l e s m args below meth c ad cs D C H locs la hP hD hS hl)
theorem G_idiv {x y : Int32} (hd : decode cc pc = .ok (.idiv, 1)) (hne : ¬ y = 0) (k : G w own cc nL ret lev r μr (pc + 1) ls (.int (x / y) :: st) μ) : G w own cc nL ret lev r μr pc ls (.int y :: .int x :: st) μ :=
  fun p l e s m args below meth c ad cs D C H locs la hP hD hS hl => lv_idiv C.1 C.2.1 hd hne (k p l e s m args below meth c ad cs D C H locs la hP hD hS hl)
theorem G_irem {x y : Int32} (hd : decode cc pc = .ok (.irem, 1)) (hne : ¬ y = 0) (k : G w own cc nL ret lev r μr (pc + 1) ls (.int (x - x / y * y) :: st) μ) : G w own cc nL ret lev r μr pc ls (.int y :: .int x :: st) μ :=
  fun p l e s m args below meth c ad cs D C H locs la hP hD hS hl => lv_irem C.1 C.2.1 hd hne (k p l e s m args below meth c ad cs D C H locs la hP hD hS hl)
theorem G_ldiv {x y : Int64} (hd : decode cc pc = .ok (.ldiv, 1)) (hne : ¬ y = 0) (k : G w own cc nL ret lev r μr (pc + 1) ls (.long (x / y) :: st) μ) : G w own cc nL ret lev r μr pc ls (.long y :: .long x :: st) μ :=
  fun p l e s m args below meth c ad cs D C H locs la hP hD hS hl => lv_ldiv C.1 C.2.1 hd hne (k p l e s m args below meth c ad cs D C H locs la hP hD hS hl)
theorem G_lrem {x y : Int64} (hd : decode cc pc = .ok (.lrem, 1)) (hne : ¬ y = 0) (k : G w own cc nL ret lev r μr (pc + 1) ls (.long (x - x / y * y) :: st) μ) : G w own cc nL ret lev r μr pc ls (.long y :: .long x :: st) μ :=
  fun p l e s m args below meth c ad cs D C H locs la hP hD hS hl => lv_lrem C.1 C.2.1 hd hne (k p l e s m args below meth c ad cs D C H locs la hP hD hS hl)
theorem G_ishl {x y : Int32} (hd : decode cc pc = .ok (.ishl, 1))  (k : G w own cc nL ret lev r μr (pc + 1) ls (.int (x <<< (y &&& 31)) :: st) μ) : G w own cc nL ret lev r μr pc ls (.int y :: .int x :: st) μ :=
  fun p l e s m args below meth c ad cs D C H locs la hP hD hS hl => lv_ishl C.1 C.2.1 hd  (k p l e s m args below meth c ad cs D C H locs la hP hD hS hl)
theorem G_ishr {x y : Int32} (hd : decode cc pc = .ok (.ishr, 1))  (k : G w own cc nL ret lev r μr (pc + 1) ls (.int (x >>> (y &&& 31)) :: st) μ) : G w own cc nL ret lev r μr pc ls (.int y :: .int x :: st) μ :=
  fun p l e s m args below meth c ad cs D C H locs la hP hD hS hl => lv_ishr C.1 C.2.1 hd  (k p l e s m args below meth c ad cs D C H locs la hP hD hS hl)
theorem G_iushr {x y : Int32} (hd : decode cc pc = .ok (.iushr, 1))  (k : G w own cc nL ret lev r μr (pc + 1) ls (.int ((x.toUInt32 >>> (y.toUInt32 &&& Int32.toUInt32 31)).toInt32) :: st) μ) : G w own cc nL ret lev r μr pc ls (.int y :: .int x :: st) μ :=
  fun p l e s m args below meth c ad cs D C H locs la hP hD hS hl => lv_iushr C.1 C.2.1 hd rfl (k p l e s m args below meth c ad cs D C H locs la hP hD hS hl)
theorem G_lshl {x : Int64} {y : Int32} (hd : decode cc pc = .ok (.lshl, 1))  (k : G w own cc nL ret lev r μr (pc + 1) ls (.long (x <<< (y.toInt64 &&& 63)) :: st) μ) : G w own cc nL ret lev r μr pc ls (.int y :: .long x :: st) μ :=
  fun p l e s m args below meth c ad cs D C H locs la hP hD hS hl => lv_lshl C.1 C.2.1 hd rfl (k p l e s m args below meth c ad cs D C H locs la hP hD hS hl)
theorem G_lshr {x : Int64} {y : Int32} (hd : decode cc pc = .ok (.lshr, 1))  (k : G w own cc nL ret lev r μr (pc + 1) ls (.long (x >>> (y.toInt64 &&& 63)) :: st) μ) : G w own cc nL ret lev r μr pc ls (.int y :: .long x :: st) μ :=
  fun p l e s m args below meth c ad cs D C H locs la hP hD hS hl => lv_lshr C.1 C.2.1 hd rfl (k p l e s m args below meth c ad cs D C H locs la hP hD hS hl)
theorem G_ineg {x : Int32} (hd : decode cc pc = .ok (.ineg, 1))  (k : G w own cc nL ret lev r μr (pc + 1) ls (.int (-x) :: st) μ) : G w own cc nL ret lev r μr pc ls (.int x :: st) μ :=
  fun p l e s m args below meth c ad cs D C H locs la hP hD hS hl => lv_ineg C.1 C.2.1 hd (k p l e s m args below meth c ad cs D C H locs la hP hD hS hl)
theorem G_lneg {x : Int64} (hd : decode cc pc = .ok (.lneg, 1))  (k : G w own cc nL ret lev r μr (pc + 1) ls (.long (-x) :: st) μ) : G w own cc nL ret lev r μr pc ls (.long x :: st) μ :=
  fun p l e s m args below meth c ad cs D C H locs la hP hD hS hl => lv_lneg C.1 C.2.1 hd (k p l e s m args below meth c ad cs D C H locs la hP hD hS hl)
theorem G_i2l {x : Int32} (hd : decode cc pc = .ok (.i2l, 1))  (k : G w own cc nL ret lev r μr (pc + 1) ls (.long (x.toInt64) :: st) μ) : G w own cc nL ret lev r μr pc ls (.int x :: st) μ :=
  fun p l e s m args below meth c ad cs D C H locs la hP hD hS hl => lv_i2l C.1 C.2.1 hd rfl (k p l e s m args below meth c ad cs D C H locs la hP hD hS hl)
theorem G_l2i {x : Int64} (hd : decode cc pc = .ok (.l2i, 1))  (k : G w own cc nL ret lev r μr (pc + 1) ls (.int (x.toInt32) :: st) μ) : G w own cc nL ret lev r μr pc ls (.long x :: st) μ :=
  fun p l e s m args below meth c ad cs D C H locs la hP hD hS hl => lv_l2i C.1 C.2.1 hd rfl (k p l e s m args below meth c ad cs D C H locs la hP hD hS hl)
theorem G_i2b {x : Int32} (hd : decode cc pc = .ok (.i2b, 1))  (k : G w own cc nL ret lev r μr (pc + 1) ls (.int (x.toInt8.toInt32) :: st) μ) : G w own cc nL ret lev r μr pc ls (.int x :: st) μ :=
  fun p l e s m args below meth c ad cs D C H locs la hP hD hS hl => lv_i2b C.1 C.2.1 hd rfl (k p l e s m args below meth c ad cs D C H locs la hP hD hS hl)
theorem G_i2s {x : Int32} (hd : decode cc pc = .ok (.i2s, 1))  (k : G w own cc nL ret lev r μr (pc + 1) ls (.int (x.toInt16.toInt32) :: st) μ) : G w own cc nL ret lev r μr pc ls (.int x :: st) μ :=
  fun p l e s m args below meth c ad cs D C H locs la hP hD hS hl => lv_i2s C.1 C.2.1 hd rfl (k p l e s m args below meth c ad cs D C H locs la hP hD hS hl)
theorem G_lcmp {x y : Int64} (hd : decode cc pc = .ok (.lcmp, 1))  (k : G w own cc nL ret lev r μr (pc + 1) ls (.int (lg_cmp x y) :: st) μ) : G w own cc nL ret lev r μr pc ls (.long y :: .long x :: st) μ :=
  fun p l e s m args below meth c ad cs D C H locs la hP hD hS hl => W.lcmp C.1 C.2.1 hd (k p l e s m args below meth c ad cs D C H locs la hP hD hS hl)
theorem G_iconst {n : Int} (v : Int32) (hd : decode cc pc = .ok (.iconst n, 1)) (hv : Int32.ofInt n = v) (k : G w own cc nL ret lev r μr (pc + 1) ls (.int v :: st) μ) : G w own cc nL ret lev r μr pc ls (st) μ :=
  fun p l e s m args below meth c ad cs D C H locs la hP hD hS hl => lv_iconst C.1 C.2.1 hd hv (k p l e s m args below meth c ad cs D C H locs la hP hD hS hl)
theorem G_bipush {n : Int} (v : Int32) (hd : decode cc pc = .ok (.bipush n, 2)) (hv : (Int8.ofInt n).toInt32 = v) (k : G w own cc nL ret lev r μr (pc + 2) ls (.int v :: st) μ) : G w own cc nL ret lev r μr pc ls (st) μ :=
  fun p l e s m args below meth c ad cs D C H locs la hP hD hS hl => lv_bipush C.1 C.2.1 hd hv (k p l e s m args below meth c ad cs D C H locs la hP hD hS hl)
theorem G_sipush {n : Int} (v : Int32) (hd : decode cc pc = .ok (.sipush n, 3)) (hv : (Int16.ofInt n).toInt32 = v) (k : G w own cc nL ret lev r μr (pc + 3) ls (.int v :: st) μ) : G w own cc nL ret lev r μr pc ls (st) μ :=
  fun p l e s m args below meth c ad cs D C H locs la hP hD hS hl => lv_sipush C.1 C.2.1 hd hv (k p l e s m args below meth c ad cs D C H locs la hP hD hS hl)
theorem G_lconst {n : Fin 2} (v : Int64) (hd : decode cc pc = .ok (.lconst n, 1)) (hv : Int64.ofNat (n : Nat) = v) (k : G w own cc nL ret lev r μr (pc + 1) ls (.long v :: st) μ) : G w own cc nL ret lev r μr pc ls (st) μ :=
  fun p l e s m args below meth c ad cs D C H locs la hP hD hS hl => lv_lconst C.1 C.2.1 hd hv (k p l e s m args below meth c ad cs D C H locs la hP hD hS hl)
theorem G_ldc {idx : Nat} (v : Int32) (hd : decode cc pc = .ok (.ldc idx, 2)) (hw : Cond.constant own idx v ∈ lw_g) (k : G w own cc nL ret lev r μr (pc + 2) ls (.int v :: st) μ) : G w own cc nL ret lev r μr pc ls (st) μ :=
  fun p l e s m args below meth c ad cs D C H locs la hP hD hS hl => lv_ldc C.1 C.2.1 C.2.2.2.2.2.1 (C.2.2.2.2.2.2.1 _ hw) hd (k p l e s m args below meth c ad cs D C H locs la hP hD hS hl)
theorem G_ldcw {idx : Nat} (v : Int32) (hd : decode cc pc = .ok (.ldc_w idx, 3)) (hw : Cond.constant own idx v ∈ lw_g) (k : G w own cc nL ret lev r μr (pc + 3) ls (.int v :: st) μ) : G w own cc nL ret lev r μr pc ls (st) μ :=
  fun p l e s m args below meth c ad cs D C H locs la hP hD hS hl => lv_ldcw C.1 C.2.1 C.2.2.2.2.2.1 (C.2.2.2.2.2.2.1 _ hw) hd (k p l e s m args below meth c ad cs D C H locs la hP hD hS hl)
theorem G_ldc2 {idx : Nat} (v : Int64) (hd : decode cc pc = .ok (.ldc2_w idx, 3)) (hw : Cond.constantLong own idx v ∈ lw_g) (k : G w own cc nL ret lev r μr (pc + 3) ls (.long v :: st) μ) : G w own cc nL ret lev r μr pc ls (st) μ :=
  fun p l e s m args below meth c ad cs D C H locs la hP hD hS hl => lv_ldc2 C.1 C.2.1 C.2.2.2.2.2.1 (C.2.2.2.2.2.2.1 _ hw) hd (k p l e s m args below meth c ad cs D C H locs la hP hD hS hl)
theorem G_dup {v : Value} (hd : decode cc pc = .ok (.dup, 1)) (hc : v.category = 1) (k : G w own cc nL ret lev r μr (pc + 1) ls (v :: v :: st) μ) : G w own cc nL ret lev r μr pc ls (v :: st) μ :=
  fun p l e s m args below meth c ad cs D C H locs la hP hD hS hl => lv_dup C.1 C.2.1 hd ((tr_cat ad v).trans hc) (k p l e s m args below meth c ad cs D C H locs la hP hD hS hl)
theorem G_pop {v : Value} (hd : decode cc pc = .ok (.pop, 1)) (hc : v.category = 1) (k : G w own cc nL ret lev r μr (pc + 1) ls (st) μ) : G w own cc nL ret lev r μr pc ls (v :: st) μ :=
  fun p l e s m args below meth c ad cs D C H locs la hP hD hS hl => lv_pop C.1 C.2.1 hd ((tr_cat ad v).trans hc) (k p l e s m args below meth c ad cs D C H locs la hP hD hS hl)
theorem G_dup2 {v u : Value} (hd : decode cc pc = .ok (.dup2, 1)) (hc : v.category = 1) (hc2 : u.category = 1) (k : G w own cc nL ret lev r μr (pc + 1) ls (v :: u :: v :: u :: st) μ) : G w own cc nL ret lev r μr pc ls (v :: u :: st) μ :=
  fun p l e s m args below meth c ad cs D C H locs la hP hD hS hl => lv_dup2_11 C.1 C.2.1 hd ((tr_cat ad v).trans hc) ((tr_cat ad u).trans hc2) (k p l e s m args below meth c ad cs D C H locs la hP hD hS hl)
theorem G_dup2L {x : Int64} (hd : decode cc pc = .ok (.dup2, 1))  (k : G w own cc nL ret lev r μr (pc + 1) ls (.long x :: .long x :: st) μ) : G w own cc nL ret lev r μr pc ls (.long x :: st) μ :=
  fun p l e s m args below meth c ad cs D C H locs la hP hD hS hl => lv_dup2_2 C.1 C.2.1 hd rfl (k p l e s m args below meth c ad cs D C H locs la hP hD hS hl)
theorem G_dup_x1 {v u : Value} (hd : decode cc pc = .ok (.dup_x1, 1)) (hc : v.category = 1) (hc2 : u.category = 1) (k : G w own cc nL ret lev r μr (pc + 1) ls (v :: u :: v :: st) μ) : G w own cc nL ret lev r μr pc ls (v :: u :: st) μ :=
  fun p l e s m args below meth c ad cs D C H locs la hP hD hS hl => lv_dup_x1 C.1 C.2.1 hd ((tr_cat ad v).trans hc) ((tr_cat ad u).trans hc2) (k p l e s m args below meth c ad cs D C H locs la hP hD hS hl)
theorem G_null  (hd : decode cc pc = .ok (.aconst_null, 1))  (k : G w own cc nL ret lev r μr (pc + 1) ls (.null :: st) μ) : G w own cc nL ret lev r μr pc ls (st) μ :=
  fun p l e s m args below meth c ad cs D C H locs la hP hD hS hl => lv_null C.1 C.2.1 hd (k p l e s m args below meth c ad cs D C H locs la hP hD hS hl)
theorem lsat {ad : Ad} {la : Array Slot} {nL : Nat} {ls : List (Nat × Value)} (hl : lv_has la nL (ls.map (trl ad))) (j : Nat) {i : Nat} {v : Value} (h : ls[j]? = some (i, v)) : la[i]? = some (.val (tr ad v)) := lv_at hl j (by rw [List.getElem?_map, h]; rfl)
theorem G_iload {i : Nat} {x : Int32} (j : Nat) (hd : decode cc pc = .ok (.iload i, 2)) (hj : ls[j]? = some (i, .int x)) (k : G w own cc nL ret lev r μr (pc + 2) ls (.int x :: st) μ) : G w own cc nL ret lev r μr pc ls (st) μ :=
  fun p l e s m args below meth c ad cs D C H locs la hP hD hS hl => lv_iload C.1 C.2.1 hd (lsat hl j hj) (k p l e s m args below meth c ad cs D C H locs la hP hD hS hl)
theorem G_iload_n {q : Fin 4} {x : Int32} (j : Nat) (hd : decode cc pc = .ok (.iload_n q, 1)) (hj : ls[j]? = some ((q : Nat), .int x)) (k : G w own cc nL ret lev r μr (pc + 1) ls (.int x :: st) μ) : G w own cc nL ret lev r μr pc ls (st) μ :=
  fun p l e s m args below meth c ad cs D C H locs la hP hD hS hl => lv_iload_n C.1 C.2.1 hd rfl (lsat hl j hj) (k p l e s m args below meth c ad cs D C H locs la hP hD hS hl)
theorem G_lload {i : Nat} {x : Int64} (j : Nat) (hd : decode cc pc = .ok (.lload i, 2)) (hj : ls[j]? = some (i, .long x)) (k : G w own cc nL ret lev r μr (pc + 2) ls (.long x :: st) μ) : G w own cc nL ret lev r μr pc ls (st) μ :=
  fun p l e s m args below meth c ad cs D C H locs la hP hD hS hl => lv_lload C.1 C.2.1 hd (lsat hl j hj) (k p l e s m args below meth c ad cs D C H locs la hP hD hS hl)
theorem G_lload_n {q : Fin 4} {x : Int64} (j : Nat) (hd : decode cc pc = .ok (.lload_n q, 1)) (hj : ls[j]? = some ((q : Nat), .long x)) (k : G w own cc nL ret lev r μr (pc + 1) ls (.long x :: st) μ) : G w own cc nL ret lev r μr pc ls (st) μ :=
  fun p l e s m args below meth c ad cs D C H locs la hP hD hS hl => lv_lload_n C.1 C.2.1 hd rfl (lsat hl j hj) (k p l e s m args below meth c ad cs D C H locs la hP hD hS hl)
theorem G_aload {i : Nat} {x : Nat} (j : Nat) (hd : decode cc pc = .ok (.aload i, 2)) (hj : ls[j]? = some (i, .ref x)) (k : G w own cc nL ret lev r μr (pc + 2) ls (.ref x :: st) μ) : G w own cc nL ret lev r μr pc ls (st) μ :=
  fun p l e s m args below meth c ad cs D C H locs la hP hD hS hl => lv_aload C.1 C.2.1 hd (lsat hl j hj) (k p l e s m args below meth c ad cs D C H locs la hP hD hS hl)
theorem G_aload_n {q : Fin 4} {x : Nat} (j : Nat) (hd : decode cc pc = .ok (.aload_n q, 1)) (hj : ls[j]? = some ((q : Nat), .ref x)) (k : G w own cc nL ret lev r μr (pc + 1) ls (.ref x :: st) μ) : G w own cc nL ret lev r μr pc ls (st) μ :=
  fun p l e s m args below meth c ad cs D C H locs la hP hD hS hl => lv_aload_n C.1 C.2.1 hd rfl (lsat hl j hj) (k p l e s m args below meth c ad cs D C H locs la hP hD hS hl)
theorem G_aload_nN {q : Fin 4} (j : Nat) (hd : decode cc pc = .ok (.aload_n q, 1)) (hj : ls[j]? = some ((q : Nat), .null)) (k : G w own cc nL ret lev r μr (pc + 1) ls (.null :: st) μ) : G w own cc nL ret lev r μr pc ls (st) μ :=
  fun p l e s m args below meth c ad cs D C H locs la hP hD hS hl => lv_aload_nN C.1 C.2.1 hd rfl (lsat hl j hj) (k p l e s m args below meth c ad cs D C H locs la hP hD hS hl)
def sf1 (i : Nat) (q : Nat × Value) : Bool := !(q.1 == i) && !(q.1 + 1 == i && q.2.category == 2)
def sf2 (i : Nat) (q : Nat × Value) : Bool := !(q.1 == i) && (!(q.1 == i + 1) && !(q.1 + 1 == i && q.2.category == 2))
theorem sfl1 {ad : Ad} {i : Nat} {v : Value} {ls ls' : List (Nat × Value)} (h : (i, v) :: ls.filter (sf1 i) = ls') : (i, tr ad v) :: (ls.map (trl ad)).filter (fun q => !(q.1 == i) && !(q.1 + 1 == i && q.2.category == 2)) = ls'.map (trl ad) := by
  subst h
  rw [List.filter_map, List.map_cons]
  have e : ((fun q : Nat × Value => !(q.1 == i) && !(q.1 + 1 == i && q.2.category == 2)) ∘ trl ad) = sf1 i := by
    funext q
    show (!(q.1 == i) && !(q.1 + 1 == i && (tr ad q.2).category == 2)) = _
    rw [tr_cat]; rfl
  rw [e]; rfl
theorem sfl2 {ad : Ad} {i : Nat} {v : Value} {ls ls' : List (Nat × Value)} (h : (i, v) :: ls.filter (sf2 i) = ls') : (i, tr ad v) :: (ls.map (trl ad)).filter (fun q => !(q.1 == i) && (!(q.1 == i + 1) && !(q.1 + 1 == i && q.2.category == 2))) = ls'.map (trl ad) := by
  subst h
  rw [List.filter_map, List.map_cons]
  have e : ((fun q : Nat × Value => !(q.1 == i) && (!(q.1 == i + 1) && !(q.1 + 1 == i && q.2.category == 2))) ∘ trl ad) = sf2 i := by
    funext q
    show (!(q.1 == i) && (!(q.1 == i + 1) && !(q.1 + 1 == i && (tr ad q.2).category == 2))) = _
    rw [tr_cat]; rfl
  rw [e]; rfl
theorem G_istore {i : Nat} {x : Int32} (ls' : List (Nat × Value)) (hd : decode cc pc = .ok (.istore i, 2)) (hn : i < nL) (h : (i, Value.int x) :: ls.filter (sf1 i) = ls') (k : G w own cc nL ret lev r μr (pc + 2) ls' st μ) : G w own cc nL ret lev r μr pc ls (.int x :: st) μ :=
  fun p l e s m args below meth c ad cs D C H locs la hP hD hS hl => lv_istore C.1 C.2.1 hd hl hn (sfl1 (v := .int x) h) (fun la' hl' => k p l e s m args below meth c ad cs D C H locs la' hP hD hS hl')
theorem G_istore_n {q : Fin 4} {x : Int32} (ls' : List (Nat × Value)) (hd : decode cc pc = .ok (.istore_n q, 1)) (hn : (q : Nat) < nL) (h : ((q : Nat), Value.int x) :: ls.filter (sf1 q) = ls') (k : G w own cc nL ret lev r μr (pc + 1) ls' st μ) : G w own cc nL ret lev r μr pc ls (.int x :: st) μ :=
  fun p l e s m args below meth c ad cs D C H locs la hP hD hS hl => lv_istore_n C.1 C.2.1 hd rfl hl hn (sfl1 (v := .int x) h) (fun la' hl' => k p l e s m args below meth c ad cs D C H locs la' hP hD hS hl')
theorem G_lstore {i : Nat} {x : Int64} (ls' : List (Nat × Value)) (hd : decode cc pc = .ok (.lstore i, 2)) (hn : i + 1 < nL) (h : (i, Value.long x) :: ls.filter (sf2 i) = ls') (k : G w own cc nL ret lev r μr (pc + 2) ls' st μ) : G w own cc nL ret lev r μr pc ls (.long x :: st) μ :=
  fun p l e s m args below meth c ad cs D C H locs la hP hD hS hl => lv_lstore C.1 C.2.1 hd hl hn (sfl2 (v := .long x) h) (fun la' hl' => k p l e s m args below meth c ad cs D C H locs la' hP hD hS hl')
theorem G_lstore_n {q : Fin 4} {x : Int64} (ls' : List (Nat × Value)) (hd : decode cc pc = .ok (.lstore_n q, 1)) (hn : (q : Nat) + 1 < nL) (h : ((q : Nat), Value.long x) :: ls.filter (sf2 q) = ls') (k : G w own cc nL ret lev r μr (pc + 1) ls' st μ) : G w own cc nL ret lev r μr pc ls (.long x :: st) μ :=
  fun p l e s m args below meth c ad cs D C H locs la hP hD hS hl => lv_lstore_n C.1 C.2.1 hd rfl hl hn (sfl2 (v := .long x) h) (fun la' hl' => k p l e s m args below meth c ad cs D C H locs la' hP hD hS hl')
theorem G_astore {i : Nat} {x : Nat} (ls' : List (Nat × Value)) (hd : decode cc pc = .ok (.astore i, 2)) (hn : i < nL) (h : (i, Value.ref x) :: ls.filter (sf1 i) = ls') (k : G w own cc nL ret lev r μr (pc + 2) ls' st μ) : G w own cc nL ret lev r μr pc ls (.ref x :: st) μ :=
  fun p l e s m args below meth c ad cs D C H locs la hP hD hS hl => lv_astore C.1 C.2.1 hd hl hn (sfl1 (v := .ref x) h) (fun la' hl' => k p l e s m args below meth c ad cs D C H locs la' hP hD hS hl')
theorem G_astore_n {q : Fin 4} {x : Nat} (ls' : List (Nat × Value)) (hd : decode cc pc = .ok (.astore_n q, 1)) (hn : (q : Nat) < nL) (h : ((q : Nat), Value.ref x) :: ls.filter (sf1 q) = ls') (k : G w own cc nL ret lev r μr (pc + 1) ls' st μ) : G w own cc nL ret lev r μr pc ls (.ref x :: st) μ :=
  fun p l e s m args below meth c ad cs D C H locs la hP hD hS hl => lv_astore_n C.1 C.2.1 hd rfl hl hn (sfl1 (v := .ref x) h) (fun la' hl' => k p l e s m args below meth c ad cs D C H locs la' hP hD hS hl')
theorem G_astore_nN {q : Fin 4} (ls' : List (Nat × Value)) (hd : decode cc pc = .ok (.astore_n q, 1)) (hn : (q : Nat) < nL) (h : ((q : Nat), Value.null) :: ls.filter (sf1 q) = ls') (k : G w own cc nL ret lev r μr (pc + 1) ls' st μ) : G w own cc nL ret lev r μr pc ls (.null :: st) μ :=
  fun p l e s m args below meth c ad cs D C H locs la hP hD hS hl => lv_astore_nN C.1 C.2.1 hd rfl hl hn (sfl1 (v := .null) h) (fun la' hl' => k p l e s m args below meth c ad cs D C H locs la' hP hD hS hl')
theorem G_iinc {i : Nat} {n : Int} {x : Int32} (v : Int32) (j : Nat) (ls' : List (Nat × Value)) (hd : decode cc pc = .ok (.iinc i n, 3)) (hv : Int32.ofInt n = v) (hj : ls[j]? = some (i, .int x)) (hn : i < nL) (h : (i, Value.int (x + v)) :: ls.filter (sf1 i) = ls') (k : G w own cc nL ret lev r μr (pc + 3) ls' st μ) : G w own cc nL ret lev r μr pc ls st μ :=
  fun p l e s m args below meth c ad cs D C H locs la hP hD hS hl => lv_iinc (k := j) (x := x) (v := x + v) C.1 C.2.1 hd hl (by rw [List.getElem?_map, hj]; rfl) (by rw [hv]) hn (sfl1 (v := .int (x + v)) h) (fun la' hl' => k p l e s m args below meth c ad cs D C H locs la' hP hD hS hl')
theorem G_loc (ks : List Nat) (ls' : List (Nat × Value)) (h : lv_pick ls ks = ls') (k : G w own cc nL ret lev r μr pc ls' st μ) : G w own cc nL ret lev r μr pc ls st μ := by
  intro p l e s m args below meth c ad cs D C H locs la hP hD hS hl
  refine k p l e s m args below meth c ad cs D C H locs la hP hD hS (lv_sub hl ks ?_)
  subst h
  simp only [lv_pick, List.getElem?_map, List.map_filterMap]
theorem G_goto (tgt : Nat) {off : Int} (hd : decode cc pc = .ok (.goto off, 3)) (ht : (pc : Int) + off = (tgt : Int)) (k : G w own cc nL ret lev r μr tgt ls st μ) : G w own cc nL ret lev r μr pc ls st μ :=
  fun p l e s m args below meth c ad cs D C H locs la hP hD hS hl => lv_goto C.1 C.2.1 hd ht (k p l e s m args below meth c ad cs D C H locs la hP hD hS hl)
theorem G_if_eq (tgt : Nat) {x : Int32} {off : Int} (hd : decode cc pc = .ok (.ifCond .eq off, 3)) (ht : (pc : Int) + off = (tgt : Int)) (kt : x = 0 → G w own cc nL ret lev r μr tgt ls st μ) (kf : ¬ (x = 0) → G w own cc nL ret lev r μr (pc + 3) ls st μ) : G w own cc nL ret lev r μr pc ls (.int x :: st) μ :=
  fun p l e s m args below meth c ad cs D C H locs la hP hD hS hl => lv_if_eq C.1 C.2.1 hd ht (fun h => kt h p l e s m args below meth c ad cs D C H locs la hP hD hS hl) (fun h => kf h p l e s m args below meth c ad cs D C H locs la hP hD hS hl)
theorem G_icmp_eq (tgt : Nat) {x y : Int32} {off : Int} (hd : decode cc pc = .ok (.if_icmp .eq off, 3)) (ht : (pc : Int) + off = (tgt : Int)) (kt : x = y → G w own cc nL ret lev r μr tgt ls st μ) (kf : ¬ (x = y) → G w own cc nL ret lev r μr (pc + 3) ls st μ) : G w own cc nL ret lev r μr pc ls (.int y :: .int x :: st) μ :=
  fun p l e s m args below meth c ad cs D C H locs la hP hD hS hl => lv_icmp_eq C.1 C.2.1 hd ht (fun h => kt h p l e s m args below meth c ad cs D C H locs la hP hD hS hl) (fun h => kf h p l e s m args below meth c ad cs D C H locs la hP hD hS hl)
theorem G_if_ne (tgt : Nat) {x : Int32} {off : Int} (hd : decode cc pc = .ok (.ifCond .ne off, 3)) (ht : (pc : Int) + off = (tgt : Int)) (kt : ¬ x = 0 → G w own cc nL ret lev r μr tgt ls st μ) (kf : x = 0 → G w own cc nL ret lev r μr (pc + 3) ls st μ) : G w own cc nL ret lev r μr pc ls (.int x :: st) μ :=
  fun p l e s m args below meth c ad cs D C H locs la hP hD hS hl => lv_if_ne C.1 C.2.1 hd ht (fun h => kt h p l e s m args below meth c ad cs D C H locs la hP hD hS hl) (fun h => kf h p l e s m args below meth c ad cs D C H locs la hP hD hS hl)
theorem G_icmp_ne (tgt : Nat) {x y : Int32} {off : Int} (hd : decode cc pc = .ok (.if_icmp .ne off, 3)) (ht : (pc : Int) + off = (tgt : Int)) (kt : ¬ x = y → G w own cc nL ret lev r μr tgt ls st μ) (kf : x = y → G w own cc nL ret lev r μr (pc + 3) ls st μ) : G w own cc nL ret lev r μr pc ls (.int y :: .int x :: st) μ :=
  fun p l e s m args below meth c ad cs D C H locs la hP hD hS hl => lv_icmp_ne C.1 C.2.1 hd ht (fun h => kt h p l e s m args below meth c ad cs D C H locs la hP hD hS hl) (fun h => kf h p l e s m args below meth c ad cs D C H locs la hP hD hS hl)
theorem G_if_lt (tgt : Nat) {x : Int32} {off : Int} (hd : decode cc pc = .ok (.ifCond .lt off, 3)) (ht : (pc : Int) + off = (tgt : Int)) (kt : x < 0 → G w own cc nL ret lev r μr tgt ls st μ) (kf : ¬ (x < 0) → G w own cc nL ret lev r μr (pc + 3) ls st μ) : G w own cc nL ret lev r μr pc ls (.int x :: st) μ :=
  fun p l e s m args below meth c ad cs D C H locs la hP hD hS hl => lv_if_lt C.1 C.2.1 hd ht (fun h => kt h p l e s m args below meth c ad cs D C H locs la hP hD hS hl) (fun h => kf h p l e s m args below meth c ad cs D C H locs la hP hD hS hl)
theorem G_icmp_lt (tgt : Nat) {x y : Int32} {off : Int} (hd : decode cc pc = .ok (.if_icmp .lt off, 3)) (ht : (pc : Int) + off = (tgt : Int)) (kt : x < y → G w own cc nL ret lev r μr tgt ls st μ) (kf : ¬ (x < y) → G w own cc nL ret lev r μr (pc + 3) ls st μ) : G w own cc nL ret lev r μr pc ls (.int y :: .int x :: st) μ :=
  fun p l e s m args below meth c ad cs D C H locs la hP hD hS hl => lv_icmp_lt C.1 C.2.1 hd ht (fun h => kt h p l e s m args below meth c ad cs D C H locs la hP hD hS hl) (fun h => kf h p l e s m args below meth c ad cs D C H locs la hP hD hS hl)
theorem G_if_ge (tgt : Nat) {x : Int32} {off : Int} (hd : decode cc pc = .ok (.ifCond .ge off, 3)) (ht : (pc : Int) + off = (tgt : Int)) (kt : 0 ≤ x → G w own cc nL ret lev r μr tgt ls st μ) (kf : ¬ (0 ≤ x) → G w own cc nL ret lev r μr (pc + 3) ls st μ) : G w own cc nL ret lev r μr pc ls (.int x :: st) μ :=
  fun p l e s m args below meth c ad cs D C H locs la hP hD hS hl => lv_if_ge C.1 C.2.1 hd ht (fun h => kt h p l e s m args below meth c ad cs D C H locs la hP hD hS hl) (fun h => kf h p l e s m args below meth c ad cs D C H locs la hP hD hS hl)
theorem G_icmp_ge (tgt : Nat) {x y : Int32} {off : Int} (hd : decode cc pc = .ok (.if_icmp .ge off, 3)) (ht : (pc : Int) + off = (tgt : Int)) (kt : y ≤ x → G w own cc nL ret lev r μr tgt ls st μ) (kf : ¬ (y ≤ x) → G w own cc nL ret lev r μr (pc + 3) ls st μ) : G w own cc nL ret lev r μr pc ls (.int y :: .int x :: st) μ :=
  fun p l e s m args below meth c ad cs D C H locs la hP hD hS hl => lv_icmp_ge C.1 C.2.1 hd ht (fun h => kt h p l e s m args below meth c ad cs D C H locs la hP hD hS hl) (fun h => kf h p l e s m args below meth c ad cs D C H locs la hP hD hS hl)
theorem G_if_gt (tgt : Nat) {x : Int32} {off : Int} (hd : decode cc pc = .ok (.ifCond .gt off, 3)) (ht : (pc : Int) + off = (tgt : Int)) (kt : 0 < x → G w own cc nL ret lev r μr tgt ls st μ) (kf : ¬ (0 < x) → G w own cc nL ret lev r μr (pc + 3) ls st μ) : G w own cc nL ret lev r μr pc ls (.int x :: st) μ :=
  fun p l e s m args below meth c ad cs D C H locs la hP hD hS hl => lv_if_gt C.1 C.2.1 hd ht (fun h => kt h p l e s m args below meth c ad cs D C H locs la hP hD hS hl) (fun h => kf h p l e s m args below meth c ad cs D C H locs la hP hD hS hl)
theorem G_icmp_gt (tgt : Nat) {x y : Int32} {off : Int} (hd : decode cc pc = .ok (.if_icmp .gt off, 3)) (ht : (pc : Int) + off = (tgt : Int)) (kt : y < x → G w own cc nL ret lev r μr tgt ls st μ) (kf : ¬ (y < x) → G w own cc nL ret lev r μr (pc + 3) ls st μ) : G w own cc nL ret lev r μr pc ls (.int y :: .int x :: st) μ :=
  fun p l e s m args below meth c ad cs D C H locs la hP hD hS hl => lv_icmp_gt C.1 C.2.1 hd ht (fun h => kt h p l e s m args below meth c ad cs D C H locs la hP hD hS hl) (fun h => kf h p l e s m args below meth c ad cs D C H locs la hP hD hS hl)
theorem G_if_le (tgt : Nat) {x : Int32} {off : Int} (hd : decode cc pc = .ok (.ifCond .le off, 3)) (ht : (pc : Int) + off = (tgt : Int)) (kt : x ≤ 0 → G w own cc nL ret lev r μr tgt ls st μ) (kf : ¬ (x ≤ 0) → G w own cc nL ret lev r μr (pc + 3) ls st μ) : G w own cc nL ret lev r μr pc ls (.int x :: st) μ :=
  fun p l e s m args below meth c ad cs D C H locs la hP hD hS hl => lv_if_le C.1 C.2.1 hd ht (fun h => kt h p l e s m args below meth c ad cs D C H locs la hP hD hS hl) (fun h => kf h p l e s m args below meth c ad cs D C H locs la hP hD hS hl)
theorem G_icmp_le (tgt : Nat) {x y : Int32} {off : Int} (hd : decode cc pc = .ok (.if_icmp .le off, 3)) (ht : (pc : Int) + off = (tgt : Int)) (kt : x ≤ y → G w own cc nL ret lev r μr tgt ls st μ) (kf : ¬ (x ≤ y) → G w own cc nL ret lev r μr (pc + 3) ls st μ) : G w own cc nL ret lev r μr pc ls (.int y :: .int x :: st) μ :=
  fun p l e s m args below meth c ad cs D C H locs la hP hD hS hl => lv_icmp_le C.1 C.2.1 hd ht (fun h => kt h p l e s m args below meth c ad cs D C H locs la hP hD hS hl) (fun h => kf h p l e s m args below meth c ad cs D C H locs la hP hD hS hl)
theorem G_ifnonnull (tgt : Nat) {x : Nat} {off : Int} (hd : decode cc pc = .ok (.ifnonnull off, 3)) (ht : (pc : Int) + off = (tgt : Int)) (k : G w own cc nL ret lev r μr tgt ls st μ) : G w own cc nL ret lev r μr pc ls (.ref x :: st) μ :=
  fun p l e s m args below meth c ad cs D C H locs la hP hD hS hl => lv_ifnonnull C.1 C.2.1 hd ht (k p l e s m args below meth c ad cs D C H locs la hP hD hS hl)
theorem G_ifnonnullN {off : Int} (hd : decode cc pc = .ok (.ifnonnull off, 3)) (k : G w own cc nL ret lev r μr (pc + 3) ls st μ) : G w own cc nL ret lev r μr pc ls (.null :: st) μ :=
  fun p l e s m args below meth c ad cs D C H locs la hP hD hS hl => lv_ifnonnullN C.1 C.2.1 hd (k p l e s m args below meth c ad cs D C H locs la hP hD hS hl)
theorem G_ifnull {x : Nat} {off : Int} (hd : decode cc pc = .ok (.ifnull off, 3)) (k : G w own cc nL ret lev r μr (pc + 3) ls st μ) : G w own cc nL ret lev r μr pc ls (.ref x :: st) μ :=
  fun p l e s m args below meth c ad cs D C H locs la hP hD hS hl => lv_ifnull C.1 C.2.1 hd (k p l e s m args below meth c ad cs D C H locs la hP hD hS hl)
theorem G_ifnullN (tgt : Nat) {off : Int} (hd : decode cc pc = .ok (.ifnull off, 3)) (ht : (pc : Int) + off = (tgt : Int)) (k : G w own cc nL ret lev r μr tgt ls st μ) : G w own cc nL ret lev r μr pc ls (.null :: st) μ :=
  fun p l e s m args below meth c ad cs D C H locs la hP hD hS hl => lv_ifnullN C.1 C.2.1 hd ht (k p l e s m args below meth c ad cs D C H locs la hP hD hS hl)
theorem G_tswIn (tgt : Nat) {dflt lo hi off : Int} {offs : Array Int} {len : Nat} {x : Int32} (hd : decode cc pc = .ok (.tableswitch dflt lo hi offs, len)) (h1 : ¬ x.toInt < lo) (h2 : ¬ hi < x.toInt) (ho : offs[(x.toInt - lo).toNat]? = some off) (ht : (pc : Int) + off = (tgt : Int)) (k : G w own cc nL ret lev r μr tgt ls st μ) : G w own cc nL ret lev r μr pc ls (.int x :: st) μ :=
  fun p l e s m args below meth c ad cs D C H locs la hP hD hS hl => lv_tableIn C.1 C.2.1 hd h1 h2 ho ht (k p l e s m args below meth c ad cs D C H locs la hP hD hS hl)
theorem G_tswOut (tgt : Nat) {dflt lo hi : Int} {offs : Array Int} {len : Nat} {x : Int32} (hd : decode cc pc = .ok (.tableswitch dflt lo hi offs, len)) (h : x.toInt < lo ∨ hi < x.toInt) (ht : (pc : Int) + dflt = (tgt : Int)) (k : G w own cc nL ret lev r μr tgt ls st μ) : G w own cc nL ret lev r μr pc ls (.int x :: st) μ :=
  fun p l e s m args below meth c ad cs D C H locs la hP hD hS hl => lv_tableOut C.1 C.2.1 hd h ht (k p l e s m args below meth c ad cs D C H locs la hP hD hS hl)
theorem G_lsw (tgt : Nat) {dflt off : Int} {ps : Array (Int × Int)} {len : Nat} {x : Int32} (hd : decode cc pc = .ok (.lookupswitch dflt ps, len)) (hp : (ps.toList.zip (ps.toList.drop 1)).all (fun (a, next) => a.1 < next.1) = true) (ho : Op.lookupswitch.offset ps.toList dflt x.toInt = off) (ht : (pc : Int) + off = (tgt : Int)) (k : G w own cc nL ret lev r μr tgt ls st μ) : G w own cc nL ret lev r μr pc ls (.int x :: st) μ :=
  fun p l e s m args below meth c ad cs D C H locs la hP hD hS hl => lv_lookup C.1 C.2.1 hd hp ho ht (k p l e s m args below meth c ad cs D C H locs la hP hD hS hl)
/-- the word of a field: own's entry idx is slot k of the class (C, T, N) -/
def FL (own : String) (idx : Nat) (T : u_T) (k : Nat) : Prop := ∃ ref : String, Cond.fieldLink own idx ref (T k).2.1 (T k).2.2.1 ∈ lw_g ∧ (ref = (T k).1 ∨ Cond.sameField ref (T k).1 (T k).2.1 (T k).2.2.1 ∈ lw_g)
theorem fl_same {T : u_T} {k : Nat} {ref : String} {args : Array Value} {s : State} (hts : ∀ x ∈ lw_g, x.before args s = true) (h : ref = (T k).1 ∨ Cond.sameField ref (T k).1 (T k).2.1 (T k).2.2.1 ∈ lw_g) : ∀ x, s.fieldFound? (T k).1 (T k).2.1 (T k).2.2.1 = some x → s.fieldFound? ref (T k).2.1 (T k).2.2.1 = some x := by
  intro x hx
  rcases h with rfl | h
  · exact hx
  · exact u_same (hts _ h) x hx
theorem G_get {idx : Nat} (a : Nat) (ci : Nat) {C0 : String} {T : u_T} {N : Nat} (j : Nat) (v : Value) (hd : decode cc pc = .ok (.getfield idx, 3)) (hf : FL own idx T j) (hin : ∀ x ∈ u_ws C0 T N, x ∈ lw_g) (hcl : vwCl[ci]? = some (C0, T, N)) (hj : j < N) (ha : a < w.1) (hv : ∀ ad cs, ∃ fs, w.2 ad cs (μ.1 a) (μ.2 a) a = .inr (ci, fs) ∧ fs[j]? = some (tr ad v)) (k : G w own cc nL ret lev r μr (pc + 3) ls (v :: st) μ) : G w own cc nL ret lev r μr pc ls (.ref a :: st) μ := by
  intro p l e s m args below meth c ad cs D C H locs la hP hD hS hl
  obtain ⟨ref, hl1, hl2⟩ := hf
  obtain ⟨fs, hfs, hv⟩ := hv ad cs
  exact va_get C.1 C.2.1 C.2.2.2.2.2.2.1 hin C.2.2.2.2.2.1 C.2.2.2.2.2.2.2.1 hP a ((ww_at ha).trans (by rw [hfs])) hcl j hj (C.2.2.2.2.2.2.1 _ hl1) (fl_same C.2.2.2.2.2.2.1 hl2) hv hd (k p l e s m args below meth c ad cs D C H locs la hP hD hS hl)
theorem G_put {idx : Nat} (a : Nat) (ci : Nat) {C0 : String} {T : u_T} {N : Nat} (j : Nat) (x : Int32) (ty : FieldType) {ty0 : Nat → FieldType} (hd : decode cc pc = .ok (.putfield idx, 3)) (hf : FL own idx T j) (hin : ∀ x ∈ u_ws C0 T N, x ∈ lw_g) (hty : ∀ k, k < N → parseFieldDescriptor (T k).2.2.1 = some (ty0 k)) (hnm : ∀ a, a < N → ∀ b, b < N → a ≠ b → (T a).2.1 ≠ (T b).2.1) (hcl : vwCl[ci]? = some (C0, T, N)) (hj : j < N) (hfin : (T j).2.2.2 = false) (hdt : parseFieldDescriptor (T j).2.2.1 = some ty) (hnar : narrow ty (.int x) = .int x) (hfit : fits ty (.int x) = true) (ha : a < w.1) (hv : ∀ ad cs, ∃ fs, w.2 ad cs (μ.1 a) (μ.2 a) a = .inr (ci, fs) ∧ j < fs.length ∧ w.2 ad cs (upd (μ.1 a) j x) (μ.2 a) a = .inr (ci, fs.set j (.int x))) (k : G w own cc nL ret lev r μr (pc + 3) ls st (wI μ a j x)) : G w own cc nL ret lev r μr pc ls (.int x :: .ref a :: st) μ := by
  intro p l e s m args below meth c ad cs D C H locs la hP hD hS hl
  obtain ⟨ref, hl1, hl2⟩ := hf
  obtain ⟨fs, hfs, hlen, hset⟩ := hv ad cs
  refine va_put (v := .int x) C.1 C.2.1 C.2.2.2.2.2.2.1 hin ty0 hty hnm C.2.2.2.2.2.1 C.2.2.2.2.2.2.2.1 hP hD hS a ((ww_at ha).trans (by rw [hfs])) hcl j hj (C.2.2.2.2.2.2.1 _ hl1) (fl_same C.2.2.2.2.2.2.1 hl2) hfin hdt hnar hfit hlen hd (fun H locs hP hD hS => ?_)
  rw [ww_setR (f := upd (μ.1 a) j x) ha hset.symm] at hP hD
  exact k p l e s m args below meth c ad cs D C H locs la hP hD hS hl
theorem G_iald (a n : Nat) {i : Int32} (hd : decode cc pc = .ok (.iaload, 1)) (hin : vp_in i n) (ha : a < w.1) (hv : ∀ ad cs, w.2 ad cs (μ.1 a) (μ.2 a) a = .inl (cs 0, n, .inl (μ.1 a))) (k : G w own cc nL ret lev r μr (pc + 1) ls (.int (μ.1 a i.toNatClampNeg) :: st) μ) : G w own cc nL ret lev r μr pc ls (.int i :: .ref a :: st) μ :=
  fun p l e s m args below meth c ad cs D C H locs la hP hD hS hl => va_iald C.1 C.2.1 C.2.2.2.2.2.2.2.1 hP a 0 ((ww_at ha).trans (by rw [hv])) rfl hin hd (k p l e s m args below meth c ad cs D C H locs la hP hD hS hl)
theorem G_zald (a n : Nat) {i : Int32} (hd : decode cc pc = .ok (.baload, 1)) (hin : vp_in i n) (ha : a < w.1) (hv : ∀ ad cs, w.2 ad cs (μ.1 a) (μ.2 a) a = .inl (cs 2, n, .inl (μ.1 a))) (k : G w own cc nL ret lev r μr (pc + 1) ls (.int (μ.1 a i.toNatClampNeg) :: st) μ) : G w own cc nL ret lev r μr pc ls (.int i :: .ref a :: st) μ :=
  fun p l e s m args below meth c ad cs D C H locs la hP hD hS hl => va_zald C.1 C.2.1 C.2.2.2.2.2.2.2.1 hP a 2 ((ww_at ha).trans (by rw [hv])) rfl hin hd (k p l e s m args below meth c ad cs D C H locs la hP hD hS hl)
theorem G_lald (a n : Nat) {i : Int32} (hd : decode cc pc = .ok (.laload, 1)) (hin : vp_in i n) (ha : a < w.1) (hv : ∀ ad cs, w.2 ad cs (μ.1 a) (μ.2 a) a = .inl (cs 1, n, .inr (.inl (μ.2 a)))) (k : G w own cc nL ret lev r μr (pc + 1) ls (.long (μ.2 a i.toNatClampNeg) :: st) μ) : G w own cc nL ret lev r μr pc ls (.int i :: .ref a :: st) μ :=
  fun p l e s m args below meth c ad cs D C H locs la hP hD hS hl => va_lald C.1 C.2.1 C.2.2.2.2.2.2.2.1 hP a 1 ((ww_at ha).trans (by rw [hv])) rfl hin hd (k p l e s m args below meth c ad cs D C H locs la hP hD hS hl)
theorem G_iast (a n : Nat) {i x : Int32} (hd : decode cc pc = .ok (.iastore, 1)) (hin : vp_in i n) (ha : a < w.1) (hv : ∀ ad cs f, w.2 ad cs f (μ.2 a) a = .inl (cs 0, n, .inl f)) (k : G w own cc nL ret lev r μr (pc + 1) ls st (wI μ a i.toNatClampNeg x)) : G w own cc nL ret lev r μr pc ls (.int x :: .int i :: .ref a :: st) μ := by
  intro p l e s m args below meth c ad cs D C H locs la hP hD hS hl
  refine va_iast C.1 C.2.1 C.2.2.2.2.2.2.2.1 hP hD hS a 0 ((ww_at ha).trans (by rw [hv])) rfl hin hd (fun H locs hP hD hS => ?_)
  rw [ww_setR (f := upd (μ.1 a) i.toNatClampNeg x) ha (hv ad cs _).symm] at hP hD
  exact k p l e s m args below meth c ad cs D C H locs la hP hD hS hl
theorem nar_b {x : Int32} (h : x = 0 ∨ x = 1) : vp_nar .boolean x = x := by rcases h with rfl | rfl <;> decide
theorem G_zast (a n : Nat) {i x : Int32} (hd : decode cc pc = .ok (.bastore, 1)) (hin : vp_in i n) (hx : x = 0 ∨ x = 1) (ha : a < w.1) (hv : ∀ ad cs f, w.2 ad cs f (μ.2 a) a = .inl (cs 2, n, .inl f)) (k : G w own cc nL ret lev r μr (pc + 1) ls st (wI μ a i.toNatClampNeg x)) : G w own cc nL ret lev r μr pc ls (.int x :: .int i :: .ref a :: st) μ := by
  intro p l e s m args below meth c ad cs D C H locs la hP hD hS hl
  refine va_zast C.1 C.2.1 C.2.2.2.2.2.2.2.1 hP hD hS a 2 ((ww_at ha).trans (by rw [hv])) rfl hin hd (fun H locs hP hD hS => ?_)
  rw [nar_b hx] at hP hD
  rw [ww_setR (f := upd (μ.1 a) i.toNatClampNeg x) ha (hv ad cs _).symm] at hP hD
  exact k p l e s m args below meth c ad cs D C H locs la hP hD hS hl
theorem G_last (a n : Nat) {i : Int32} {x : Int64} (hd : decode cc pc = .ok (.lastore, 1)) (hin : vp_in i n) (ha : a < w.1) (hv : ∀ ad cs f, w.2 ad cs (μ.1 a) f a = .inl (cs 1, n, .inr (.inl f))) (k : G w own cc nL ret lev r μr (pc + 1) ls st (wL μ a i.toNatClampNeg x)) : G w own cc nL ret lev r μr pc ls (.long x :: .int i :: .ref a :: st) μ := by
  intro p l e s m args below meth c ad cs D C H locs la hP hD hS hl
  refine va_last C.1 C.2.1 C.2.2.2.2.2.2.2.1 hP hD hS a 1 ((ww_at ha).trans (by rw [hv])) rfl hin hd (fun H locs hP hD hS => ?_)
  rw [ww_setL (f := vp_updL (μ.2 a) i.toNatClampNeg x) ha (hv ad cs _).symm] at hP hD
  exact k p l e s m args below meth c ad cs D C H locs la hP hD hS hl
theorem G_alen (a : Nat) (t : Nat) (ty : FieldType) (x : vp_A) (v : Int32) (hd : decode cc pc = .ok (.arraylength, 1)) (ha : a < w.1) (hv : ∀ ad cs, w.2 ad cs (μ.1 a) (μ.2 a) a = .inl (cs t, x)) (ht : ∀ cs : Cs, (tyl cs)[t]? = some (cs t, ty)) (hn : Int32.ofNat x.1 = v) (k : G w own cc nL ret lev r μr (pc + 1) ls (.int v :: st) μ) : G w own cc nL ret lev r μr pc ls (.ref a :: st) μ :=
  fun p l e s m args below meth c ad cs D C H locs la hP hD hS hl => va_alen C.1 C.2.1 C.2.2.2.2.2.2.2.1 hP a t ((ww_at ha).trans (by rw [hv])) (ht cs) hn hd (k p l e s m args below meth c ad cs D C H locs la hP hD hS hl)
theorem G_aald (a n : Nat) (f : Nat → Nat) {i : Int32} (hd : decode cc pc = .ok (.aaload, 1)) (hin : vp_in i n) (ha : a < w.1) (hv : ∀ ad cs, w.2 ad cs (μ.1 a) (μ.2 a) a = .inl (cs 3, n, .inr (.inr (.inr (.inr (fun j => some (ad (f j)))))))) (k : G w own cc nL ret lev r μr (pc + 1) ls (.ref (f i.toNatClampNeg) :: st) μ) : G w own cc nL ret lev r μr pc ls (.int i :: .ref a :: st) μ :=
  fun p l e s m args below meth c ad cs D C H locs la hP hD hS hl => va_aldq (f := fun j => some (ad (f j))) C.1 C.2.1 C.2.2.2.2.2.2.2.1 hP a 3 ((ww_at ha).trans (by rw [hv])) rfl hin hd (k p l e s m args below meth c ad cs D C H locs la hP hD hS hl)
theorem G_iret {x : Int32} (hr : ret = some .int) (hd : decode cc pc = .ok (.ireturn, 1)) : G w own cc nL ret lev (some (.int x)) μ pc ls [.int x] μ := by
  intro p l e s m args below meth c ad cs D C H locs la hP hD hS hl
  have hlocks := C.2.2.2.2.1
  exact W.iret (v := x) C.1 C.2.1 (C.2.2.2.1.trans hr) (fun t ht hW => ⟨rfl, by rw [ht]; exact hP, va_K.moved hW.alike C.2.2.2.2.2.2.2.1, hD, hS.F ht⟩) hS.2.2 hd
theorem G_zret {x : Int32} (hr : ret = some .boolean) (hx : x = 0 ∨ x = 1) (hd : decode cc pc = .ok (.ireturn, 1)) : G w own cc nL ret lev (some (.int x)) μ pc ls [.int x] μ := by
  intro p l e s m args below meth c ad cs D C H locs la hP hD hS hl
  have hlocks := C.2.2.2.2.1
  exact W.zret (v := x) (ty := .boolean) C.1 C.2.1 (C.2.2.2.1.trans hr) (by rcases hx with rfl | rfl <;> decide) (fun t ht hW => ⟨rfl, by rw [ht]; exact hP, va_K.moved hW.alike C.2.2.2.2.2.2.2.1, hD, hS.F ht⟩) hS.2.2 hd
theorem G_lret {x : Int64} (hr : ret = some .long) (hd : decode cc pc = .ok (.lreturn, 1)) : G w own cc nL ret lev (some (.long x)) μ pc ls [.long x] μ := by
  intro p l e s m args below meth c ad cs D C H locs la hP hD hS hl
  have hlocks := C.2.2.2.2.1
  exact W.lret (v := x) C.1 C.2.1 (C.2.2.2.1.trans hr) (fun t ht hW => ⟨rfl, by rw [ht]; exact hP, va_K.moved hW.alike C.2.2.2.2.2.2.2.1, hD, hS.F ht⟩) hS.2.2 hd
theorem G_vret (hr : ret = none) (hd : decode cc pc = .ok (.return_, 1)) : G w own cc nL ret lev none μ pc ls [] μ := by
  intro p l e s m args below meth c ad cs D C H locs la hP hD hS hl
  have hlocks := C.2.2.2.2.1
  exact W.vret C.1 C.2.1 (C.2.2.2.1.trans hr) (fun t ht hW => ⟨rfl, by rw [ht]; exact hP, va_K.moved hW.alike C.2.2.2.2.2.2.2.1, hD, hS.F ht⟩) hS.2.2 hd
theorem G_aret {v : Value} {nm : String} (hr : ret = some (.object nm)) (hv : v = .null ∨ ∃ a, v = .ref a) (hd : decode cc pc = .ok (.areturn, 1)) : G w own cc nL ret lev (some v) μ pc ls [v] μ := by
  intro p l e s m args below meth c ad cs D C H locs la hP hD hS hl
  have hlocks := C.2.2.2.2.1
  exact W.aret (v := tr ad v) C.1 C.2.1 (C.2.2.2.1.trans hr) (Or.inl ⟨_, rfl⟩) (hv.elim (fun h => Or.inl (by rw [h]; rfl)) (fun ⟨a, h⟩ => Or.inr ⟨ad a, by rw [h]; rfl⟩)) (fun t ht hW => ⟨rfl, by rw [ht]; exact hP, va_K.moved hW.alike C.2.2.2.2.2.2.2.1, hD, hS.F ht⟩) hS.2.2 hd
end GRows
