def F_X8_textOf (x1 : Int32) (μ : Mm) : Option (Value × Mm) := some ((if x1 = 0 then .ref 1 else (if x1 = 1 then .ref 3 else (if x1 = 2 then .ref 5 else .null))), μ)
set_option maxRecDepth 100000 in
set_option maxHeartbeats 4000000 in
theorem S_X8_textOf (x1 : Int32)  (μ : Mm) (q : (Value × Mm)) (h : F_X8_textOf x1 μ = some q) : Cn wC yX8_textOf cX8_textOf 2 (some (.object "RosetteShow$Text")) 0 [.ref 0, .int x1] μ (some q.1) q.2 := by
  refine Cn_of (by decide +kernel) (Nat.le_of_ble_eq_true rfl) ?_
  show G wC RX8 cX8_textOf 2 (some (.object "RosetteShow$Text")) 0 (some q.1) q.2 0 [(0, .ref 0), (1, .int x1)] [] μ
  unfold F_X8_textOf at h
  refine G_iload_n (pc := 0) 1 dX8_textOf_0 rfl ?_
  by_cases c1 : x1 = 0
  · rw [if_pos c1] at h
    refine G_tswV (pc := 1) 28 (0) c1 dX8_textOf_1 (by decide) (by decide) rfl (by decide) ?_
    refine G_aload_n (pc := 28) 0 dX8_textOf_28 rfl ?_
    refine gwC_X8_14_0 (pc := 29) dX8_textOf_29 ?_
    obtain rfl := Option.some.inj h
    exact G_aret (pc := 32) rfl (Or.inr ⟨_, rfl⟩) dX8_textOf_32
  · rw [if_neg c1] at h
    by_cases c2 : x1 = 1
    · rw [if_pos c2] at h
      refine G_tswV (pc := 1) 33 (1) c2 dX8_textOf_1 (by decide) (by decide) rfl (by decide) ?_
      refine G_aload_n (pc := 33) 0 dX8_textOf_33 rfl ?_
      refine gwC_X8_18_0 (pc := 34) dX8_textOf_34 ?_
      obtain rfl := Option.some.inj h
      exact G_aret (pc := 37) rfl (Or.inr ⟨_, rfl⟩) dX8_textOf_37
    · rw [if_neg c2] at h
      by_cases c3 : x1 = 2
      · rw [if_pos c3] at h
        refine G_tswV (pc := 1) 38 (2) c3 dX8_textOf_1 (by decide) (by decide) rfl (by decide) ?_
        refine G_aload_n (pc := 38) 0 dX8_textOf_38 rfl ?_
        refine gwC_X8_24_0 (pc := 39) dX8_textOf_39 ?_
        obtain rfl := Option.some.inj h
        exact G_aret (pc := 42) rfl (Or.inr ⟨_, rfl⟩) dX8_textOf_42
      · rw [if_neg c3] at h
        refine G_tswOut (pc := 1) 43 dX8_textOf_1 (tswO 3 (by decide) (lt_s (lt_s (lt_s lt_0 c1) c2) c3)) (by decide) ?_
        refine G_null (pc := 43) dX8_textOf_43 ?_
        obtain rfl := Option.some.inj h
        exact G_aret (pc := 44) rfl (Or.inl rfl) dX8_textOf_44
def F_X6_mayEndAt (x1 : Int32) (μ : Mm) : Option (Int32 × Mm) := some (1, μ)
set_option maxRecDepth 100000 in
set_option maxHeartbeats 4000000 in
theorem S_X6_mayEndAt (x1 : Int32)  (μ : Mm) (q : (Int32 × Mm)) (h : F_X6_mayEndAt x1 μ = some q) : Cn wC yX6_mayEndAt cX6_mayEndAt 2 (some .boolean) 0 [.ref 5, .int x1] μ (some (.int q.1)) q.2 := by
  refine Cn_of (by decide +kernel) (Nat.le_of_ble_eq_true rfl) ?_
  show G wC RX6 cX6_mayEndAt 2 (some .boolean) 0 (some (.int q.1)) q.2 0 [(0, .ref 5), (1, .int x1)] [] μ
  unfold F_X6_mayEndAt at h
  refine G_iconst (pc := 0) (1) dX6_mayEndAt_0 ci_1 ?_
  obtain rfl := Option.some.inj h
  exact G_zret (pc := 1) rfl (Or.inr rfl) dX6_mayEndAt_1
def F_X5_isFigure (x0 : Int32) (x1 : Int32) (x2 : Int32) (μ : Mm) : Option (Int32 × Mm) := some ((if x0 < (48 + x1) then 0 else (if (48 + x2) < x0 then 0 else 1)), μ)
set_option maxRecDepth 100000 in
set_option maxHeartbeats 4000000 in
theorem S_X5_isFigure (x0 : Int32) (x1 : Int32) (x2 : Int32)  (μ : Mm) (q : (Int32 × Mm)) (h : F_X5_isFigure x0 x1 x2 μ = some q) : Cn wC yX5_isFigure cX5_isFigure 3 (some .boolean) 0 [.int x0, .int x1, .int x2] μ (some (.int q.1)) q.2 := by
  refine Cn_of (by decide +kernel) (Nat.le_of_ble_eq_true rfl) ?_
  show G wC RX5 cX5_isFigure 3 (some .boolean) 0 (some (.int q.1)) q.2 0 [(0, .int x0), (1, .int x1), (2, .int x2)] [] μ
  unfold F_X5_isFigure at h
  refine G_iload_n (pc := 0) 0 dX5_isFigure_0 rfl ?_
  refine G_bipush (pc := 1) (48) dX5_isFigure_1 bp_48 ?_
  refine G_iload_n (pc := 3) 1 dX5_isFigure_3 rfl ?_
  refine G_iadd (pc := 4) dX5_isFigure_4 ?_
  refine G_icmp_lt (pc := 5) 20 dX5_isFigure_5 (by decide) (fun c1 => ?_) (fun c1 => ?_)
  · rw [if_pos c1] at h
    refine G_iconst (pc := 20) (0) dX5_isFigure_20 ci_0 ?_
    obtain rfl := Option.some.inj h
    exact G_zret (pc := 21) rfl (Or.inl rfl) dX5_isFigure_21
  · rw [if_neg c1] at h
    refine G_iload_n (pc := 8) 0 dX5_isFigure_8 rfl ?_
    refine G_bipush (pc := 9) (48) dX5_isFigure_9 bp_48 ?_
    refine G_iload_n (pc := 11) 2 dX5_isFigure_11 rfl ?_
    refine G_iadd (pc := 12) dX5_isFigure_12 ?_
    refine G_icmp_gt (pc := 13) 20 dX5_isFigure_13 (by decide) (fun c2 => ?_) (fun c2 => ?_)
    · rw [if_pos c2] at h
      refine G_iconst (pc := 20) (0) dX5_isFigure_20 ci_0 ?_
      obtain rfl := Option.some.inj h
      exact G_zret (pc := 21) rfl (Or.inl rfl) dX5_isFigure_21
    · rw [if_neg c2] at h
      refine G_iconst (pc := 16) (1) dX5_isFigure_16 ci_1 ?_
      refine G_goto (pc := 17) 21 dX5_isFigure_17 (by decide) ?_
      obtain rfl := Option.some.inj h
      exact G_zret (pc := 21) rfl (Or.inr rfl) dX5_isFigure_21
def F_X6_fits (x1 : Int32) (x2 : Int32) (μ : Mm) : Option (Int32 × Mm) := (F_X5_isFigure x2 0 3 μ).bind (fun q1 => gb q1.1 (some (q1.1, q1.2)))
set_option maxRecDepth 100000 in
set_option maxHeartbeats 4000000 in
theorem S_X6_fits (x1 : Int32) (x2 : Int32)  (μ : Mm) (q : (Int32 × Mm)) (h : F_X6_fits x1 x2 μ = some q) : Cn wC yX6_fits cX6_fits 3 (some .boolean) 1 [.ref 5, .int x1, .int x2] μ (some (.int q.1)) q.2 := by
  refine Cn_of (by decide +kernel) (Nat.le_of_ble_eq_true rfl) ?_
  show G wC RX6 cX6_fits 3 (some .boolean) 1 (some (.int q.1)) q.2 0 [(0, .ref 5), (1, .int x1), (2, .int x2)] [] μ
  unfold F_X6_fits at h
  refine G_iload_n (pc := 0) 2 dX6_fits_0 rfl ?_
  refine G_iconst (pc := 1) (0) dX6_fits_1 ci_0 ?_
  refine G_iconst (pc := 2) (3) dX6_fits_2 ci_3 ?_
  obtain ⟨q1, e1, h⟩ := bnd_some h
  refine G_callX3r (pc := 3) dX6_fits_3 wx_X6_9 rfl cd_X5_isFigure (S_X5_isFigure _ _ _ _ _ e1) (by decide) (by decide) (Nat.le_of_ble_eq_true rfl) ?_
  obtain ⟨g2, h⟩ := gb_some h
  obtain rfl := Option.some.inj h
  exact G_zret (pc := 6) rfl g2 dX6_fits_6
def L_X5_firstFault_5_2 : Nat → Int32 → Mm → Option (Int32 × Mm)
  | 0, _, _ => none
  | n + 1, x1, μ => if (μ.1 5 1) ≤ x1 then (F_X6_mayEndAt (μ.1 5 1) μ).bind (fun q2 => some ((if q2.1 = 0 then (q2.2.1 5 1) else (-1)), q2.2)) else gi x1 12 ((F_X6_fits x1 (μ.1 6 x1.toNatClampNeg) μ).bind (fun q5 => if q5.1 = 0 then some (x1, q5.2) else L_X5_firstFault_5_2 n (x1 + 1) q5.2))
set_option maxRecDepth 100000 in
set_option maxHeartbeats 4000000 in
theorem L_X5_firstFault_5_2_s (n : Nat) (x1 : Int32) (μ : Mm) : L_X5_firstFault_5_2  (n + 1) x1 μ = (if (μ.1 5 1) ≤ x1 then (F_X6_mayEndAt (μ.1 5 1) μ).bind (fun q2 => some ((if q2.1 = 0 then (q2.2.1 5 1) else (-1)), q2.2)) else gi x1 12 ((F_X6_fits x1 (μ.1 6 x1.toNatClampNeg) μ).bind (fun q5 => if q5.1 = 0 then some (x1, q5.2) else L_X5_firstFault_5_2 n (x1 + 1) q5.2))) := rfl
set_option maxRecDepth 100000 in
set_option maxHeartbeats 4000000 in
theorem B_X5_firstFault_5_2 : ∀ (n : Nat) (x1 : Int32) (μ : Mm) (q : (Int32 × Mm)), L_X5_firstFault_5_2  n x1 μ = some q → G wC RX5 cX5_firstFault 2 (some .int) 2 (some (.int q.1)) q.2 2 [(0, .ref 5), (1, .int x1)] [] μ := by
  intro n
  induction n with
  | zero =>
    intro x1 μ q  h
    cases h
  | succ n ih =>
    intro x1 μ q  h
    rw [L_X5_firstFault_5_2_s] at h
    refine G_iload_n (pc := 2) 1 dX5_firstFault_2 rfl ?_
    refine G_aload_n (pc := 3) 0 dX5_firstFault_3 rfl ?_
    refine gwC_X5_9_5 (pc := 4) dX5_firstFault_4 ?_
    refine G_icmp_ge (pc := 7) 32 dX5_firstFault_7 (by decide) (fun c1 => ?_) (fun c1 => ?_)
    · replace h := itp c1 h
      refine G_aload_n (pc := 32) 0 dX5_firstFault_32 rfl ?_
      refine G_aload_n (pc := 33) 0 dX5_firstFault_33 rfl ?_
      refine gwC_X5_9_5 (pc := 34) dX5_firstFault_34 ?_
      obtain ⟨q2, e2, h⟩ := bnd_some h
      refine G_callA1r (pc := 37) 5 5 dX5_firstFault_37 wu_X5_30_X6 (fun _ h => h.2.1) cd_X6_mayEndAt (S_X6_mayEndAt _ _ _ e2) (by decide) (by decide) rfl (by decide) (fun _ _ => ⟨_, rfl⟩) (Nat.le_of_ble_eq_true rfl) ?_
      refine G_if_eq (pc := 40) 47 dX5_firstFault_40 (by decide) (fun c3 => ?_) (fun c3 => ?_)
      · rw [if_pos c3] at h
        refine G_aload_n (pc := 47) 0 dX5_firstFault_47 rfl ?_
        refine gwC_X5_9_5 (pc := 48) dX5_firstFault_48 ?_
        obtain rfl := Option.some.inj h
        exact G_iret (pc := 51) rfl dX5_firstFault_51
      · rw [if_neg c3] at h
        refine G_iconst (pc := 43) (-1) dX5_firstFault_43 ci_m1 ?_
        refine G_goto (pc := 44) 51 dX5_firstFault_44 (by decide) ?_
        obtain rfl := Option.some.inj h
        exact G_iret (pc := 51) rfl dX5_firstFault_51
    · replace h := itn c1 h
      refine G_aload_n (pc := 10) 0 dX5_firstFault_10 rfl ?_
      refine G_iload_n (pc := 11) 1 dX5_firstFault_11 rfl ?_
      refine G_aload_n (pc := 12) 0 dX5_firstFault_12 rfl ?_
      refine gwC_X5_18_5 (pc := 13) dX5_firstFault_13 ?_
      refine G_iload_n (pc := 16) 1 dX5_firstFault_16 rfl ?_
      obtain ⟨g4, h⟩ := gi_some h
      refine alwC_6 (pc := 17) dX5_firstFault_17 g4 ?_
      obtain ⟨q5, e5, h⟩ := bnd_some h
      refine G_callA2r (pc := 18) 5 5 dX5_firstFault_18 wu_X5_26_X6 (fun _ h => h.1) cd_X6_fits (S_X6_fits _ _ _ _ e5) (by decide) (by decide) rfl (by decide) (fun _ _ => ⟨_, rfl⟩) (Nat.le_of_ble_eq_true rfl) ?_
      refine G_if_ne (pc := 21) 26 dX5_firstFault_21 (by decide) (fun c6 => ?_) (fun c6 => ?_)
      · replace h := itn c6 h
        refine G_iinc (pc := 26) (1) 1 [(1, .int _), (0, .ref _)] dX5_firstFault_26 ci_1 rfl (Nat.le_of_ble_eq_true rfl) rfl ?_
        refine G_goto (pc := 29) 2 dX5_firstFault_29 (by decide) ?_
        refine G_loc [1, 0] [(0, .ref _), (1, .int _)] rfl ?_
        exact ih _ _ _ h
      · replace h := itp c6 h
        refine G_iload_n (pc := 24) 1 dX5_firstFault_24 rfl ?_
        obtain rfl := Option.some.inj h
        exact G_iret (pc := 25) rfl dX5_firstFault_25
def F_X5_firstFault_5  (μ : Mm) : Option (Int32 × Mm) := L_X5_firstFault_5_2 FUEL 0 μ
set_option maxRecDepth 100000 in
set_option maxHeartbeats 4000000 in
theorem S_X5_firstFault_5   (μ : Mm) (q : (Int32 × Mm)) (h : F_X5_firstFault_5  μ = some q) : Cn wC yX5_firstFault cX5_firstFault 2 (some .int) 2 [.ref 5] μ (some (.int q.1)) q.2 := by
  refine Cn_of (by decide +kernel) (Nat.le_of_ble_eq_true rfl) ?_
  show G wC RX5 cX5_firstFault 2 (some .int) 2 (some (.int q.1)) q.2 0 [(0, .ref 5)] [] μ
  unfold F_X5_firstFault_5 at h
  refine G_iconst (pc := 0) (0) dX5_firstFault_0 ci_0 ?_
  refine G_istore_n (pc := 1) [(1, .int _), (0, .ref _)] dX5_firstFault_1 (Nat.le_of_ble_eq_true rfl) rfl ?_
  refine G_loc [1, 0] [(0, .ref _), (1, .int _)] rfl ?_
  exact B_X5_firstFault_5_2 _ _ _ _ h
def F_X5_append_5 (x1 : Int32) (μ : Mm) : Option (Int32 × Mm) := if (μ.1 5 1) < 12 then gi (μ.1 5 1) 12 ((F_X5_firstFault_5 (wI (wI μ 6 (μ.1 5 1).toNatClampNeg x1) 5 1 (((wI μ 6 (μ.1 5 1).toNatClampNeg x1).1 5 1) + 1))).bind (fun q3 => some (1, (wI q3.2 5 2 q3.1)))) else some (0, μ)
set_option maxRecDepth 100000 in
set_option maxHeartbeats 4000000 in
theorem S_X5_append_5 (x1 : Int32)  (μ : Mm) (q : (Int32 × Mm)) (h : F_X5_append_5 x1 μ = some q) : Cn wC yX5_append cX5_append 2 (some .boolean) 3 [.ref 5, .int x1] μ (some (.int q.1)) q.2 := by
  refine Cn_of (by decide +kernel) (Nat.le_of_ble_eq_true rfl) ?_
  show G wC RX5 cX5_append 2 (some .boolean) 3 (some (.int q.1)) q.2 0 [(0, .ref 5), (1, .int x1)] [] μ
  unfold F_X5_append_5 at h
  refine G_aload_n (pc := 0) 0 dX5_append_0 rfl ?_
  refine gwC_X5_9_5 (pc := 1) dX5_append_1 ?_
  refine G_aload_n (pc := 4) 0 dX5_append_4 rfl ?_
  refine gwC_X5_18_5 (pc := 5) dX5_append_5 ?_
  refine G_alen (pc := 8) 6 0 .int _ (12) dX5_append_8 (by decide) (fun _ _ => rfl) (fun _ => rfl) rfl ?_
  refine G_icmp_lt (pc := 9) 14 dX5_append_9 (by decide) (fun c1 => ?_) (fun c1 => ?_)
  · replace h := itp c1 h
    refine G_aload_n (pc := 14) 0 dX5_append_14 rfl ?_
    refine gwC_X5_18_5 (pc := 15) dX5_append_15 ?_
    refine G_aload_n (pc := 18) 0 dX5_append_18 rfl ?_
    refine gwC_X5_9_5 (pc := 19) dX5_append_19 ?_
    refine G_iload_n (pc := 22) 1 dX5_append_22 rfl ?_
    obtain ⟨g2, h⟩ := gi_some h
    refine aswC_6 (pc := 23) dX5_append_23 g2 ?_
    refine G_aload_n (pc := 24) 0 dX5_append_24 rfl ?_
    refine G_dup (pc := 25) dX5_append_25 rfl ?_
    refine gwC_X5_9_5 (pc := 26) dX5_append_26 ?_
    refine G_iconst (pc := 29) (1) dX5_append_29 ci_1 ?_
    refine G_iadd (pc := 30) dX5_append_30 ?_
    refine pwC_X5_9_5 (pc := 31) dX5_append_31 ?_
    refine G_aload_n (pc := 34) 0 dX5_append_34 rfl ?_
    refine G_aload_n (pc := 35) 0 dX5_append_35 rfl ?_
    obtain ⟨q3, e3, h⟩ := bnd_some h
    refine G_callU0r (pc := 36) 5 5 dX5_append_36 wu_X5_22_X6 rfl cd_X5_firstFault (S_X5_firstFault_5 _ _ e3) (by decide) (by decide) rfl (by decide) (fun _ _ => ⟨_, rfl⟩) (Nat.le_of_ble_eq_true rfl) ?_
    refine pwC_X5_15_5 (pc := 39) dX5_append_39 ?_
    refine G_iconst (pc := 42) (1) dX5_append_42 ci_1 ?_
    obtain rfl := Option.some.inj h
    exact G_zret (pc := 43) rfl (Or.inr rfl) dX5_append_43
  · replace h := itn c1 h
    refine G_iconst (pc := 12) (0) dX5_append_12 ci_0 ?_
    obtain rfl := Option.some.inj h
    exact G_zret (pc := 13) rfl (Or.inl rfl) dX5_append_13
def F_X3_mayEndAt_3_11  (μ : Mm) : Option (Int32 × Mm) := some (1, μ)
set_option maxRecDepth 100000 in
set_option maxHeartbeats 4000000 in
theorem B_X3_mayEndAt_3_11  (μ : Mm) (q : (Int32 × Mm))  (h : F_X3_mayEndAt_3_11   μ = some q) : G wC RX3 cX3_mayEndAt 2 (some .boolean) 0 (some (.int q.1)) q.2 11 [] [] μ := by
  unfold F_X3_mayEndAt_3_11 at h
  refine G_iconst (pc := 11) (1) dX3_mayEndAt_11 ci_1 ?_
  refine G_goto (pc := 12) 16 dX3_mayEndAt_12 (by decide) ?_
  obtain rfl := Option.some.inj h
  exact G_zret (pc := 16) rfl (Or.inr rfl) dX3_mayEndAt_16
def F_X3_mayEndAt_3 (x1 : Int32) (μ : Mm) : Option (Int32 × Mm) := if x1 = 0 then F_X3_mayEndAt_3_11 μ else if (x1 - x1 / 4 * 4) = 3 then F_X3_mayEndAt_3_11 μ else some (0, μ)
set_option maxRecDepth 100000 in
set_option maxHeartbeats 4000000 in
theorem S_X3_mayEndAt_3 (x1 : Int32)  (μ : Mm) (q : (Int32 × Mm)) (h : F_X3_mayEndAt_3 x1 μ = some q) : Cn wC yX3_mayEndAt cX3_mayEndAt 2 (some .boolean) 0 [.ref 3, .int x1] μ (some (.int q.1)) q.2 := by
  refine Cn_of (by decide +kernel) (Nat.le_of_ble_eq_true rfl) ?_
  show G wC RX3 cX3_mayEndAt 2 (some .boolean) 0 (some (.int q.1)) q.2 0 [(0, .ref 3), (1, .int x1)] [] μ
  unfold F_X3_mayEndAt_3 at h
  refine G_iload_n (pc := 0) 1 dX3_mayEndAt_0 rfl ?_
  refine G_if_eq (pc := 1) 11 dX3_mayEndAt_1 (by decide) (fun c1 => ?_) (fun c1 => ?_)
  · replace h := itp c1 h
    refine G_loc [] [] rfl ?_
    exact B_X3_mayEndAt_3_11 _ _ h
  · replace h := itn c1 h
    refine G_iload_n (pc := 4) 1 dX3_mayEndAt_4 rfl ?_
    refine G_iconst (pc := 5) (4) dX3_mayEndAt_5 ci_4 ?_
    refine G_irem (pc := 6) dX3_mayEndAt_6 (by decide) ?_
    refine G_iconst (pc := 7) (3) dX3_mayEndAt_7 ci_3 ?_
    refine G_icmp_ne (pc := 8) 15 dX3_mayEndAt_8 (by decide) (fun c2 => ?_) (fun c2 => ?_)
    · replace h := itn c2 h
      refine G_iconst (pc := 15) (0) dX3_mayEndAt_15 ci_0 ?_
      obtain rfl := Option.some.inj h
      exact G_zret (pc := 16) rfl (Or.inl rfl) dX3_mayEndAt_16
    · replace h := itp c2 h
      refine G_loc [] [] rfl ?_
      exact B_X3_mayEndAt_3_11 _ _ h
def F_X3_sortOf (x0 : Int32) (μ : Mm) : Option (Int32 × Mm) := some ((if x0 = 99 then 1 else (if x0 = 115 then 0 else (if x0 = 119 then 2 else (-1)))), μ)
set_option maxRecDepth 100000 in
set_option maxHeartbeats 4000000 in
theorem S_X3_sortOf (x0 : Int32)  (μ : Mm) (q : (Int32 × Mm)) (h : F_X3_sortOf x0 μ = some q) : Cn wC yX3_sortOf cX3_sortOf 1 (some .int) 0 [.int x0] μ (some (.int q.1)) q.2 := by
  refine Cn_of (by decide +kernel) (Nat.le_of_ble_eq_true rfl) ?_
  show G wC RX3 cX3_sortOf 1 (some .int) 0 (some (.int q.1)) q.2 0 [(0, .int x0)] [] μ
  unfold F_X3_sortOf at h
  refine G_iload_n (pc := 0) 0 dX3_sortOf_0 rfl ?_
  by_cases c1 : x0 = 99
  · rw [if_pos c1] at h
    refine G_lswV (pc := 1) 38 (99) c1 dX3_sortOf_1 (by decide) rfl (by decide) ?_
    refine G_iconst (pc := 38) (1) dX3_sortOf_38 ci_1 ?_
    obtain rfl := Option.some.inj h
    exact G_iret (pc := 39) rfl dX3_sortOf_39
  · rw [if_neg c1] at h
    by_cases c2 : x0 = 115
    · rw [if_pos c2] at h
      refine G_lswV (pc := 1) 36 (115) c2 dX3_sortOf_1 (by decide) rfl (by decide) ?_
      refine G_iconst (pc := 36) (0) dX3_sortOf_36 ci_0 ?_
      obtain rfl := Option.some.inj h
      exact G_iret (pc := 37) rfl dX3_sortOf_37
    · rw [if_neg c2] at h
      by_cases c3 : x0 = 119
      · rw [if_pos c3] at h
        refine G_lswV (pc := 1) 40 (119) c3 dX3_sortOf_1 (by decide) rfl (by decide) ?_
        refine G_iconst (pc := 40) (2) dX3_sortOf_40 ci_2 ?_
        obtain rfl := Option.some.inj h
        exact G_iret (pc := 41) rfl dX3_sortOf_41
      · rw [if_neg c3] at h
        refine G_lsw (pc := 1) (off := 41) 42 dX3_sortOf_1 (by decide) ((lv_osw c1 (by decide)).trans ((lv_osw c2 (by decide)).trans ((lv_osw c3 (by decide)).trans (rfl)))) (by decide) ?_
        refine G_iconst (pc := 42) (-1) dX3_sortOf_42 ci_m1 ?_
        obtain rfl := Option.some.inj h
        exact G_iret (pc := 43) rfl dX3_sortOf_43
def F_X3_fits_3 (x1 : Int32) (x2 : Int32) (μ : Mm) : Option (Int32 × Mm) := if (x1 - x1 / 4 * 4) = 0 then (F_X3_sortOf x2 μ).bind (fun q9 => some ((if q9.1 = (-1) then 0 else 1), q9.2)) else if (x1 - x1 / 4 * 4) = 1 then (F_X5_isFigure x2 (μ.1 3 3) 9 μ).bind (fun q7 => gb q7.1 (some (q7.1, q7.2))) else if (x1 - x1 / 4 * 4) = 2 then (F_X5_isFigure x2 0 5 μ).bind (fun q5 => gb q5.1 (some (q5.1, q5.2))) else some ((if x2 = 59 then 1 else 0), μ)
set_option maxRecDepth 100000 in
set_option maxHeartbeats 4000000 in
theorem S_X3_fits_3 (x1 : Int32) (x2 : Int32)  (μ : Mm) (q : (Int32 × Mm)) (h : F_X3_fits_3 x1 x2 μ = some q) : Cn wC yX3_fits cX3_fits 3 (some .boolean) 1 [.ref 3, .int x1, .int x2] μ (some (.int q.1)) q.2 := by
  refine Cn_of (by decide +kernel) (Nat.le_of_ble_eq_true rfl) ?_
  show G wC RX3 cX3_fits 3 (some .boolean) 1 (some (.int q.1)) q.2 0 [(0, .ref 3), (1, .int x1), (2, .int x2)] [] μ
  unfold F_X3_fits_3 at h
  refine G_iload_n (pc := 0) 1 dX3_fits_0 rfl ?_
  refine G_iconst (pc := 1) (4) dX3_fits_1 ci_4 ?_
  refine G_irem (pc := 2) dX3_fits_2 (by decide) ?_
  by_cases c1 : (x1 - x1 / 4 * 4) = 0
  · replace h := itp c1 h
    refine G_tswV (pc := 3) 28 (0) c1 dX3_fits_3 (by decide) (by decide) rfl (by decide) ?_
    refine G_iload_n (pc := 28) 2 dX3_fits_28 rfl ?_
    obtain ⟨q9, e9, h⟩ := bnd_some h
    refine G_callS1r (pc := 29) dX3_fits_29 ws_X3_15 cd_X3_sortOf (S_X3_sortOf _ _ _ e9) (by decide) (by decide) (Nat.le_of_ble_eq_true rfl) ?_
    refine G_iconst (pc := 32) (-1) dX3_fits_32 ci_m1 ?_
    refine G_icmp_eq (pc := 33) 40 dX3_fits_33 (by decide) (fun c10 => ?_) (fun c10 => ?_)
    · rw [if_pos c10] at h
      refine G_iconst (pc := 40) (0) dX3_fits_40 ci_0 ?_
      obtain rfl := Option.some.inj h
      exact G_zret (pc := 41) rfl (Or.inl rfl) dX3_fits_41
    · rw [if_neg c10] at h
      refine G_iconst (pc := 36) (1) dX3_fits_36 ci_1 ?_
      refine G_goto (pc := 37) 41 dX3_fits_37 (by decide) ?_
      obtain rfl := Option.some.inj h
      exact G_zret (pc := 41) rfl (Or.inr rfl) dX3_fits_41
  · replace h := itn c1 h
    by_cases c2 : (x1 - x1 / 4 * 4) = 1
    · replace h := itp c2 h
      refine G_tswV (pc := 3) 42 (1) c2 dX3_fits_3 (by decide) (by decide) rfl (by decide) ?_
      refine G_iload_n (pc := 42) 2 dX3_fits_42 rfl ?_
      refine G_aload_n (pc := 43) 0 dX3_fits_43 rfl ?_
      refine gwC_X3_9_3 (pc := 44) dX3_fits_44 ?_
      refine G_bipush (pc := 47) (9) dX3_fits_47 bp_9 ?_
      obtain ⟨q7, e7, h⟩ := bnd_some h
      refine G_callX3r (pc := 49) dX3_fits_49 wx_X3_19 rfl cd_X5_isFigure (S_X5_isFigure _ _ _ _ _ e7) (by decide) (by decide) (Nat.le_of_ble_eq_true rfl) ?_
      obtain ⟨g8, h⟩ := gb_some h
      obtain rfl := Option.some.inj h
      exact G_zret (pc := 52) rfl g8 dX3_fits_52
    · replace h := itn c2 h
      by_cases c3 : (x1 - x1 / 4 * 4) = 2
      · replace h := itp c3 h
        refine G_tswV (pc := 3) 53 (2) c3 dX3_fits_3 (by decide) (by decide) rfl (by decide) ?_
        refine G_iload_n (pc := 53) 2 dX3_fits_53 rfl ?_
        refine G_iconst (pc := 54) (0) dX3_fits_54 ci_0 ?_
        refine G_iconst (pc := 55) (5) dX3_fits_55 ci_5 ?_
        obtain ⟨q5, e5, h⟩ := bnd_some h
        refine G_callX3r (pc := 56) dX3_fits_56 wx_X3_19 rfl cd_X5_isFigure (S_X5_isFigure _ _ _ _ _ e5) (by decide) (by decide) (Nat.le_of_ble_eq_true rfl) ?_
        obtain ⟨g6, h⟩ := gb_some h
        obtain rfl := Option.some.inj h
        exact G_zret (pc := 59) rfl g6 dX3_fits_59
      · replace h := itn c3 h
        refine G_tswOut (pc := 3) 60 dX3_fits_3 (tswO 3 (by decide) (lt_s (lt_s (lt_s lt_0 c1) c2) c3)) (by decide) ?_
        refine G_iload_n (pc := 60) 2 dX3_fits_60 rfl ?_
        refine G_bipush (pc := 61) (59) dX3_fits_61 bp_59 ?_
        refine G_icmp_ne (pc := 63) 70 dX3_fits_63 (by decide) (fun c4 => ?_) (fun c4 => ?_)
        · rw [if_neg c4] at h
          refine G_iconst (pc := 70) (0) dX3_fits_70 ci_0 ?_
          obtain rfl := Option.some.inj h
          exact G_zret (pc := 71) rfl (Or.inl rfl) dX3_fits_71
        · rw [if_pos c4] at h
          refine G_iconst (pc := 66) (1) dX3_fits_66 ci_1 ?_
          refine G_goto (pc := 67) 71 dX3_fits_67 (by decide) ?_
          obtain rfl := Option.some.inj h
          exact G_zret (pc := 71) rfl (Or.inr rfl) dX3_fits_71
def L_X5_firstFault_3_2 : Nat → Int32 → Mm → Option (Int32 × Mm)
  | 0, _, _ => none
  | n + 1, x1, μ => if (μ.1 3 1) ≤ x1 then (F_X3_mayEndAt_3 (μ.1 3 1) μ).bind (fun q2 => some ((if q2.1 = 0 then (q2.2.1 3 1) else (-1)), q2.2)) else gi x1 15 ((F_X3_fits_3 x1 (μ.1 4 x1.toNatClampNeg) μ).bind (fun q5 => if q5.1 = 0 then some (x1, q5.2) else L_X5_firstFault_3_2 n (x1 + 1) q5.2))
set_option maxRecDepth 100000 in
set_option maxHeartbeats 4000000 in
theorem L_X5_firstFault_3_2_s (n : Nat) (x1 : Int32) (μ : Mm) : L_X5_firstFault_3_2  (n + 1) x1 μ = (if (μ.1 3 1) ≤ x1 then (F_X3_mayEndAt_3 (μ.1 3 1) μ).bind (fun q2 => some ((if q2.1 = 0 then (q2.2.1 3 1) else (-1)), q2.2)) else gi x1 15 ((F_X3_fits_3 x1 (μ.1 4 x1.toNatClampNeg) μ).bind (fun q5 => if q5.1 = 0 then some (x1, q5.2) else L_X5_firstFault_3_2 n (x1 + 1) q5.2))) := rfl
set_option maxRecDepth 100000 in
set_option maxHeartbeats 4000000 in
theorem B_X5_firstFault_3_2 : ∀ (n : Nat) (x1 : Int32) (μ : Mm) (q : (Int32 × Mm)), L_X5_firstFault_3_2  n x1 μ = some q → G wC RX5 cX5_firstFault 2 (some .int) 2 (some (.int q.1)) q.2 2 [(0, .ref 3), (1, .int x1)] [] μ := by
  intro n
  induction n with
  | zero =>
    intro x1 μ q  h
    cases h
  | succ n ih =>
    intro x1 μ q  h
    rw [L_X5_firstFault_3_2_s] at h
    refine G_iload_n (pc := 2) 1 dX5_firstFault_2 rfl ?_
    refine G_aload_n (pc := 3) 0 dX5_firstFault_3 rfl ?_
    refine gwC_X5_9_3 (pc := 4) dX5_firstFault_4 ?_
    refine G_icmp_ge (pc := 7) 32 dX5_firstFault_7 (by decide) (fun c1 => ?_) (fun c1 => ?_)
    · replace h := itp c1 h
      refine G_aload_n (pc := 32) 0 dX5_firstFault_32 rfl ?_
      refine G_aload_n (pc := 33) 0 dX5_firstFault_33 rfl ?_
      refine gwC_X5_9_3 (pc := 34) dX5_firstFault_34 ?_
      obtain ⟨q2, e2, h⟩ := bnd_some h
      refine G_callA1r (pc := 37) 3 3 dX5_firstFault_37 wu_X5_30_X3 (fun _ h => h.2.1) cd_X3_mayEndAt (S_X3_mayEndAt_3 _ _ _ e2) (by decide) (by decide) rfl (by decide) (fun _ _ => ⟨_, rfl⟩) (Nat.le_of_ble_eq_true rfl) ?_
      refine G_if_eq (pc := 40) 47 dX5_firstFault_40 (by decide) (fun c3 => ?_) (fun c3 => ?_)
      · rw [if_pos c3] at h
        refine G_aload_n (pc := 47) 0 dX5_firstFault_47 rfl ?_
        refine gwC_X5_9_3 (pc := 48) dX5_firstFault_48 ?_
        obtain rfl := Option.some.inj h
        exact G_iret (pc := 51) rfl dX5_firstFault_51
      · rw [if_neg c3] at h
        refine G_iconst (pc := 43) (-1) dX5_firstFault_43 ci_m1 ?_
        refine G_goto (pc := 44) 51 dX5_firstFault_44 (by decide) ?_
        obtain rfl := Option.some.inj h
        exact G_iret (pc := 51) rfl dX5_firstFault_51
    · replace h := itn c1 h
      refine G_aload_n (pc := 10) 0 dX5_firstFault_10 rfl ?_
      refine G_iload_n (pc := 11) 1 dX5_firstFault_11 rfl ?_
      refine G_aload_n (pc := 12) 0 dX5_firstFault_12 rfl ?_
      refine gwC_X5_18_3 (pc := 13) dX5_firstFault_13 ?_
      refine G_iload_n (pc := 16) 1 dX5_firstFault_16 rfl ?_
      obtain ⟨g4, h⟩ := gi_some h
      refine alwC_4 (pc := 17) dX5_firstFault_17 g4 ?_
      obtain ⟨q5, e5, h⟩ := bnd_some h
      refine G_callA2r (pc := 18) 3 3 dX5_firstFault_18 wu_X5_26_X3 (fun _ h => h.1) cd_X3_fits (S_X3_fits_3 _ _ _ _ e5) (by decide) (by decide) rfl (by decide) (fun _ _ => ⟨_, rfl⟩) (Nat.le_of_ble_eq_true rfl) ?_
      refine G_if_ne (pc := 21) 26 dX5_firstFault_21 (by decide) (fun c6 => ?_) (fun c6 => ?_)
      · replace h := itn c6 h
        refine G_iinc (pc := 26) (1) 1 [(1, .int _), (0, .ref _)] dX5_firstFault_26 ci_1 rfl (Nat.le_of_ble_eq_true rfl) rfl ?_
        refine G_goto (pc := 29) 2 dX5_firstFault_29 (by decide) ?_
        refine G_loc [1, 0] [(0, .ref _), (1, .int _)] rfl ?_
        exact ih _ _ _ h
      · replace h := itp c6 h
        refine G_iload_n (pc := 24) 1 dX5_firstFault_24 rfl ?_
        obtain rfl := Option.some.inj h
        exact G_iret (pc := 25) rfl dX5_firstFault_25
def F_X5_firstFault_3  (μ : Mm) : Option (Int32 × Mm) := L_X5_firstFault_3_2 FUEL 0 μ
set_option maxRecDepth 100000 in
set_option maxHeartbeats 4000000 in
theorem S_X5_firstFault_3   (μ : Mm) (q : (Int32 × Mm)) (h : F_X5_firstFault_3  μ = some q) : Cn wC yX5_firstFault cX5_firstFault 2 (some .int) 2 [.ref 3] μ (some (.int q.1)) q.2 := by
  refine Cn_of (by decide +kernel) (Nat.le_of_ble_eq_true rfl) ?_
  show G wC RX5 cX5_firstFault 2 (some .int) 2 (some (.int q.1)) q.2 0 [(0, .ref 3)] [] μ
  unfold F_X5_firstFault_3 at h
  refine G_iconst (pc := 0) (0) dX5_firstFault_0 ci_0 ?_
  refine G_istore_n (pc := 1) [(1, .int _), (0, .ref _)] dX5_firstFault_1 (Nat.le_of_ble_eq_true rfl) rfl ?_
  refine G_loc [1, 0] [(0, .ref _), (1, .int _)] rfl ?_
  exact B_X5_firstFault_3_2 _ _ _ _ h
def F_X5_append_3 (x1 : Int32) (μ : Mm) : Option (Int32 × Mm) := if (μ.1 3 1) < 15 then gi (μ.1 3 1) 15 ((F_X5_firstFault_3 (wI (wI μ 4 (μ.1 3 1).toNatClampNeg x1) 3 1 (((wI μ 4 (μ.1 3 1).toNatClampNeg x1).1 3 1) + 1))).bind (fun q3 => some (1, (wI q3.2 3 2 q3.1)))) else some (0, μ)
set_option maxRecDepth 100000 in
set_option maxHeartbeats 4000000 in
theorem S_X5_append_3 (x1 : Int32)  (μ : Mm) (q : (Int32 × Mm)) (h : F_X5_append_3 x1 μ = some q) : Cn wC yX5_append cX5_append 2 (some .boolean) 3 [.ref 3, .int x1] μ (some (.int q.1)) q.2 := by
  refine Cn_of (by decide +kernel) (Nat.le_of_ble_eq_true rfl) ?_
  show G wC RX5 cX5_append 2 (some .boolean) 3 (some (.int q.1)) q.2 0 [(0, .ref 3), (1, .int x1)] [] μ
  unfold F_X5_append_3 at h
  refine G_aload_n (pc := 0) 0 dX5_append_0 rfl ?_
  refine gwC_X5_9_3 (pc := 1) dX5_append_1 ?_
  refine G_aload_n (pc := 4) 0 dX5_append_4 rfl ?_
  refine gwC_X5_18_3 (pc := 5) dX5_append_5 ?_
  refine G_alen (pc := 8) 4 0 .int _ (15) dX5_append_8 (by decide) (fun _ _ => rfl) (fun _ => rfl) rfl ?_
  refine G_icmp_lt (pc := 9) 14 dX5_append_9 (by decide) (fun c1 => ?_) (fun c1 => ?_)
  · replace h := itp c1 h
    refine G_aload_n (pc := 14) 0 dX5_append_14 rfl ?_
    refine gwC_X5_18_3 (pc := 15) dX5_append_15 ?_
    refine G_aload_n (pc := 18) 0 dX5_append_18 rfl ?_
    refine gwC_X5_9_3 (pc := 19) dX5_append_19 ?_
    refine G_iload_n (pc := 22) 1 dX5_append_22 rfl ?_
    obtain ⟨g2, h⟩ := gi_some h
    refine aswC_4 (pc := 23) dX5_append_23 g2 ?_
    refine G_aload_n (pc := 24) 0 dX5_append_24 rfl ?_
    refine G_dup (pc := 25) dX5_append_25 rfl ?_
    refine gwC_X5_9_3 (pc := 26) dX5_append_26 ?_
    refine G_iconst (pc := 29) (1) dX5_append_29 ci_1 ?_
    refine G_iadd (pc := 30) dX5_append_30 ?_
    refine pwC_X5_9_3 (pc := 31) dX5_append_31 ?_
    refine G_aload_n (pc := 34) 0 dX5_append_34 rfl ?_
    refine G_aload_n (pc := 35) 0 dX5_append_35 rfl ?_
    obtain ⟨q3, e3, h⟩ := bnd_some h
    refine G_callU0r (pc := 36) 3 3 dX5_append_36 wu_X5_22_X3 rfl cd_X5_firstFault (S_X5_firstFault_3 _ _ e3) (by decide) (by decide) rfl (by decide) (fun _ _ => ⟨_, rfl⟩) (Nat.le_of_ble_eq_true rfl) ?_
    refine pwC_X5_15_3 (pc := 39) dX5_append_39 ?_
    refine G_iconst (pc := 42) (1) dX5_append_42 ci_1 ?_
    obtain rfl := Option.some.inj h
    exact G_zret (pc := 43) rfl (Or.inr rfl) dX5_append_43
  · replace h := itn c1 h
    refine G_iconst (pc := 12) (0) dX5_append_12 ci_0 ?_
    obtain rfl := Option.some.inj h
    exact G_zret (pc := 13) rfl (Or.inl rfl) dX5_append_13
def F_X3_mayEndAt_1_11  (μ : Mm) : Option (Int32 × Mm) := some (1, μ)
set_option maxRecDepth 100000 in
set_option maxHeartbeats 4000000 in
theorem B_X3_mayEndAt_1_11  (μ : Mm) (q : (Int32 × Mm))  (h : F_X3_mayEndAt_1_11   μ = some q) : G wC RX3 cX3_mayEndAt 2 (some .boolean) 0 (some (.int q.1)) q.2 11 [] [] μ := by
  unfold F_X3_mayEndAt_1_11 at h
  refine G_iconst (pc := 11) (1) dX3_mayEndAt_11 ci_1 ?_
  refine G_goto (pc := 12) 16 dX3_mayEndAt_12 (by decide) ?_
  obtain rfl := Option.some.inj h
  exact G_zret (pc := 16) rfl (Or.inr rfl) dX3_mayEndAt_16
def F_X3_mayEndAt_1 (x1 : Int32) (μ : Mm) : Option (Int32 × Mm) := if x1 = 0 then F_X3_mayEndAt_1_11 μ else if (x1 - x1 / 4 * 4) = 3 then F_X3_mayEndAt_1_11 μ else some (0, μ)
set_option maxRecDepth 100000 in
set_option maxHeartbeats 4000000 in
theorem S_X3_mayEndAt_1 (x1 : Int32)  (μ : Mm) (q : (Int32 × Mm)) (h : F_X3_mayEndAt_1 x1 μ = some q) : Cn wC yX3_mayEndAt cX3_mayEndAt 2 (some .boolean) 0 [.ref 1, .int x1] μ (some (.int q.1)) q.2 := by
  refine Cn_of (by decide +kernel) (Nat.le_of_ble_eq_true rfl) ?_
  show G wC RX3 cX3_mayEndAt 2 (some .boolean) 0 (some (.int q.1)) q.2 0 [(0, .ref 1), (1, .int x1)] [] μ
  unfold F_X3_mayEndAt_1 at h
  refine G_iload_n (pc := 0) 1 dX3_mayEndAt_0 rfl ?_
  refine G_if_eq (pc := 1) 11 dX3_mayEndAt_1 (by decide) (fun c1 => ?_) (fun c1 => ?_)
  · replace h := itp c1 h
    refine G_loc [] [] rfl ?_
    exact B_X3_mayEndAt_1_11 _ _ h
  · replace h := itn c1 h
    refine G_iload_n (pc := 4) 1 dX3_mayEndAt_4 rfl ?_
    refine G_iconst (pc := 5) (4) dX3_mayEndAt_5 ci_4 ?_
    refine G_irem (pc := 6) dX3_mayEndAt_6 (by decide) ?_
    refine G_iconst (pc := 7) (3) dX3_mayEndAt_7 ci_3 ?_
    refine G_icmp_ne (pc := 8) 15 dX3_mayEndAt_8 (by decide) (fun c2 => ?_) (fun c2 => ?_)
    · replace h := itn c2 h
      refine G_iconst (pc := 15) (0) dX3_mayEndAt_15 ci_0 ?_
      obtain rfl := Option.some.inj h
      exact G_zret (pc := 16) rfl (Or.inl rfl) dX3_mayEndAt_16
    · replace h := itp c2 h
      refine G_loc [] [] rfl ?_
      exact B_X3_mayEndAt_1_11 _ _ h
def F_X3_fits_1 (x1 : Int32) (x2 : Int32) (μ : Mm) : Option (Int32 × Mm) := if (x1 - x1 / 4 * 4) = 0 then (F_X3_sortOf x2 μ).bind (fun q9 => some ((if q9.1 = (-1) then 0 else 1), q9.2)) else if (x1 - x1 / 4 * 4) = 1 then (F_X5_isFigure x2 (μ.1 1 3) 9 μ).bind (fun q7 => gb q7.1 (some (q7.1, q7.2))) else if (x1 - x1 / 4 * 4) = 2 then (F_X5_isFigure x2 0 5 μ).bind (fun q5 => gb q5.1 (some (q5.1, q5.2))) else some ((if x2 = 59 then 1 else 0), μ)
set_option maxRecDepth 100000 in
set_option maxHeartbeats 4000000 in
theorem S_X3_fits_1 (x1 : Int32) (x2 : Int32)  (μ : Mm) (q : (Int32 × Mm)) (h : F_X3_fits_1 x1 x2 μ = some q) : Cn wC yX3_fits cX3_fits 3 (some .boolean) 1 [.ref 1, .int x1, .int x2] μ (some (.int q.1)) q.2 := by
  refine Cn_of (by decide +kernel) (Nat.le_of_ble_eq_true rfl) ?_
  show G wC RX3 cX3_fits 3 (some .boolean) 1 (some (.int q.1)) q.2 0 [(0, .ref 1), (1, .int x1), (2, .int x2)] [] μ
  unfold F_X3_fits_1 at h
  refine G_iload_n (pc := 0) 1 dX3_fits_0 rfl ?_
  refine G_iconst (pc := 1) (4) dX3_fits_1 ci_4 ?_
  refine G_irem (pc := 2) dX3_fits_2 (by decide) ?_
  by_cases c1 : (x1 - x1 / 4 * 4) = 0
  · replace h := itp c1 h
    refine G_tswV (pc := 3) 28 (0) c1 dX3_fits_3 (by decide) (by decide) rfl (by decide) ?_
    refine G_iload_n (pc := 28) 2 dX3_fits_28 rfl ?_
    obtain ⟨q9, e9, h⟩ := bnd_some h
    refine G_callS1r (pc := 29) dX3_fits_29 ws_X3_15 cd_X3_sortOf (S_X3_sortOf _ _ _ e9) (by decide) (by decide) (Nat.le_of_ble_eq_true rfl) ?_
    refine G_iconst (pc := 32) (-1) dX3_fits_32 ci_m1 ?_
    refine G_icmp_eq (pc := 33) 40 dX3_fits_33 (by decide) (fun c10 => ?_) (fun c10 => ?_)
    · rw [if_pos c10] at h
      refine G_iconst (pc := 40) (0) dX3_fits_40 ci_0 ?_
      obtain rfl := Option.some.inj h
      exact G_zret (pc := 41) rfl (Or.inl rfl) dX3_fits_41
    · rw [if_neg c10] at h
      refine G_iconst (pc := 36) (1) dX3_fits_36 ci_1 ?_
      refine G_goto (pc := 37) 41 dX3_fits_37 (by decide) ?_
      obtain rfl := Option.some.inj h
      exact G_zret (pc := 41) rfl (Or.inr rfl) dX3_fits_41
  · replace h := itn c1 h
    by_cases c2 : (x1 - x1 / 4 * 4) = 1
    · replace h := itp c2 h
      refine G_tswV (pc := 3) 42 (1) c2 dX3_fits_3 (by decide) (by decide) rfl (by decide) ?_
      refine G_iload_n (pc := 42) 2 dX3_fits_42 rfl ?_
      refine G_aload_n (pc := 43) 0 dX3_fits_43 rfl ?_
      refine gwC_X3_9_1 (pc := 44) dX3_fits_44 ?_
      refine G_bipush (pc := 47) (9) dX3_fits_47 bp_9 ?_
      obtain ⟨q7, e7, h⟩ := bnd_some h
      refine G_callX3r (pc := 49) dX3_fits_49 wx_X3_19 rfl cd_X5_isFigure (S_X5_isFigure _ _ _ _ _ e7) (by decide) (by decide) (Nat.le_of_ble_eq_true rfl) ?_
      obtain ⟨g8, h⟩ := gb_some h
      obtain rfl := Option.some.inj h
      exact G_zret (pc := 52) rfl g8 dX3_fits_52
    · replace h := itn c2 h
      by_cases c3 : (x1 - x1 / 4 * 4) = 2
      · replace h := itp c3 h
        refine G_tswV (pc := 3) 53 (2) c3 dX3_fits_3 (by decide) (by decide) rfl (by decide) ?_
        refine G_iload_n (pc := 53) 2 dX3_fits_53 rfl ?_
        refine G_iconst (pc := 54) (0) dX3_fits_54 ci_0 ?_
        refine G_iconst (pc := 55) (5) dX3_fits_55 ci_5 ?_
        obtain ⟨q5, e5, h⟩ := bnd_some h
        refine G_callX3r (pc := 56) dX3_fits_56 wx_X3_19 rfl cd_X5_isFigure (S_X5_isFigure _ _ _ _ _ e5) (by decide) (by decide) (Nat.le_of_ble_eq_true rfl) ?_
        obtain ⟨g6, h⟩ := gb_some h
        obtain rfl := Option.some.inj h
        exact G_zret (pc := 59) rfl g6 dX3_fits_59
      · replace h := itn c3 h
        refine G_tswOut (pc := 3) 60 dX3_fits_3 (tswO 3 (by decide) (lt_s (lt_s (lt_s lt_0 c1) c2) c3)) (by decide) ?_
        refine G_iload_n (pc := 60) 2 dX3_fits_60 rfl ?_
        refine G_bipush (pc := 61) (59) dX3_fits_61 bp_59 ?_
        refine G_icmp_ne (pc := 63) 70 dX3_fits_63 (by decide) (fun c4 => ?_) (fun c4 => ?_)
        · rw [if_neg c4] at h
          refine G_iconst (pc := 70) (0) dX3_fits_70 ci_0 ?_
          obtain rfl := Option.some.inj h
          exact G_zret (pc := 71) rfl (Or.inl rfl) dX3_fits_71
        · rw [if_pos c4] at h
          refine G_iconst (pc := 66) (1) dX3_fits_66 ci_1 ?_
          refine G_goto (pc := 67) 71 dX3_fits_67 (by decide) ?_
          obtain rfl := Option.some.inj h
          exact G_zret (pc := 71) rfl (Or.inr rfl) dX3_fits_71
def L_X5_firstFault_1_2 : Nat → Int32 → Mm → Option (Int32 × Mm)
  | 0, _, _ => none
  | n + 1, x1, μ => if (μ.1 1 1) ≤ x1 then (F_X3_mayEndAt_1 (μ.1 1 1) μ).bind (fun q2 => some ((if q2.1 = 0 then (q2.2.1 1 1) else (-1)), q2.2)) else gi x1 39 ((F_X3_fits_1 x1 (μ.1 2 x1.toNatClampNeg) μ).bind (fun q5 => if q5.1 = 0 then some (x1, q5.2) else L_X5_firstFault_1_2 n (x1 + 1) q5.2))
set_option maxRecDepth 100000 in
set_option maxHeartbeats 4000000 in
theorem L_X5_firstFault_1_2_s (n : Nat) (x1 : Int32) (μ : Mm) : L_X5_firstFault_1_2  (n + 1) x1 μ = (if (μ.1 1 1) ≤ x1 then (F_X3_mayEndAt_1 (μ.1 1 1) μ).bind (fun q2 => some ((if q2.1 = 0 then (q2.2.1 1 1) else (-1)), q2.2)) else gi x1 39 ((F_X3_fits_1 x1 (μ.1 2 x1.toNatClampNeg) μ).bind (fun q5 => if q5.1 = 0 then some (x1, q5.2) else L_X5_firstFault_1_2 n (x1 + 1) q5.2))) := rfl
set_option maxRecDepth 100000 in
set_option maxHeartbeats 4000000 in
theorem B_X5_firstFault_1_2 : ∀ (n : Nat) (x1 : Int32) (μ : Mm) (q : (Int32 × Mm)), L_X5_firstFault_1_2  n x1 μ = some q → G wC RX5 cX5_firstFault 2 (some .int) 2 (some (.int q.1)) q.2 2 [(0, .ref 1), (1, .int x1)] [] μ := by
  intro n
  induction n with
  | zero =>
    intro x1 μ q  h
    cases h
  | succ n ih =>
    intro x1 μ q  h
    rw [L_X5_firstFault_1_2_s] at h
    refine G_iload_n (pc := 2) 1 dX5_firstFault_2 rfl ?_
    refine G_aload_n (pc := 3) 0 dX5_firstFault_3 rfl ?_
    refine gwC_X5_9_1 (pc := 4) dX5_firstFault_4 ?_
    refine G_icmp_ge (pc := 7) 32 dX5_firstFault_7 (by decide) (fun c1 => ?_) (fun c1 => ?_)
    · replace h := itp c1 h
      refine G_aload_n (pc := 32) 0 dX5_firstFault_32 rfl ?_
      refine G_aload_n (pc := 33) 0 dX5_firstFault_33 rfl ?_
      refine gwC_X5_9_1 (pc := 34) dX5_firstFault_34 ?_
      obtain ⟨q2, e2, h⟩ := bnd_some h
      refine G_callA1r (pc := 37) 1 3 dX5_firstFault_37 wu_X5_30_X3 (fun _ h => h.2.1) cd_X3_mayEndAt (S_X3_mayEndAt_1 _ _ _ e2) (by decide) (by decide) rfl (by decide) (fun _ _ => ⟨_, rfl⟩) (Nat.le_of_ble_eq_true rfl) ?_
      refine G_if_eq (pc := 40) 47 dX5_firstFault_40 (by decide) (fun c3 => ?_) (fun c3 => ?_)
      · rw [if_pos c3] at h
        refine G_aload_n (pc := 47) 0 dX5_firstFault_47 rfl ?_
        refine gwC_X5_9_1 (pc := 48) dX5_firstFault_48 ?_
        obtain rfl := Option.some.inj h
        exact G_iret (pc := 51) rfl dX5_firstFault_51
      · rw [if_neg c3] at h
        refine G_iconst (pc := 43) (-1) dX5_firstFault_43 ci_m1 ?_
        refine G_goto (pc := 44) 51 dX5_firstFault_44 (by decide) ?_
        obtain rfl := Option.some.inj h
        exact G_iret (pc := 51) rfl dX5_firstFault_51
    · replace h := itn c1 h
      refine G_aload_n (pc := 10) 0 dX5_firstFault_10 rfl ?_
      refine G_iload_n (pc := 11) 1 dX5_firstFault_11 rfl ?_
      refine G_aload_n (pc := 12) 0 dX5_firstFault_12 rfl ?_
      refine gwC_X5_18_1 (pc := 13) dX5_firstFault_13 ?_
      refine G_iload_n (pc := 16) 1 dX5_firstFault_16 rfl ?_
      obtain ⟨g4, h⟩ := gi_some h
      refine alwC_2 (pc := 17) dX5_firstFault_17 g4 ?_
      obtain ⟨q5, e5, h⟩ := bnd_some h
      refine G_callA2r (pc := 18) 1 3 dX5_firstFault_18 wu_X5_26_X3 (fun _ h => h.1) cd_X3_fits (S_X3_fits_1 _ _ _ _ e5) (by decide) (by decide) rfl (by decide) (fun _ _ => ⟨_, rfl⟩) (Nat.le_of_ble_eq_true rfl) ?_
      refine G_if_ne (pc := 21) 26 dX5_firstFault_21 (by decide) (fun c6 => ?_) (fun c6 => ?_)
      · replace h := itn c6 h
        refine G_iinc (pc := 26) (1) 1 [(1, .int _), (0, .ref _)] dX5_firstFault_26 ci_1 rfl (Nat.le_of_ble_eq_true rfl) rfl ?_
        refine G_goto (pc := 29) 2 dX5_firstFault_29 (by decide) ?_
        refine G_loc [1, 0] [(0, .ref _), (1, .int _)] rfl ?_
        exact ih _ _ _ h
      · replace h := itp c6 h
        refine G_iload_n (pc := 24) 1 dX5_firstFault_24 rfl ?_
        obtain rfl := Option.some.inj h
        exact G_iret (pc := 25) rfl dX5_firstFault_25
def F_X5_firstFault_1  (μ : Mm) : Option (Int32 × Mm) := L_X5_firstFault_1_2 FUEL 0 μ
set_option maxRecDepth 100000 in
set_option maxHeartbeats 4000000 in
theorem S_X5_firstFault_1   (μ : Mm) (q : (Int32 × Mm)) (h : F_X5_firstFault_1  μ = some q) : Cn wC yX5_firstFault cX5_firstFault 2 (some .int) 2 [.ref 1] μ (some (.int q.1)) q.2 := by
  refine Cn_of (by decide +kernel) (Nat.le_of_ble_eq_true rfl) ?_
  show G wC RX5 cX5_firstFault 2 (some .int) 2 (some (.int q.1)) q.2 0 [(0, .ref 1)] [] μ
  unfold F_X5_firstFault_1 at h
  refine G_iconst (pc := 0) (0) dX5_firstFault_0 ci_0 ?_
  refine G_istore_n (pc := 1) [(1, .int _), (0, .ref _)] dX5_firstFault_1 (Nat.le_of_ble_eq_true rfl) rfl ?_
  refine G_loc [1, 0] [(0, .ref _), (1, .int _)] rfl ?_
  exact B_X5_firstFault_1_2 _ _ _ _ h
def F_X5_append_1 (x1 : Int32) (μ : Mm) : Option (Int32 × Mm) := if (μ.1 1 1) < 39 then gi (μ.1 1 1) 39 ((F_X5_firstFault_1 (wI (wI μ 2 (μ.1 1 1).toNatClampNeg x1) 1 1 (((wI μ 2 (μ.1 1 1).toNatClampNeg x1).1 1 1) + 1))).bind (fun q3 => some (1, (wI q3.2 1 2 q3.1)))) else some (0, μ)
set_option maxRecDepth 100000 in
set_option maxHeartbeats 4000000 in
theorem S_X5_append_1 (x1 : Int32)  (μ : Mm) (q : (Int32 × Mm)) (h : F_X5_append_1 x1 μ = some q) : Cn wC yX5_append cX5_append 2 (some .boolean) 3 [.ref 1, .int x1] μ (some (.int q.1)) q.2 := by
  refine Cn_of (by decide +kernel) (Nat.le_of_ble_eq_true rfl) ?_
  show G wC RX5 cX5_append 2 (some .boolean) 3 (some (.int q.1)) q.2 0 [(0, .ref 1), (1, .int x1)] [] μ
  unfold F_X5_append_1 at h
  refine G_aload_n (pc := 0) 0 dX5_append_0 rfl ?_
  refine gwC_X5_9_1 (pc := 1) dX5_append_1 ?_
  refine G_aload_n (pc := 4) 0 dX5_append_4 rfl ?_
  refine gwC_X5_18_1 (pc := 5) dX5_append_5 ?_
  refine G_alen (pc := 8) 2 0 .int _ (39) dX5_append_8 (by decide) (fun _ _ => rfl) (fun _ => rfl) rfl ?_
  refine G_icmp_lt (pc := 9) 14 dX5_append_9 (by decide) (fun c1 => ?_) (fun c1 => ?_)
  · replace h := itp c1 h
    refine G_aload_n (pc := 14) 0 dX5_append_14 rfl ?_
    refine gwC_X5_18_1 (pc := 15) dX5_append_15 ?_
    refine G_aload_n (pc := 18) 0 dX5_append_18 rfl ?_
    refine gwC_X5_9_1 (pc := 19) dX5_append_19 ?_
    refine G_iload_n (pc := 22) 1 dX5_append_22 rfl ?_
    obtain ⟨g2, h⟩ := gi_some h
    refine aswC_2 (pc := 23) dX5_append_23 g2 ?_
    refine G_aload_n (pc := 24) 0 dX5_append_24 rfl ?_
    refine G_dup (pc := 25) dX5_append_25 rfl ?_
    refine gwC_X5_9_1 (pc := 26) dX5_append_26 ?_
    refine G_iconst (pc := 29) (1) dX5_append_29 ci_1 ?_
    refine G_iadd (pc := 30) dX5_append_30 ?_
    refine pwC_X5_9_1 (pc := 31) dX5_append_31 ?_
    refine G_aload_n (pc := 34) 0 dX5_append_34 rfl ?_
    refine G_aload_n (pc := 35) 0 dX5_append_35 rfl ?_
    obtain ⟨q3, e3, h⟩ := bnd_some h
    refine G_callU0r (pc := 36) 1 3 dX5_append_36 wu_X5_22_X3 rfl cd_X5_firstFault (S_X5_firstFault_1 _ _ e3) (by decide) (by decide) rfl (by decide) (fun _ _ => ⟨_, rfl⟩) (Nat.le_of_ble_eq_true rfl) ?_
    refine pwC_X5_15_1 (pc := 39) dX5_append_39 ?_
    refine G_iconst (pc := 42) (1) dX5_append_42 ci_1 ?_
    obtain rfl := Option.some.inj h
    exact G_zret (pc := 43) rfl (Or.inr rfl) dX5_append_43
  · replace h := itn c1 h
    refine G_iconst (pc := 12) (0) dX5_append_12 ci_0 ?_
    obtain rfl := Option.some.inj h
    exact G_zret (pc := 13) rfl (Or.inl rfl) dX5_append_13
def F_X8_type (x1 : Int32) (x2 : Int32) (μ : Mm) : Option (Int32 × Mm) := (F_X8_textOf x1 μ).bind (fun q1 => if q1.1 = .ref 1 then if x2 < 0 then some ((-2), q1.2) else if x2 ≤ 255 then (F_X5_append_1 x2 q1.2).bind (fun q16 => some ((if q16.1 = 0 then (-4) else (q16.2.1 1 1)), q16.2)) else some ((-2), q1.2) else if q1.1 = .ref 3 then if x2 < 0 then some ((-2), q1.2) else if x2 ≤ 255 then (F_X5_append_3 x2 q1.2).bind (fun q11 => some ((if q11.1 = 0 then (-4) else (q11.2.1 3 1)), q11.2)) else some ((-2), q1.2) else if q1.1 = .ref 5 then if x2 < 0 then some ((-2), q1.2) else if x2 ≤ 255 then (F_X5_append_5 x2 q1.2).bind (fun q6 => some ((if q6.1 = 0 then (-4) else (q6.2.1 5 1)), q6.2)) else some ((-2), q1.2) else if q1.1 = .null then some ((-2), q1.2) else none)
set_option maxRecDepth 100000 in
set_option maxHeartbeats 4000000 in
theorem S_X8_type (x1 : Int32) (x2 : Int32)  (μ : Mm) (q : (Int32 × Mm)) (h : F_X8_type x1 x2 μ = some q) : Cn wC yX8_type cX8_type 4 (some .int) 4 [.ref 0, .int x1, .int x2] μ (some (.int q.1)) q.2 := by
  refine Cn_of (by decide +kernel) (Nat.le_of_ble_eq_true rfl) ?_
  show G wC RX8 cX8_type 4 (some .int) 4 (some (.int q.1)) q.2 0 [(0, .ref 0), (1, .int x1), (2, .int x2)] [] μ
  unfold F_X8_type at h
  refine G_aload_n (pc := 0) 0 dX8_type_0 rfl ?_
  refine G_iload_n (pc := 1) 1 dX8_type_1 rfl ?_
  obtain ⟨q1, e1, h⟩ := bnd_some h
  refine G_callV1r (pc := 2) 0 7 dX8_type_2 wv_X8_80 cd_X8_textOf (S_X8_textOf _ _ _ e1) (by decide) (by decide) rfl (by decide) (fun _ _ => ⟨_, rfl⟩) (Nat.le_of_ble_eq_true rfl) ?_
  by_cases c13 : q1.1 = .ref 1
  · replace h := itp c13 h
    refine G_val c13 ?_
    refine G_astore_n (pc := 5) [(3, .ref _), (0, .ref _), (1, .int _), (2, .int _)] dX8_type_5 (Nat.le_of_ble_eq_true rfl) rfl ?_
    refine G_aload_n (pc := 6) 0 dX8_type_6 rfl ?_
    refine G_ifnull (pc := 7) dX8_type_7 ?_
    refine G_iload_n (pc := 10) 3 dX8_type_10 rfl ?_
    refine G_if_lt (pc := 11) 21 dX8_type_11 (by decide) (fun c14 => ?_) (fun c14 => ?_)
    · replace h := itp c14 h
      refine G_bipush (pc := 21) (-2) dX8_type_21 bp_m2 ?_
      obtain rfl := Option.some.inj h
      exact G_iret (pc := 23) rfl dX8_type_23
    · replace h := itn c14 h
      refine G_iload_n (pc := 14) 3 dX8_type_14 rfl ?_
      refine G_sipush (pc := 15) (255) dX8_type_15 sp_255 ?_
      refine G_icmp_le (pc := 18) 24 dX8_type_18 (by decide) (fun c15 => ?_) (fun c15 => ?_)
      · replace h := itp c15 h
        refine G_aload_n (pc := 24) 0 dX8_type_24 rfl ?_
        refine G_iload_n (pc := 25) 3 dX8_type_25 rfl ?_
        obtain ⟨q16, e16, h⟩ := bnd_some h
        refine G_callU1r (pc := 26) 1 3 dX8_type_26 wu_X8_84_X3 rfl cd_X5_append (S_X5_append_1 _ _ _ e16) (by decide) (by decide) rfl (by decide) (fun _ _ => ⟨_, rfl⟩) (Nat.le_of_ble_eq_true rfl) ?_
        refine G_if_eq (pc := 29) 39 dX8_type_29 (by decide) (fun c17 => ?_) (fun c17 => ?_)
        · rw [if_pos c17] at h
          refine G_bipush (pc := 39) (-4) dX8_type_39 bp_m4 ?_
          obtain rfl := Option.some.inj h
          exact G_iret (pc := 41) rfl dX8_type_41
        · rw [if_neg c17] at h
          refine G_aload_n (pc := 32) 0 dX8_type_32 rfl ?_
          refine gwC_X8_90_1 (pc := 33) dX8_type_33 ?_
          refine G_goto (pc := 36) 41 dX8_type_36 (by decide) ?_
          obtain rfl := Option.some.inj h
          exact G_iret (pc := 41) rfl dX8_type_41
      · replace h := itn c15 h
        refine G_bipush (pc := 21) (-2) dX8_type_21 bp_m2 ?_
        obtain rfl := Option.some.inj h
        exact G_iret (pc := 23) rfl dX8_type_23
  · replace h := itn c13 h
    by_cases c8 : q1.1 = .ref 3
    · replace h := itp c8 h
      refine G_val c8 ?_
      refine G_astore_n (pc := 5) [(3, .ref _), (0, .ref _), (1, .int _), (2, .int _)] dX8_type_5 (Nat.le_of_ble_eq_true rfl) rfl ?_
      refine G_aload_n (pc := 6) 0 dX8_type_6 rfl ?_
      refine G_ifnull (pc := 7) dX8_type_7 ?_
      refine G_iload_n (pc := 10) 3 dX8_type_10 rfl ?_
      refine G_if_lt (pc := 11) 21 dX8_type_11 (by decide) (fun c9 => ?_) (fun c9 => ?_)
      · replace h := itp c9 h
        refine G_bipush (pc := 21) (-2) dX8_type_21 bp_m2 ?_
        obtain rfl := Option.some.inj h
        exact G_iret (pc := 23) rfl dX8_type_23
      · replace h := itn c9 h
        refine G_iload_n (pc := 14) 3 dX8_type_14 rfl ?_
        refine G_sipush (pc := 15) (255) dX8_type_15 sp_255 ?_
        refine G_icmp_le (pc := 18) 24 dX8_type_18 (by decide) (fun c10 => ?_) (fun c10 => ?_)
        · replace h := itp c10 h
          refine G_aload_n (pc := 24) 0 dX8_type_24 rfl ?_
          refine G_iload_n (pc := 25) 3 dX8_type_25 rfl ?_
          obtain ⟨q11, e11, h⟩ := bnd_some h
          refine G_callU1r (pc := 26) 3 3 dX8_type_26 wu_X8_84_X3 rfl cd_X5_append (S_X5_append_3 _ _ _ e11) (by decide) (by decide) rfl (by decide) (fun _ _ => ⟨_, rfl⟩) (Nat.le_of_ble_eq_true rfl) ?_
          refine G_if_eq (pc := 29) 39 dX8_type_29 (by decide) (fun c12 => ?_) (fun c12 => ?_)
          · rw [if_pos c12] at h
            refine G_bipush (pc := 39) (-4) dX8_type_39 bp_m4 ?_
            obtain rfl := Option.some.inj h
            exact G_iret (pc := 41) rfl dX8_type_41
          · rw [if_neg c12] at h
            refine G_aload_n (pc := 32) 0 dX8_type_32 rfl ?_
            refine gwC_X8_90_3 (pc := 33) dX8_type_33 ?_
            refine G_goto (pc := 36) 41 dX8_type_36 (by decide) ?_
            obtain rfl := Option.some.inj h
            exact G_iret (pc := 41) rfl dX8_type_41
        · replace h := itn c10 h
          refine G_bipush (pc := 21) (-2) dX8_type_21 bp_m2 ?_
          obtain rfl := Option.some.inj h
          exact G_iret (pc := 23) rfl dX8_type_23
    · replace h := itn c8 h
      by_cases c3 : q1.1 = .ref 5
      · replace h := itp c3 h
        refine G_val c3 ?_
        refine G_astore_n (pc := 5) [(3, .ref _), (0, .ref _), (1, .int _), (2, .int _)] dX8_type_5 (Nat.le_of_ble_eq_true rfl) rfl ?_
        refine G_aload_n (pc := 6) 0 dX8_type_6 rfl ?_
        refine G_ifnull (pc := 7) dX8_type_7 ?_
        refine G_iload_n (pc := 10) 3 dX8_type_10 rfl ?_
        refine G_if_lt (pc := 11) 21 dX8_type_11 (by decide) (fun c4 => ?_) (fun c4 => ?_)
        · replace h := itp c4 h
          refine G_bipush (pc := 21) (-2) dX8_type_21 bp_m2 ?_
          obtain rfl := Option.some.inj h
          exact G_iret (pc := 23) rfl dX8_type_23
        · replace h := itn c4 h
          refine G_iload_n (pc := 14) 3 dX8_type_14 rfl ?_
          refine G_sipush (pc := 15) (255) dX8_type_15 sp_255 ?_
          refine G_icmp_le (pc := 18) 24 dX8_type_18 (by decide) (fun c5 => ?_) (fun c5 => ?_)
          · replace h := itp c5 h
            refine G_aload_n (pc := 24) 0 dX8_type_24 rfl ?_
            refine G_iload_n (pc := 25) 3 dX8_type_25 rfl ?_
            obtain ⟨q6, e6, h⟩ := bnd_some h
            refine G_callU1r (pc := 26) 5 5 dX8_type_26 wu_X8_84_X6 rfl cd_X5_append (S_X5_append_5 _ _ _ e6) (by decide) (by decide) rfl (by decide) (fun _ _ => ⟨_, rfl⟩) (Nat.le_of_ble_eq_true rfl) ?_
            refine G_if_eq (pc := 29) 39 dX8_type_29 (by decide) (fun c7 => ?_) (fun c7 => ?_)
            · rw [if_pos c7] at h
              refine G_bipush (pc := 39) (-4) dX8_type_39 bp_m4 ?_
              obtain rfl := Option.some.inj h
              exact G_iret (pc := 41) rfl dX8_type_41
            · rw [if_neg c7] at h
              refine G_aload_n (pc := 32) 0 dX8_type_32 rfl ?_
              refine gwC_X8_90_5 (pc := 33) dX8_type_33 ?_
              refine G_goto (pc := 36) 41 dX8_type_36 (by decide) ?_
              obtain rfl := Option.some.inj h
              exact G_iret (pc := 41) rfl dX8_type_41
          · replace h := itn c5 h
            refine G_bipush (pc := 21) (-2) dX8_type_21 bp_m2 ?_
            obtain rfl := Option.some.inj h
            exact G_iret (pc := 23) rfl dX8_type_23
      · replace h := itn c3 h
        by_cases c2 : q1.1 = .null
        · replace h := itp c2 h
          refine G_val c2 ?_
          refine G_astore_nN (pc := 5) [(3, .null), (0, .ref _), (1, .int _), (2, .int _)] dX8_type_5 (Nat.le_of_ble_eq_true rfl) rfl ?_
          refine G_aload_nN (pc := 6) 0 dX8_type_6 rfl ?_
          refine G_ifnullN (pc := 7) 21 dX8_type_7 (by decide) ?_
          refine G_bipush (pc := 21) (-2) dX8_type_21 bp_m2 ?_
          obtain rfl := Option.some.inj h
          exact G_iret (pc := 23) rfl dX8_type_23
        · replace h := itn c2 h
          cases h
def F_X5_shorten_5 (x1 : Int32) (μ : Mm) : Option Mm := (F_X5_firstFault_5 (wI μ 5 1 x1)).bind (fun q1 => some (wI q1.2 5 2 q1.1))
set_option maxRecDepth 100000 in
set_option maxHeartbeats 4000000 in
theorem S_X5_shorten_5 (x1 : Int32)  (μ : Mm) (q : Mm) (h : F_X5_shorten_5 x1 μ = some q) : Cn wC yX5_shorten cX5_shorten 2 none 3 [.ref 5, .int x1] μ none q := by
  refine Cn_of (by decide +kernel) (Nat.le_of_ble_eq_true rfl) ?_
  show G wC RX5 cX5_shorten 2 none 3 none q 0 [(0, .ref 5), (1, .int x1)] [] μ
  unfold F_X5_shorten_5 at h
  refine G_aload_n (pc := 0) 0 dX5_shorten_0 rfl ?_
  refine G_iload_n (pc := 1) 1 dX5_shorten_1 rfl ?_
  refine pwC_X5_9_5 (pc := 2) dX5_shorten_2 ?_
  refine G_aload_n (pc := 5) 0 dX5_shorten_5 rfl ?_
  refine G_aload_n (pc := 6) 0 dX5_shorten_6 rfl ?_
  obtain ⟨q1, e1, h⟩ := bnd_some h
  refine G_callU0r (pc := 7) 5 5 dX5_shorten_7 wu_X5_22_X6 rfl cd_X5_firstFault (S_X5_firstFault_5 _ _ e1) (by decide) (by decide) rfl (by decide) (fun _ _ => ⟨_, rfl⟩) (Nat.le_of_ble_eq_true rfl) ?_
  refine pwC_X5_15_5 (pc := 10) dX5_shorten_10 ?_
  obtain rfl := Option.some.inj h
  exact G_vret (pc := 13) rfl dX5_shorten_13
def F_X5_shorten_3 (x1 : Int32) (μ : Mm) : Option Mm := (F_X5_firstFault_3 (wI μ 3 1 x1)).bind (fun q1 => some (wI q1.2 3 2 q1.1))
set_option maxRecDepth 100000 in
set_option maxHeartbeats 4000000 in
theorem S_X5_shorten_3 (x1 : Int32)  (μ : Mm) (q : Mm) (h : F_X5_shorten_3 x1 μ = some q) : Cn wC yX5_shorten cX5_shorten 2 none 3 [.ref 3, .int x1] μ none q := by
  refine Cn_of (by decide +kernel) (Nat.le_of_ble_eq_true rfl) ?_
  show G wC RX5 cX5_shorten 2 none 3 none q 0 [(0, .ref 3), (1, .int x1)] [] μ
  unfold F_X5_shorten_3 at h
  refine G_aload_n (pc := 0) 0 dX5_shorten_0 rfl ?_
  refine G_iload_n (pc := 1) 1 dX5_shorten_1 rfl ?_
  refine pwC_X5_9_3 (pc := 2) dX5_shorten_2 ?_
  refine G_aload_n (pc := 5) 0 dX5_shorten_5 rfl ?_
  refine G_aload_n (pc := 6) 0 dX5_shorten_6 rfl ?_
  obtain ⟨q1, e1, h⟩ := bnd_some h
  refine G_callU0r (pc := 7) 3 3 dX5_shorten_7 wu_X5_22_X3 rfl cd_X5_firstFault (S_X5_firstFault_3 _ _ e1) (by decide) (by decide) rfl (by decide) (fun _ _ => ⟨_, rfl⟩) (Nat.le_of_ble_eq_true rfl) ?_
  refine pwC_X5_15_3 (pc := 10) dX5_shorten_10 ?_
  obtain rfl := Option.some.inj h
  exact G_vret (pc := 13) rfl dX5_shorten_13
def F_X5_shorten_1 (x1 : Int32) (μ : Mm) : Option Mm := (F_X5_firstFault_1 (wI μ 1 1 x1)).bind (fun q1 => some (wI q1.2 1 2 q1.1))
set_option maxRecDepth 100000 in
set_option maxHeartbeats 4000000 in
theorem S_X5_shorten_1 (x1 : Int32)  (μ : Mm) (q : Mm) (h : F_X5_shorten_1 x1 μ = some q) : Cn wC yX5_shorten cX5_shorten 2 none 3 [.ref 1, .int x1] μ none q := by
  refine Cn_of (by decide +kernel) (Nat.le_of_ble_eq_true rfl) ?_
  show G wC RX5 cX5_shorten 2 none 3 none q 0 [(0, .ref 1), (1, .int x1)] [] μ
  unfold F_X5_shorten_1 at h
  refine G_aload_n (pc := 0) 0 dX5_shorten_0 rfl ?_
  refine G_iload_n (pc := 1) 1 dX5_shorten_1 rfl ?_
  refine pwC_X5_9_1 (pc := 2) dX5_shorten_2 ?_
  refine G_aload_n (pc := 5) 0 dX5_shorten_5 rfl ?_
  refine G_aload_n (pc := 6) 0 dX5_shorten_6 rfl ?_
  obtain ⟨q1, e1, h⟩ := bnd_some h
  refine G_callU0r (pc := 7) 1 3 dX5_shorten_7 wu_X5_22_X3 rfl cd_X5_firstFault (S_X5_firstFault_1 _ _ e1) (by decide) (by decide) rfl (by decide) (fun _ _ => ⟨_, rfl⟩) (Nat.le_of_ble_eq_true rfl) ?_
  refine pwC_X5_15_1 (pc := 10) dX5_shorten_10 ?_
  obtain rfl := Option.some.inj h
  exact G_vret (pc := 13) rfl dX5_shorten_13
def F_X8_wipe (x1 : Int32) (μ : Mm) : Option (Int32 × Mm) := (F_X8_textOf x1 μ).bind (fun q1 => if q1.1 = .ref 1 then (F_X5_shorten_1 0 q1.2).bind (fun q8 => some ((q1.2.1 1 1), q8)) else if q1.1 = .ref 3 then (F_X5_shorten_3 0 q1.2).bind (fun q6 => some ((q1.2.1 3 1), q6)) else if q1.1 = .ref 5 then (F_X5_shorten_5 0 q1.2).bind (fun q4 => some ((q1.2.1 5 1), q4)) else if q1.1 = .null then some ((-2), q1.2) else none)
set_option maxRecDepth 100000 in
set_option maxHeartbeats 4000000 in
theorem S_X8_wipe (x1 : Int32)  (μ : Mm) (q : (Int32 × Mm)) (h : F_X8_wipe x1 μ = some q) : Cn wC yX8_wipe cX8_wipe 4 (some .int) 4 [.ref 0, .int x1] μ (some (.int q.1)) q.2 := by
  refine Cn_of (by decide +kernel) (Nat.le_of_ble_eq_true rfl) ?_
  show G wC RX8 cX8_wipe 4 (some .int) 4 (some (.int q.1)) q.2 0 [(0, .ref 0), (1, .int x1)] [] μ
  unfold F_X8_wipe at h
  refine G_aload_n (pc := 0) 0 dX8_wipe_0 rfl ?_
  refine G_iload_n (pc := 1) 1 dX8_wipe_1 rfl ?_
  obtain ⟨q1, e1, h⟩ := bnd_some h
  refine G_callV1r (pc := 2) 0 7 dX8_wipe_2 wv_X8_80 cd_X8_textOf (S_X8_textOf _ _ _ e1) (by decide) (by decide) rfl (by decide) (fun _ _ => ⟨_, rfl⟩) (Nat.le_of_ble_eq_true rfl) ?_
  by_cases c7 : q1.1 = .ref 1
  · replace h := itp c7 h
    refine G_val c7 ?_
    refine G_astore_n (pc := 5) [(2, .ref _), (0, .ref _), (1, .int _)] dX8_wipe_5 (Nat.le_of_ble_eq_true rfl) rfl ?_
    refine G_aload_n (pc := 6) 0 dX8_wipe_6 rfl ?_
    refine G_ifnonnull (pc := 7) 13 dX8_wipe_7 (by decide) ?_
    refine G_aload_n (pc := 13) 0 dX8_wipe_13 rfl ?_
    refine gwC_X8_90_1 (pc := 14) dX8_wipe_14 ?_
    refine G_istore_n (pc := 17) [(3, .int _), (2, .ref _), (0, .ref _), (1, .int _)] dX8_wipe_17 (Nat.le_of_ble_eq_true rfl) rfl ?_
    refine G_aload_n (pc := 18) 1 dX8_wipe_18 rfl ?_
    refine G_iconst (pc := 19) (0) dX8_wipe_19 ci_0 ?_
    obtain ⟨q8, e8, h⟩ := bnd_some h
    refine G_callU1v (pc := 20) 1 3 dX8_wipe_20 wu_X8_93_X3 rfl cd_X5_shorten (S_X5_shorten_1 _ _ _ e8) (by decide) (by decide) rfl (by decide) (fun _ _ => ⟨_, rfl⟩) (Nat.le_of_ble_eq_true rfl) ?_
    refine G_iload_n (pc := 23) 0 dX8_wipe_23 rfl ?_
    obtain rfl := Option.some.inj h
    exact G_iret (pc := 24) rfl dX8_wipe_24
  · replace h := itn c7 h
    by_cases c5 : q1.1 = .ref 3
    · replace h := itp c5 h
      refine G_val c5 ?_
      refine G_astore_n (pc := 5) [(2, .ref _), (0, .ref _), (1, .int _)] dX8_wipe_5 (Nat.le_of_ble_eq_true rfl) rfl ?_
      refine G_aload_n (pc := 6) 0 dX8_wipe_6 rfl ?_
      refine G_ifnonnull (pc := 7) 13 dX8_wipe_7 (by decide) ?_
      refine G_aload_n (pc := 13) 0 dX8_wipe_13 rfl ?_
      refine gwC_X8_90_3 (pc := 14) dX8_wipe_14 ?_
      refine G_istore_n (pc := 17) [(3, .int _), (2, .ref _), (0, .ref _), (1, .int _)] dX8_wipe_17 (Nat.le_of_ble_eq_true rfl) rfl ?_
      refine G_aload_n (pc := 18) 1 dX8_wipe_18 rfl ?_
      refine G_iconst (pc := 19) (0) dX8_wipe_19 ci_0 ?_
      obtain ⟨q6, e6, h⟩ := bnd_some h
      refine G_callU1v (pc := 20) 3 3 dX8_wipe_20 wu_X8_93_X3 rfl cd_X5_shorten (S_X5_shorten_3 _ _ _ e6) (by decide) (by decide) rfl (by decide) (fun _ _ => ⟨_, rfl⟩) (Nat.le_of_ble_eq_true rfl) ?_
      refine G_iload_n (pc := 23) 0 dX8_wipe_23 rfl ?_
      obtain rfl := Option.some.inj h
      exact G_iret (pc := 24) rfl dX8_wipe_24
    · replace h := itn c5 h
      by_cases c3 : q1.1 = .ref 5
      · replace h := itp c3 h
        refine G_val c3 ?_
        refine G_astore_n (pc := 5) [(2, .ref _), (0, .ref _), (1, .int _)] dX8_wipe_5 (Nat.le_of_ble_eq_true rfl) rfl ?_
        refine G_aload_n (pc := 6) 0 dX8_wipe_6 rfl ?_
        refine G_ifnonnull (pc := 7) 13 dX8_wipe_7 (by decide) ?_
        refine G_aload_n (pc := 13) 0 dX8_wipe_13 rfl ?_
        refine gwC_X8_90_5 (pc := 14) dX8_wipe_14 ?_
        refine G_istore_n (pc := 17) [(3, .int _), (2, .ref _), (0, .ref _), (1, .int _)] dX8_wipe_17 (Nat.le_of_ble_eq_true rfl) rfl ?_
        refine G_aload_n (pc := 18) 1 dX8_wipe_18 rfl ?_
        refine G_iconst (pc := 19) (0) dX8_wipe_19 ci_0 ?_
        obtain ⟨q4, e4, h⟩ := bnd_some h
        refine G_callU1v (pc := 20) 5 5 dX8_wipe_20 wu_X8_93_X6 rfl cd_X5_shorten (S_X5_shorten_5 _ _ _ e4) (by decide) (by decide) rfl (by decide) (fun _ _ => ⟨_, rfl⟩) (Nat.le_of_ble_eq_true rfl) ?_
        refine G_iload_n (pc := 23) 0 dX8_wipe_23 rfl ?_
        obtain rfl := Option.some.inj h
        exact G_iret (pc := 24) rfl dX8_wipe_24
      · replace h := itn c3 h
        by_cases c2 : q1.1 = .null
        · replace h := itp c2 h
          refine G_val c2 ?_
          refine G_astore_nN (pc := 5) [(2, .null), (0, .ref _), (1, .int _)] dX8_wipe_5 (Nat.le_of_ble_eq_true rfl) rfl ?_
          refine G_aload_nN (pc := 6) 0 dX8_wipe_6 rfl ?_
          refine G_ifnonnullN (pc := 7) dX8_wipe_7 ?_
          refine G_bipush (pc := 10) (-2) dX8_wipe_10 bp_m2 ?_
          obtain rfl := Option.some.inj h
          exact G_iret (pc := 12) rfl dX8_wipe_12
        · replace h := itn c2 h
          cases h
def F_X8_undo (x1 : Int32) (μ : Mm) : Option (Int32 × Mm) := (F_X8_textOf x1 μ).bind (fun q1 => if q1.1 = .ref 1 then if (q1.2.1 1 1) = 0 then some ((-3), q1.2) else (F_X5_shorten_1 ((q1.2.1 1 1) - 1) q1.2).bind (fun q11 => some ((q11.1 1 1), q11)) else if q1.1 = .ref 3 then if (q1.2.1 3 1) = 0 then some ((-3), q1.2) else (F_X5_shorten_3 ((q1.2.1 3 1) - 1) q1.2).bind (fun q8 => some ((q8.1 3 1), q8)) else if q1.1 = .ref 5 then if (q1.2.1 5 1) = 0 then some ((-3), q1.2) else (F_X5_shorten_5 ((q1.2.1 5 1) - 1) q1.2).bind (fun q5 => some ((q5.1 5 1), q5)) else if q1.1 = .null then some ((-2), q1.2) else none)
set_option maxRecDepth 100000 in
set_option maxHeartbeats 4000000 in
theorem S_X8_undo (x1 : Int32)  (μ : Mm) (q : (Int32 × Mm)) (h : F_X8_undo x1 μ = some q) : Cn wC yX8_undo cX8_undo 3 (some .int) 4 [.ref 0, .int x1] μ (some (.int q.1)) q.2 := by
  refine Cn_of (by decide +kernel) (Nat.le_of_ble_eq_true rfl) ?_
  show G wC RX8 cX8_undo 3 (some .int) 4 (some (.int q.1)) q.2 0 [(0, .ref 0), (1, .int x1)] [] μ
  unfold F_X8_undo at h
  refine G_aload_n (pc := 0) 0 dX8_undo_0 rfl ?_
  refine G_iload_n (pc := 1) 1 dX8_undo_1 rfl ?_
  obtain ⟨q1, e1, h⟩ := bnd_some h
  refine G_callV1r (pc := 2) 0 7 dX8_undo_2 wv_X8_80 cd_X8_textOf (S_X8_textOf _ _ _ e1) (by decide) (by decide) rfl (by decide) (fun _ _ => ⟨_, rfl⟩) (Nat.le_of_ble_eq_true rfl) ?_
  by_cases c9 : q1.1 = .ref 1
  · replace h := itp c9 h
    refine G_val c9 ?_
    refine G_astore_n (pc := 5) [(2, .ref _), (0, .ref _), (1, .int _)] dX8_undo_5 (Nat.le_of_ble_eq_true rfl) rfl ?_
    refine G_aload_n (pc := 6) 0 dX8_undo_6 rfl ?_
    refine G_ifnonnull (pc := 7) 13 dX8_undo_7 (by decide) ?_
    refine G_aload_n (pc := 13) 0 dX8_undo_13 rfl ?_
    refine gwC_X8_90_1 (pc := 14) dX8_undo_14 ?_
    refine G_if_ne (pc := 17) 23 dX8_undo_17 (by decide) (fun c10 => ?_) (fun c10 => ?_)
    · replace h := itn c10 h
      refine G_aload_n (pc := 23) 0 dX8_undo_23 rfl ?_
      refine G_aload_n (pc := 24) 0 dX8_undo_24 rfl ?_
      refine gwC_X8_90_1 (pc := 25) dX8_undo_25 ?_
      refine G_iconst (pc := 28) (1) dX8_undo_28 ci_1 ?_
      refine G_isub (pc := 29) dX8_undo_29 ?_
      obtain ⟨q11, e11, h⟩ := bnd_some h
      refine G_callU1v (pc := 30) 1 3 dX8_undo_30 wu_X8_93_X3 rfl cd_X5_shorten (S_X5_shorten_1 _ _ _ e11) (by decide) (by decide) rfl (by decide) (fun _ _ => ⟨_, rfl⟩) (Nat.le_of_ble_eq_true rfl) ?_
      refine G_aload_n (pc := 33) 0 dX8_undo_33 rfl ?_
      refine gwC_X8_90_1 (pc := 34) dX8_undo_34 ?_
      obtain rfl := Option.some.inj h
      exact G_iret (pc := 37) rfl dX8_undo_37
    · replace h := itp c10 h
      refine G_bipush (pc := 20) (-3) dX8_undo_20 bp_m3 ?_
      obtain rfl := Option.some.inj h
      exact G_iret (pc := 22) rfl dX8_undo_22
  · replace h := itn c9 h
    by_cases c6 : q1.1 = .ref 3
    · replace h := itp c6 h
      refine G_val c6 ?_
      refine G_astore_n (pc := 5) [(2, .ref _), (0, .ref _), (1, .int _)] dX8_undo_5 (Nat.le_of_ble_eq_true rfl) rfl ?_
      refine G_aload_n (pc := 6) 0 dX8_undo_6 rfl ?_
      refine G_ifnonnull (pc := 7) 13 dX8_undo_7 (by decide) ?_
      refine G_aload_n (pc := 13) 0 dX8_undo_13 rfl ?_
      refine gwC_X8_90_3 (pc := 14) dX8_undo_14 ?_
      refine G_if_ne (pc := 17) 23 dX8_undo_17 (by decide) (fun c7 => ?_) (fun c7 => ?_)
      · replace h := itn c7 h
        refine G_aload_n (pc := 23) 0 dX8_undo_23 rfl ?_
        refine G_aload_n (pc := 24) 0 dX8_undo_24 rfl ?_
        refine gwC_X8_90_3 (pc := 25) dX8_undo_25 ?_
        refine G_iconst (pc := 28) (1) dX8_undo_28 ci_1 ?_
        refine G_isub (pc := 29) dX8_undo_29 ?_
        obtain ⟨q8, e8, h⟩ := bnd_some h
        refine G_callU1v (pc := 30) 3 3 dX8_undo_30 wu_X8_93_X3 rfl cd_X5_shorten (S_X5_shorten_3 _ _ _ e8) (by decide) (by decide) rfl (by decide) (fun _ _ => ⟨_, rfl⟩) (Nat.le_of_ble_eq_true rfl) ?_
        refine G_aload_n (pc := 33) 0 dX8_undo_33 rfl ?_
        refine gwC_X8_90_3 (pc := 34) dX8_undo_34 ?_
        obtain rfl := Option.some.inj h
        exact G_iret (pc := 37) rfl dX8_undo_37
      · replace h := itp c7 h
        refine G_bipush (pc := 20) (-3) dX8_undo_20 bp_m3 ?_
        obtain rfl := Option.some.inj h
        exact G_iret (pc := 22) rfl dX8_undo_22
    · replace h := itn c6 h
      by_cases c3 : q1.1 = .ref 5
      · replace h := itp c3 h
        refine G_val c3 ?_
        refine G_astore_n (pc := 5) [(2, .ref _), (0, .ref _), (1, .int _)] dX8_undo_5 (Nat.le_of_ble_eq_true rfl) rfl ?_
        refine G_aload_n (pc := 6) 0 dX8_undo_6 rfl ?_
        refine G_ifnonnull (pc := 7) 13 dX8_undo_7 (by decide) ?_
        refine G_aload_n (pc := 13) 0 dX8_undo_13 rfl ?_
        refine gwC_X8_90_5 (pc := 14) dX8_undo_14 ?_
        refine G_if_ne (pc := 17) 23 dX8_undo_17 (by decide) (fun c4 => ?_) (fun c4 => ?_)
        · replace h := itn c4 h
          refine G_aload_n (pc := 23) 0 dX8_undo_23 rfl ?_
          refine G_aload_n (pc := 24) 0 dX8_undo_24 rfl ?_
          refine gwC_X8_90_5 (pc := 25) dX8_undo_25 ?_
          refine G_iconst (pc := 28) (1) dX8_undo_28 ci_1 ?_
          refine G_isub (pc := 29) dX8_undo_29 ?_
          obtain ⟨q5, e5, h⟩ := bnd_some h
          refine G_callU1v (pc := 30) 5 5 dX8_undo_30 wu_X8_93_X6 rfl cd_X5_shorten (S_X5_shorten_5 _ _ _ e5) (by decide) (by decide) rfl (by decide) (fun _ _ => ⟨_, rfl⟩) (Nat.le_of_ble_eq_true rfl) ?_
          refine G_aload_n (pc := 33) 0 dX8_undo_33 rfl ?_
          refine gwC_X8_90_5 (pc := 34) dX8_undo_34 ?_
          obtain rfl := Option.some.inj h
          exact G_iret (pc := 37) rfl dX8_undo_37
        · replace h := itp c4 h
          refine G_bipush (pc := 20) (-3) dX8_undo_20 bp_m3 ?_
          obtain rfl := Option.some.inj h
          exact G_iret (pc := 22) rfl dX8_undo_22
      · replace h := itn c3 h
        by_cases c2 : q1.1 = .null
        · replace h := itp c2 h
          refine G_val c2 ?_
          refine G_astore_nN (pc := 5) [(2, .null), (0, .ref _), (1, .int _)] dX8_undo_5 (Nat.le_of_ble_eq_true rfl) rfl ?_
          refine G_aload_nN (pc := 6) 0 dX8_undo_6 rfl ?_
          refine G_ifnonnullN (pc := 7) dX8_undo_7 ?_
          refine G_bipush (pc := 10) (-2) dX8_undo_10 bp_m2 ?_
          obtain rfl := Option.some.inj h
          exact G_iret (pc := 12) rfl dX8_undo_12
        · replace h := itn c2 h
          cases h
def F_X8_fault (x1 : Int32) (μ : Mm) : Option (Int32 × Mm) := (F_X8_textOf x1 μ).bind (fun q1 => if q1.1 = .ref 1 then some ((q1.2.1 1 2), q1.2) else if q1.1 = .ref 3 then some ((q1.2.1 3 2), q1.2) else if q1.1 = .ref 5 then some ((q1.2.1 5 2), q1.2) else if q1.1 = .null then some ((-2), q1.2) else none)
set_option maxRecDepth 100000 in
set_option maxHeartbeats 4000000 in
theorem S_X8_fault (x1 : Int32)  (μ : Mm) (q : (Int32 × Mm)) (h : F_X8_fault x1 μ = some q) : Cn wC yX8_fault cX8_fault 3 (some .int) 1 [.ref 0, .int x1] μ (some (.int q.1)) q.2 := by
  refine Cn_of (by decide +kernel) (Nat.le_of_ble_eq_true rfl) ?_
  show G wC RX8 cX8_fault 3 (some .int) 1 (some (.int q.1)) q.2 0 [(0, .ref 0), (1, .int x1)] [] μ
  unfold F_X8_fault at h
  refine G_aload_n (pc := 0) 0 dX8_fault_0 rfl ?_
  refine G_iload_n (pc := 1) 1 dX8_fault_1 rfl ?_
  obtain ⟨q1, e1, h⟩ := bnd_some h
  refine G_callV1r (pc := 2) 0 7 dX8_fault_2 wv_X8_80 cd_X8_textOf (S_X8_textOf _ _ _ e1) (by decide) (by decide) rfl (by decide) (fun _ _ => ⟨_, rfl⟩) (Nat.le_of_ble_eq_true rfl) ?_
  by_cases c5 : q1.1 = .ref 1
  · replace h := itp c5 h
    refine G_val c5 ?_
    refine G_astore_n (pc := 5) [(2, .ref _), (0, .ref _), (1, .int _)] dX8_fault_5 (Nat.le_of_ble_eq_true rfl) rfl ?_
    refine G_aload_n (pc := 6) 0 dX8_fault_6 rfl ?_
    refine G_ifnonnull (pc := 7) 15 dX8_fault_7 (by decide) ?_
    refine G_aload_n (pc := 15) 0 dX8_fault_15 rfl ?_
    refine gwC_X8_97_1 (pc := 16) dX8_fault_16 ?_
    obtain rfl := Option.some.inj h
    exact G_iret (pc := 19) rfl dX8_fault_19
  · replace h := itn c5 h
    by_cases c4 : q1.1 = .ref 3
    · replace h := itp c4 h
      refine G_val c4 ?_
      refine G_astore_n (pc := 5) [(2, .ref _), (0, .ref _), (1, .int _)] dX8_fault_5 (Nat.le_of_ble_eq_true rfl) rfl ?_
      refine G_aload_n (pc := 6) 0 dX8_fault_6 rfl ?_
      refine G_ifnonnull (pc := 7) 15 dX8_fault_7 (by decide) ?_
      refine G_aload_n (pc := 15) 0 dX8_fault_15 rfl ?_
      refine gwC_X8_97_3 (pc := 16) dX8_fault_16 ?_
      obtain rfl := Option.some.inj h
      exact G_iret (pc := 19) rfl dX8_fault_19
    · replace h := itn c4 h
      by_cases c3 : q1.1 = .ref 5
      · replace h := itp c3 h
        refine G_val c3 ?_
        refine G_astore_n (pc := 5) [(2, .ref _), (0, .ref _), (1, .int _)] dX8_fault_5 (Nat.le_of_ble_eq_true rfl) rfl ?_
        refine G_aload_n (pc := 6) 0 dX8_fault_6 rfl ?_
        refine G_ifnonnull (pc := 7) 15 dX8_fault_7 (by decide) ?_
        refine G_aload_n (pc := 15) 0 dX8_fault_15 rfl ?_
        refine gwC_X8_97_5 (pc := 16) dX8_fault_16 ?_
        obtain rfl := Option.some.inj h
        exact G_iret (pc := 19) rfl dX8_fault_19
      · replace h := itn c3 h
        by_cases c2 : q1.1 = .null
        · replace h := itp c2 h
          refine G_val c2 ?_
          refine G_astore_nN (pc := 5) [(2, .null), (0, .ref _), (1, .int _)] dX8_fault_5 (Nat.le_of_ble_eq_true rfl) rfl ?_
          refine G_aload_nN (pc := 6) 0 dX8_fault_6 rfl ?_
          refine G_ifnonnullN (pc := 7) dX8_fault_7 ?_
          refine G_bipush (pc := 10) (-2) dX8_fault_10 bp_m2 ?_
          refine G_goto (pc := 12) 19 dX8_fault_12 (by decide) ?_
          obtain rfl := Option.some.inj h
          exact G_iret (pc := 19) rfl dX8_fault_19
        · replace h := itn c2 h
          cases h
def F_X3_size_1  (μ : Mm) : Option (Int32 × Mm) := some ((if (μ.1 1 2) = (-1) then (((μ.1 1 1) + 1) / 4) else 0), μ)
set_option maxRecDepth 100000 in
set_option maxHeartbeats 4000000 in
theorem S_X3_size_1   (μ : Mm) (q : (Int32 × Mm)) (h : F_X3_size_1  μ = some q) : Cn wC yX3_size cX3_size 1 (some .int) 0 [.ref 1] μ (some (.int q.1)) q.2 := by
  refine Cn_of (by decide +kernel) (Nat.le_of_ble_eq_true rfl) ?_
  show G wC RX3 cX3_size 1 (some .int) 0 (some (.int q.1)) q.2 0 [(0, .ref 1)] [] μ
  unfold F_X3_size_1 at h
  refine G_aload_n (pc := 0) 0 dX3_size_0 rfl ?_
  refine gwC_X3_23_1 (pc := 1) dX3_size_1 ?_
  refine G_iconst (pc := 4) (-1) dX3_size_4 ci_m1 ?_
  refine G_icmp_ne (pc := 5) 19 dX3_size_5 (by decide) (fun c1 => ?_) (fun c1 => ?_)
  · rw [if_neg c1] at h
    refine G_iconst (pc := 19) (0) dX3_size_19 ci_0 ?_
    obtain rfl := Option.some.inj h
    exact G_iret (pc := 20) rfl dX3_size_20
  · rw [if_pos c1] at h
    refine G_aload_n (pc := 8) 0 dX3_size_8 rfl ?_
    refine gwC_X3_26_1 (pc := 9) dX3_size_9 ?_
    refine G_iconst (pc := 12) (1) dX3_size_12 ci_1 ?_
    refine G_iadd (pc := 13) dX3_size_13 ?_
    refine G_iconst (pc := 14) (4) dX3_size_14 ci_4 ?_
    refine G_idiv (pc := 15) dX3_size_15 (by decide) ?_
    refine G_goto (pc := 16) 20 dX3_size_16 (by decide) ?_
    obtain rfl := Option.some.inj h
    exact G_iret (pc := 20) rfl dX3_size_20
def F_X8_isIn (x0 : Int32) (x1 : Int32) (μ : Mm) : Option (Int32 × Mm) := some ((if x0 < 0 then 0 else (if x1 ≤ x0 then 0 else 1)), μ)
set_option maxRecDepth 100000 in
set_option maxHeartbeats 4000000 in
theorem S_X8_isIn (x0 : Int32) (x1 : Int32)  (μ : Mm) (q : (Int32 × Mm)) (h : F_X8_isIn x0 x1 μ = some q) : Cn wC yX8_isIn cX8_isIn 2 (some .boolean) 0 [.int x0, .int x1] μ (some (.int q.1)) q.2 := by
  refine Cn_of (by decide +kernel) (Nat.le_of_ble_eq_true rfl) ?_
  show G wC RX8 cX8_isIn 2 (some .boolean) 0 (some (.int q.1)) q.2 0 [(0, .int x0), (1, .int x1)] [] μ
  unfold F_X8_isIn at h
  refine G_iload_n (pc := 0) 0 dX8_isIn_0 rfl ?_
  refine G_if_lt (pc := 1) 13 dX8_isIn_1 (by decide) (fun c1 => ?_) (fun c1 => ?_)
  · rw [if_pos c1] at h
    refine G_iconst (pc := 13) (0) dX8_isIn_13 ci_0 ?_
    obtain rfl := Option.some.inj h
    exact G_zret (pc := 14) rfl (Or.inl rfl) dX8_isIn_14
  · rw [if_neg c1] at h
    refine G_iload_n (pc := 4) 0 dX8_isIn_4 rfl ?_
    refine G_iload_n (pc := 5) 1 dX8_isIn_5 rfl ?_
    refine G_icmp_ge (pc := 6) 13 dX8_isIn_6 (by decide) (fun c2 => ?_) (fun c2 => ?_)
    · rw [if_pos c2] at h
      refine G_iconst (pc := 13) (0) dX8_isIn_13 ci_0 ?_
      obtain rfl := Option.some.inj h
      exact G_zret (pc := 14) rfl (Or.inl rfl) dX8_isIn_14
    · rw [if_neg c2] at h
      refine G_iconst (pc := 9) (1) dX8_isIn_9 ci_1 ?_
      refine G_goto (pc := 10) 14 dX8_isIn_10 (by decide) ?_
      obtain rfl := Option.some.inj h
      exact G_zret (pc := 14) rfl (Or.inr rfl) dX8_isIn_14
def F_X3_part_1 (x1 : Int32) (x2 : Int32) (μ : Mm) : Option (Int32 × Mm) := gi ((4 * x1) + x2) 39 (if x2 = 0 then (F_X3_sortOf (μ.1 2 ((4 * x1) + x2).toNatClampNeg) μ).bind (fun q3 => some (q3.1, q3.2)) else some (((μ.1 2 ((4 * x1) + x2).toNatClampNeg) - 48), μ))
set_option maxRecDepth 100000 in
set_option maxHeartbeats 4000000 in
theorem S_X3_part_1 (x1 : Int32) (x2 : Int32)  (μ : Mm) (q : (Int32 × Mm)) (h : F_X3_part_1 x1 x2 μ = some q) : Cn wC yX3_part cX3_part 4 (some .int) 1 [.ref 1, .int x1, .int x2] μ (some (.int q.1)) q.2 := by
  refine Cn_of (by decide +kernel) (Nat.le_of_ble_eq_true rfl) ?_
  show G wC RX3 cX3_part 4 (some .int) 1 (some (.int q.1)) q.2 0 [(0, .ref 1), (1, .int x1), (2, .int x2)] [] μ
  unfold F_X3_part_1 at h
  refine G_aload_n (pc := 0) 0 dX3_part_0 rfl ?_
  refine gwC_X3_29_1 (pc := 1) dX3_part_1 ?_
  refine G_iconst (pc := 4) (4) dX3_part_4 ci_4 ?_
  refine G_iload_n (pc := 5) 1 dX3_part_5 rfl ?_
  refine G_imul (pc := 6) dX3_part_6 ?_
  refine G_iload_n (pc := 7) 2 dX3_part_7 rfl ?_
  refine G_iadd (pc := 8) dX3_part_8 ?_
  obtain ⟨g1, h⟩ := gi_some h
  refine alwC_2 (pc := 9) dX3_part_9 g1 ?_
  refine G_istore_n (pc := 10) [(3, .int _), (0, .ref _), (1, .int _), (2, .int _)] dX3_part_10 (Nat.le_of_ble_eq_true rfl) rfl ?_
  refine G_iload_n (pc := 11) 3 dX3_part_11 rfl ?_
  refine G_if_ne (pc := 12) 22 dX3_part_12 (by decide) (fun c2 => ?_) (fun c2 => ?_)
  · replace h := itn c2 h
    refine G_iload_n (pc := 22) 0 dX3_part_22 rfl ?_
    refine G_bipush (pc := 23) (48) dX3_part_23 bp_48 ?_
    refine G_isub (pc := 25) dX3_part_25 ?_
    obtain rfl := Option.some.inj h
    exact G_iret (pc := 26) rfl dX3_part_26
  · replace h := itp c2 h
    refine G_iload_n (pc := 15) 0 dX3_part_15 rfl ?_
    obtain ⟨q3, e3, h⟩ := bnd_some h
    refine G_callS1r (pc := 16) dX3_part_16 ws_X3_15 cd_X3_sortOf (S_X3_sortOf _ _ _ e3) (by decide) (by decide) (Nat.le_of_ble_eq_true rfl) ?_
    refine G_goto (pc := 19) 26 dX3_part_19 (by decide) ?_
    obtain rfl := Option.some.inj h
    exact G_iret (pc := 26) rfl dX3_part_26
def F_X8_thing (x1 : Int32) (x2 : Int32) (μ : Mm) : Option (Int32 × Mm) := (F_X3_size_1 μ).bind (fun q1 => (F_X8_isIn x1 q1.1 q1.2).bind (fun q2 => if q2.1 = 0 then some ((-2), q2.2) else (F_X8_isIn x2 3 q2.2).bind (fun q4 => if q4.1 = 0 then some ((-2), q4.2) else (F_X3_part_1 x1 x2 q4.2).bind (fun q6 => some (q6.1, q6.2)))))
set_option maxRecDepth 100000 in
set_option maxHeartbeats 4000000 in
theorem S_X8_thing (x1 : Int32) (x2 : Int32)  (μ : Mm) (q : (Int32 × Mm)) (h : F_X8_thing x1 x2 μ = some q) : Cn wC yX8_thing cX8_thing 3 (some .int) 2 [.ref 0, .int x1, .int x2] μ (some (.int q.1)) q.2 := by
  refine Cn_of (by decide +kernel) (Nat.le_of_ble_eq_true rfl) ?_
  show G wC RX8 cX8_thing 3 (some .int) 2 (some (.int q.1)) q.2 0 [(0, .ref 0), (1, .int x1), (2, .int x2)] [] μ
  unfold F_X8_thing at h
  refine G_iload_n (pc := 0) 1 dX8_thing_0 rfl ?_
  refine G_aload_n (pc := 1) 0 dX8_thing_1 rfl ?_
  refine gwC_X8_14_0 (pc := 2) dX8_thing_2 ?_
  obtain ⟨q1, e1, h⟩ := bnd_some h
  refine G_callV0r (pc := 5) 1 3 dX8_thing_5 wv_X8_100 cd_X3_size (S_X3_size_1 _ _ e1) (by decide) (by decide) rfl (by decide) (fun _ _ => ⟨_, rfl⟩) (Nat.le_of_ble_eq_true rfl) ?_
  obtain ⟨q2, e2, h⟩ := bnd_some h
  refine G_callS2r (pc := 8) dX8_thing_8 ws_X8_104 cd_X8_isIn (S_X8_isIn _ _ _ _ e2) (by decide) (by decide) (Nat.le_of_ble_eq_true rfl) ?_
  refine G_if_eq (pc := 11) 34 dX8_thing_11 (by decide) (fun c3 => ?_) (fun c3 => ?_)
  · replace h := itp c3 h
    refine G_bipush (pc := 34) (-2) dX8_thing_34 bp_m2 ?_
    obtain rfl := Option.some.inj h
    exact G_iret (pc := 36) rfl dX8_thing_36
  · replace h := itn c3 h
    refine G_iload_n (pc := 14) 2 dX8_thing_14 rfl ?_
    refine G_iconst (pc := 15) (3) dX8_thing_15 ci_3 ?_
    obtain ⟨q4, e4, h⟩ := bnd_some h
    refine G_callS2r (pc := 16) dX8_thing_16 ws_X8_104 cd_X8_isIn (S_X8_isIn _ _ _ _ e4) (by decide) (by decide) (Nat.le_of_ble_eq_true rfl) ?_
    refine G_if_eq (pc := 19) 34 dX8_thing_19 (by decide) (fun c5 => ?_) (fun c5 => ?_)
    · replace h := itp c5 h
      refine G_bipush (pc := 34) (-2) dX8_thing_34 bp_m2 ?_
      obtain rfl := Option.some.inj h
      exact G_iret (pc := 36) rfl dX8_thing_36
    · replace h := itn c5 h
      refine G_aload_n (pc := 22) 0 dX8_thing_22 rfl ?_
      refine gwC_X8_14_0 (pc := 23) dX8_thing_23 ?_
      refine G_iload_n (pc := 26) 1 dX8_thing_26 rfl ?_
      refine G_iload_n (pc := 27) 2 dX8_thing_27 rfl ?_
      obtain ⟨q6, e6, h⟩ := bnd_some h
      refine G_callV2r (pc := 28) 1 3 dX8_thing_28 wv_X8_108 cd_X3_part (S_X3_part_1 _ _ _ _ e6) (by decide) (by decide) rfl (by decide) (fun _ _ => ⟨_, rfl⟩) (Nat.le_of_ble_eq_true rfl) ?_
      refine G_goto (pc := 31) 36 dX8_thing_31 (by decide) ?_
      obtain rfl := Option.some.inj h
      exact G_iret (pc := 36) rfl dX8_thing_36
def F_X3_size_3  (μ : Mm) : Option (Int32 × Mm) := some ((if (μ.1 3 2) = (-1) then (((μ.1 3 1) + 1) / 4) else 0), μ)
set_option maxRecDepth 100000 in
set_option maxHeartbeats 4000000 in
theorem S_X3_size_3   (μ : Mm) (q : (Int32 × Mm)) (h : F_X3_size_3  μ = some q) : Cn wC yX3_size cX3_size 1 (some .int) 0 [.ref 3] μ (some (.int q.1)) q.2 := by
  refine Cn_of (by decide +kernel) (Nat.le_of_ble_eq_true rfl) ?_
  show G wC RX3 cX3_size 1 (some .int) 0 (some (.int q.1)) q.2 0 [(0, .ref 3)] [] μ
  unfold F_X3_size_3 at h
  refine G_aload_n (pc := 0) 0 dX3_size_0 rfl ?_
  refine gwC_X3_23_3 (pc := 1) dX3_size_1 ?_
  refine G_iconst (pc := 4) (-1) dX3_size_4 ci_m1 ?_
  refine G_icmp_ne (pc := 5) 19 dX3_size_5 (by decide) (fun c1 => ?_) (fun c1 => ?_)
  · rw [if_neg c1] at h
    refine G_iconst (pc := 19) (0) dX3_size_19 ci_0 ?_
    obtain rfl := Option.some.inj h
    exact G_iret (pc := 20) rfl dX3_size_20
  · rw [if_pos c1] at h
    refine G_aload_n (pc := 8) 0 dX3_size_8 rfl ?_
    refine gwC_X3_26_3 (pc := 9) dX3_size_9 ?_
    refine G_iconst (pc := 12) (1) dX3_size_12 ci_1 ?_
    refine G_iadd (pc := 13) dX3_size_13 ?_
    refine G_iconst (pc := 14) (4) dX3_size_14 ci_4 ?_
    refine G_idiv (pc := 15) dX3_size_15 (by decide) ?_
    refine G_goto (pc := 16) 20 dX3_size_16 (by decide) ?_
    obtain rfl := Option.some.inj h
    exact G_iret (pc := 20) rfl dX3_size_20
def F_X3_part_3 (x1 : Int32) (x2 : Int32) (μ : Mm) : Option (Int32 × Mm) := gi ((4 * x1) + x2) 15 (if x2 = 0 then (F_X3_sortOf (μ.1 4 ((4 * x1) + x2).toNatClampNeg) μ).bind (fun q3 => some (q3.1, q3.2)) else some (((μ.1 4 ((4 * x1) + x2).toNatClampNeg) - 48), μ))
set_option maxRecDepth 100000 in
set_option maxHeartbeats 4000000 in
theorem S_X3_part_3 (x1 : Int32) (x2 : Int32)  (μ : Mm) (q : (Int32 × Mm)) (h : F_X3_part_3 x1 x2 μ = some q) : Cn wC yX3_part cX3_part 4 (some .int) 1 [.ref 3, .int x1, .int x2] μ (some (.int q.1)) q.2 := by
  refine Cn_of (by decide +kernel) (Nat.le_of_ble_eq_true rfl) ?_
  show G wC RX3 cX3_part 4 (some .int) 1 (some (.int q.1)) q.2 0 [(0, .ref 3), (1, .int x1), (2, .int x2)] [] μ
  unfold F_X3_part_3 at h
  refine G_aload_n (pc := 0) 0 dX3_part_0 rfl ?_
  refine gwC_X3_29_3 (pc := 1) dX3_part_1 ?_
  refine G_iconst (pc := 4) (4) dX3_part_4 ci_4 ?_
  refine G_iload_n (pc := 5) 1 dX3_part_5 rfl ?_
  refine G_imul (pc := 6) dX3_part_6 ?_
  refine G_iload_n (pc := 7) 2 dX3_part_7 rfl ?_
  refine G_iadd (pc := 8) dX3_part_8 ?_
  obtain ⟨g1, h⟩ := gi_some h
  refine alwC_4 (pc := 9) dX3_part_9 g1 ?_
  refine G_istore_n (pc := 10) [(3, .int _), (0, .ref _), (1, .int _), (2, .int _)] dX3_part_10 (Nat.le_of_ble_eq_true rfl) rfl ?_
  refine G_iload_n (pc := 11) 3 dX3_part_11 rfl ?_
  refine G_if_ne (pc := 12) 22 dX3_part_12 (by decide) (fun c2 => ?_) (fun c2 => ?_)
  · replace h := itn c2 h
    refine G_iload_n (pc := 22) 0 dX3_part_22 rfl ?_
    refine G_bipush (pc := 23) (48) dX3_part_23 bp_48 ?_
    refine G_isub (pc := 25) dX3_part_25 ?_
    obtain rfl := Option.some.inj h
    exact G_iret (pc := 26) rfl dX3_part_26
  · replace h := itp c2 h
    refine G_iload_n (pc := 15) 0 dX3_part_15 rfl ?_
    obtain ⟨q3, e3, h⟩ := bnd_some h
    refine G_callS1r (pc := 16) dX3_part_16 ws_X3_15 cd_X3_sortOf (S_X3_sortOf _ _ _ e3) (by decide) (by decide) (Nat.le_of_ble_eq_true rfl) ?_
    refine G_goto (pc := 19) 26 dX3_part_19 (by decide) ?_
    obtain rfl := Option.some.inj h
    exact G_iret (pc := 26) rfl dX3_part_26
def F_X8_judge (x1 : Int32) (x2 : Int32) (μ : Mm) : Option (Int32 × Mm) := (F_X3_size_3 μ).bind (fun q1 => (F_X8_isIn x1 q1.1 q1.2).bind (fun q2 => if q2.1 = 0 then some ((-2), q2.2) else (F_X8_isIn x2 3 q2.2).bind (fun q4 => if q4.1 = 0 then some ((-2), q4.2) else (F_X3_part_3 x1 x2 q4.2).bind (fun q6 => some (q6.1, q6.2)))))
set_option maxRecDepth 100000 in
set_option maxHeartbeats 4000000 in
theorem S_X8_judge (x1 : Int32) (x2 : Int32)  (μ : Mm) (q : (Int32 × Mm)) (h : F_X8_judge x1 x2 μ = some q) : Cn wC yX8_judge cX8_judge 3 (some .int) 2 [.ref 0, .int x1, .int x2] μ (some (.int q.1)) q.2 := by
  refine Cn_of (by decide +kernel) (Nat.le_of_ble_eq_true rfl) ?_
  show G wC RX8 cX8_judge 3 (some .int) 2 (some (.int q.1)) q.2 0 [(0, .ref 0), (1, .int x1), (2, .int x2)] [] μ
  unfold F_X8_judge at h
  refine G_iload_n (pc := 0) 1 dX8_judge_0 rfl ?_
  refine G_aload_n (pc := 1) 0 dX8_judge_1 rfl ?_
  refine gwC_X8_18_0 (pc := 2) dX8_judge_2 ?_
  obtain ⟨q1, e1, h⟩ := bnd_some h
  refine G_callV0r (pc := 5) 3 3 dX8_judge_5 wv_X8_100 cd_X3_size (S_X3_size_3 _ _ e1) (by decide) (by decide) rfl (by decide) (fun _ _ => ⟨_, rfl⟩) (Nat.le_of_ble_eq_true rfl) ?_
  obtain ⟨q2, e2, h⟩ := bnd_some h
  refine G_callS2r (pc := 8) dX8_judge_8 ws_X8_104 cd_X8_isIn (S_X8_isIn _ _ _ _ e2) (by decide) (by decide) (Nat.le_of_ble_eq_true rfl) ?_
  refine G_if_eq (pc := 11) 34 dX8_judge_11 (by decide) (fun c3 => ?_) (fun c3 => ?_)
  · replace h := itp c3 h
    refine G_bipush (pc := 34) (-2) dX8_judge_34 bp_m2 ?_
    obtain rfl := Option.some.inj h
    exact G_iret (pc := 36) rfl dX8_judge_36
  · replace h := itn c3 h
    refine G_iload_n (pc := 14) 2 dX8_judge_14 rfl ?_
    refine G_iconst (pc := 15) (3) dX8_judge_15 ci_3 ?_
    obtain ⟨q4, e4, h⟩ := bnd_some h
    refine G_callS2r (pc := 16) dX8_judge_16 ws_X8_104 cd_X8_isIn (S_X8_isIn _ _ _ _ e4) (by decide) (by decide) (Nat.le_of_ble_eq_true rfl) ?_
    refine G_if_eq (pc := 19) 34 dX8_judge_19 (by decide) (fun c5 => ?_) (fun c5 => ?_)
    · replace h := itp c5 h
      refine G_bipush (pc := 34) (-2) dX8_judge_34 bp_m2 ?_
      obtain rfl := Option.some.inj h
      exact G_iret (pc := 36) rfl dX8_judge_36
    · replace h := itn c5 h
      refine G_aload_n (pc := 22) 0 dX8_judge_22 rfl ?_
      refine gwC_X8_18_0 (pc := 23) dX8_judge_23 ?_
      refine G_iload_n (pc := 26) 1 dX8_judge_26 rfl ?_
      refine G_iload_n (pc := 27) 2 dX8_judge_27 rfl ?_
      obtain ⟨q6, e6, h⟩ := bnd_some h
      refine G_callV2r (pc := 28) 3 3 dX8_judge_28 wv_X8_108 cd_X3_part (S_X3_part_3 _ _ _ _ e6) (by decide) (by decide) rfl (by decide) (fun _ _ => ⟨_, rfl⟩) (Nat.le_of_ble_eq_true rfl) ?_
      refine G_goto (pc := 31) 36 dX8_judge_31 (by decide) ?_
      obtain rfl := Option.some.inj h
      exact G_iret (pc := 36) rfl dX8_judge_36
def F_X8_mayHappen (x0 : Int32) (x1 : Int32) (x2 : Int32) (μ : Mm) : Option (Int32 × Mm) := (F_X8_isIn x0 3 μ).bind (fun q1 => if q1.1 = 0 then some (0, q1.2) else (F_X8_isIn x1 12 q1.2).bind (fun q3 => if q3.1 = 0 then some (0, q3.2) else (F_X8_isIn x2 10 q3.2).bind (fun q5 => some ((if q5.1 = 0 then 0 else 1), q5.2))))
set_option maxRecDepth 100000 in
set_option maxHeartbeats 4000000 in
theorem S_X8_mayHappen (x0 : Int32) (x1 : Int32) (x2 : Int32)  (μ : Mm) (q : (Int32 × Mm)) (h : F_X8_mayHappen x0 x1 x2 μ = some q) : Cn wC yX8_mayHappen cX8_mayHappen 3 (some .boolean) 1 [.int x0, .int x1, .int x2] μ (some (.int q.1)) q.2 := by
  refine Cn_of (by decide +kernel) (Nat.le_of_ble_eq_true rfl) ?_
  show G wC RX8 cX8_mayHappen 3 (some .boolean) 1 (some (.int q.1)) q.2 0 [(0, .int x0), (1, .int x1), (2, .int x2)] [] μ
  unfold F_X8_mayHappen at h
  refine G_iload_n (pc := 0) 0 dX8_mayHappen_0 rfl ?_
  refine G_iconst (pc := 1) (3) dX8_mayHappen_1 ci_3 ?_
  obtain ⟨q1, e1, h⟩ := bnd_some h
  refine G_callS2r (pc := 2) dX8_mayHappen_2 ws_X8_104 cd_X8_isIn (S_X8_isIn _ _ _ _ e1) (by decide) (by decide) (Nat.le_of_ble_eq_true rfl) ?_
  refine G_if_eq (pc := 5) 30 dX8_mayHappen_5 (by decide) (fun c2 => ?_) (fun c2 => ?_)
  · replace h := itp c2 h
    refine G_iconst (pc := 30) (0) dX8_mayHappen_30 ci_0 ?_
    obtain rfl := Option.some.inj h
    exact G_zret (pc := 31) rfl (Or.inl rfl) dX8_mayHappen_31
  · replace h := itn c2 h
    refine G_iload_n (pc := 8) 1 dX8_mayHappen_8 rfl ?_
    refine G_bipush (pc := 9) (12) dX8_mayHappen_9 bp_12 ?_
    obtain ⟨q3, e3, h⟩ := bnd_some h
    refine G_callS2r (pc := 11) dX8_mayHappen_11 ws_X8_104 cd_X8_isIn (S_X8_isIn _ _ _ _ e3) (by decide) (by decide) (Nat.le_of_ble_eq_true rfl) ?_
    refine G_if_eq (pc := 14) 30 dX8_mayHappen_14 (by decide) (fun c4 => ?_) (fun c4 => ?_)
    · replace h := itp c4 h
      refine G_iconst (pc := 30) (0) dX8_mayHappen_30 ci_0 ?_
      obtain rfl := Option.some.inj h
      exact G_zret (pc := 31) rfl (Or.inl rfl) dX8_mayHappen_31
    · replace h := itn c4 h
      refine G_iload_n (pc := 17) 2 dX8_mayHappen_17 rfl ?_
      refine G_bipush (pc := 18) (10) dX8_mayHappen_18 bp_10 ?_
      obtain ⟨q5, e5, h⟩ := bnd_some h
      refine G_callS2r (pc := 20) dX8_mayHappen_20 ws_X8_104 cd_X8_isIn (S_X8_isIn _ _ _ _ e5) (by decide) (by decide) (Nat.le_of_ble_eq_true rfl) ?_
      refine G_if_eq (pc := 23) 30 dX8_mayHappen_23 (by decide) (fun c6 => ?_) (fun c6 => ?_)
      · rw [if_pos c6] at h
        refine G_iconst (pc := 30) (0) dX8_mayHappen_30 ci_0 ?_
        obtain rfl := Option.some.inj h
        exact G_zret (pc := 31) rfl (Or.inl rfl) dX8_mayHappen_31
      · rw [if_neg c6] at h
        refine G_iconst (pc := 26) (1) dX8_mayHappen_26 ci_1 ?_
        refine G_goto (pc := 27) 31 dX8_mayHappen_27 (by decide) ?_
        obtain rfl := Option.some.inj h
        exact G_zret (pc := 31) rfl (Or.inr rfl) dX8_mayHappen_31
def F_X1_add_7 (x1 : Int32) (x2 : Int32) (x3 : Int32) (μ : Mm) : Option (Int32 × Mm) := if (μ.1 7 1) < 8 then gi (3 * (μ.1 7 1)) 24 (gi ((3 * ((wI μ 8 (3 * (μ.1 7 1)).toNatClampNeg x1).1 7 1)) + 1) 24 (gi ((3 * ((wI (wI μ 8 (3 * (μ.1 7 1)).toNatClampNeg x1) 8 ((3 * ((wI μ 8 (3 * (μ.1 7 1)).toNatClampNeg x1).1 7 1)) + 1).toNatClampNeg x2).1 7 1)) + 2) 24 (some (1, (wI (wI (wI (wI μ 8 (3 * (μ.1 7 1)).toNatClampNeg x1) 8 ((3 * ((wI μ 8 (3 * (μ.1 7 1)).toNatClampNeg x1).1 7 1)) + 1).toNatClampNeg x2) 8 ((3 * ((wI (wI μ 8 (3 * (μ.1 7 1)).toNatClampNeg x1) 8 ((3 * ((wI μ 8 (3 * (μ.1 7 1)).toNatClampNeg x1).1 7 1)) + 1).toNatClampNeg x2).1 7 1)) + 2).toNatClampNeg x3) 7 1 (((wI (wI (wI μ 8 (3 * (μ.1 7 1)).toNatClampNeg x1) 8 ((3 * ((wI μ 8 (3 * (μ.1 7 1)).toNatClampNeg x1).1 7 1)) + 1).toNatClampNeg x2) 8 ((3 * ((wI (wI μ 8 (3 * (μ.1 7 1)).toNatClampNeg x1) 8 ((3 * ((wI μ 8 (3 * (μ.1 7 1)).toNatClampNeg x1).1 7 1)) + 1).toNatClampNeg x2).1 7 1)) + 2).toNatClampNeg x3).1 7 1) + 1)))))) else some (0, μ)
set_option maxRecDepth 100000 in
set_option maxHeartbeats 4000000 in
theorem S_X1_add_7 (x1 : Int32) (x2 : Int32) (x3 : Int32)  (μ : Mm) (q : (Int32 × Mm)) (h : F_X1_add_7 x1 x2 x3 μ = some q) : Cn wC yX1_add cX1_add 4 (some .boolean) 0 [.ref 7, .int x1, .int x2, .int x3] μ (some (.int q.1)) q.2 := by
  refine Cn_of (by decide +kernel) (Nat.le_of_ble_eq_true rfl) ?_
  show G wC RX1 cX1_add 4 (some .boolean) 0 (some (.int q.1)) q.2 0 [(0, .ref 7), (1, .int x1), (2, .int x2), (3, .int x3)] [] μ
  unfold F_X1_add_7 at h
  refine G_aload_n (pc := 0) 0 dX1_add_0 rfl ?_
  refine gwC_X1_15_7 (pc := 1) dX1_add_1 ?_
  refine G_bipush (pc := 4) (8) dX1_add_4 bp_8 ?_
  refine G_icmp_lt (pc := 6) 11 dX1_add_6 (by decide) (fun c1 => ?_) (fun c1 => ?_)
  · replace h := itp c1 h
    refine G_aload_n (pc := 11) 0 dX1_add_11 rfl ?_
    refine gwC_X1_9_7 (pc := 12) dX1_add_12 ?_
    refine G_iconst (pc := 15) (3) dX1_add_15 ci_3 ?_
    refine G_aload_n (pc := 16) 0 dX1_add_16 rfl ?_
    refine gwC_X1_15_7 (pc := 17) dX1_add_17 ?_
    refine G_imul (pc := 20) dX1_add_20 ?_
    refine G_iload_n (pc := 21) 1 dX1_add_21 rfl ?_
    obtain ⟨g2, h⟩ := gi_some h
    refine aswC_8 (pc := 22) dX1_add_22 g2 ?_
    refine G_aload_n (pc := 23) 0 dX1_add_23 rfl ?_
    refine gwC_X1_9_7 (pc := 24) dX1_add_24 ?_
    refine G_iconst (pc := 27) (3) dX1_add_27 ci_3 ?_
    refine G_aload_n (pc := 28) 0 dX1_add_28 rfl ?_
    refine gwC_X1_15_7 (pc := 29) dX1_add_29 ?_
    refine G_imul (pc := 32) dX1_add_32 ?_
    refine G_iconst (pc := 33) (1) dX1_add_33 ci_1 ?_
    refine G_iadd (pc := 34) dX1_add_34 ?_
    refine G_iload_n (pc := 35) 2 dX1_add_35 rfl ?_
    obtain ⟨g3, h⟩ := gi_some h
    refine aswC_8 (pc := 36) dX1_add_36 g3 ?_
    refine G_aload_n (pc := 37) 0 dX1_add_37 rfl ?_
    refine gwC_X1_9_7 (pc := 38) dX1_add_38 ?_
    refine G_iconst (pc := 41) (3) dX1_add_41 ci_3 ?_
    refine G_aload_n (pc := 42) 0 dX1_add_42 rfl ?_
    refine gwC_X1_15_7 (pc := 43) dX1_add_43 ?_
    refine G_imul (pc := 46) dX1_add_46 ?_
    refine G_iconst (pc := 47) (2) dX1_add_47 ci_2 ?_
    refine G_iadd (pc := 48) dX1_add_48 ?_
    refine G_iload_n (pc := 49) 3 dX1_add_49 rfl ?_
    obtain ⟨g4, h⟩ := gi_some h
    refine aswC_8 (pc := 50) dX1_add_50 g4 ?_
    refine G_aload_n (pc := 51) 0 dX1_add_51 rfl ?_
    refine G_dup (pc := 52) dX1_add_52 rfl ?_
    refine gwC_X1_15_7 (pc := 53) dX1_add_53 ?_
    refine G_iconst (pc := 56) (1) dX1_add_56 ci_1 ?_
    refine G_iadd (pc := 57) dX1_add_57 ?_
    refine pwC_X1_15_7 (pc := 58) dX1_add_58 ?_
    refine G_iconst (pc := 61) (1) dX1_add_61 ci_1 ?_
    obtain rfl := Option.some.inj h
    exact G_zret (pc := 62) rfl (Or.inr rfl) dX1_add_62
  · replace h := itn c1 h
    refine G_iconst (pc := 9) (0) dX1_add_9 ci_0 ?_
    obtain rfl := Option.some.inj h
    exact G_zret (pc := 10) rfl (Or.inl rfl) dX1_add_10
def F_X8_event (x1 : Int32) (x2 : Int32) (x3 : Int32) (μ : Mm) : Option (Int32 × Mm) := (F_X8_mayHappen x1 x2 x3 μ).bind (fun q1 => if q1.1 = 0 then some ((-2), q1.2) else (F_X1_add_7 x1 x2 x3 q1.2).bind (fun q3 => some ((if q3.1 = 0 then (-4) else (q3.2.1 7 1)), q3.2)))
set_option maxRecDepth 100000 in
set_option maxHeartbeats 4000000 in
theorem S_X8_event (x1 : Int32) (x2 : Int32) (x3 : Int32)  (μ : Mm) (q : (Int32 × Mm)) (h : F_X8_event x1 x2 x3 μ = some q) : Cn wC yX8_event cX8_event 4 (some .int) 2 [.ref 0, .int x1, .int x2, .int x3] μ (some (.int q.1)) q.2 := by
  refine Cn_of (by decide +kernel) (Nat.le_of_ble_eq_true rfl) ?_
  show G wC RX8 cX8_event 4 (some .int) 2 (some (.int q.1)) q.2 0 [(0, .ref 0), (1, .int x1), (2, .int x2), (3, .int x3)] [] μ
  unfold F_X8_event at h
  refine G_iload_n (pc := 0) 1 dX8_event_0 rfl ?_
  refine G_iload_n (pc := 1) 2 dX8_event_1 rfl ?_
  refine G_iload_n (pc := 2) 3 dX8_event_2 rfl ?_
  obtain ⟨q1, e1, h⟩ := bnd_some h
  refine G_callS3r (pc := 3) dX8_event_3 ws_X8_112 cd_X8_mayHappen (S_X8_mayHappen _ _ _ _ _ e1) (by decide) (by decide) (Nat.le_of_ble_eq_true rfl) ?_
  refine G_if_ne (pc := 6) 12 dX8_event_6 (by decide) (fun c2 => ?_) (fun c2 => ?_)
  · replace h := itn c2 h
    refine G_aload_n (pc := 12) 0 dX8_event_12 rfl ?_
    refine gwC_X8_31_0 (pc := 13) dX8_event_13 ?_
    refine G_iload_n (pc := 16) 1 dX8_event_16 rfl ?_
    refine G_iload_n (pc := 17) 2 dX8_event_17 rfl ?_
    refine G_iload_n (pc := 18) 3 dX8_event_18 rfl ?_
    obtain ⟨q3, e3, h⟩ := bnd_some h
    refine G_callV3r (pc := 19) 7 1 dX8_event_19 wv_X8_116 cd_X1_add (S_X1_add_7 _ _ _ _ _ e3) (by decide) (by decide) rfl (by decide) (fun _ _ => ⟨_, rfl⟩) (Nat.le_of_ble_eq_true rfl) ?_
    refine G_if_eq (pc := 22) 35 dX8_event_22 (by decide) (fun c4 => ?_) (fun c4 => ?_)
    · rw [if_pos c4] at h
      refine G_bipush (pc := 35) (-4) dX8_event_35 bp_m4 ?_
      obtain rfl := Option.some.inj h
      exact G_iret (pc := 37) rfl dX8_event_37
    · rw [if_neg c4] at h
      refine G_aload_n (pc := 25) 0 dX8_event_25 rfl ?_
      refine gwC_X8_31_0 (pc := 26) dX8_event_26 ?_
      refine gwC_X8_119_7 (pc := 29) dX8_event_29 ?_
      refine G_goto (pc := 32) 37 dX8_event_32 (by decide) ?_
      obtain rfl := Option.some.inj h
      exact G_iret (pc := 37) rfl dX8_event_37
  · replace h := itp c2 h
    refine G_bipush (pc := 9) (-2) dX8_event_9 bp_m2 ?_
    obtain rfl := Option.some.inj h
    exact G_iret (pc := 11) rfl dX8_event_11
def F_X8_back  (μ : Mm) : Option (Int32 × Mm) := if (μ.1 7 1) = 0 then some ((-3), μ) else some (((wI μ 7 1 ((μ.1 7 1) - 1)).1 7 1), (wI μ 7 1 ((μ.1 7 1) - 1)))
set_option maxRecDepth 100000 in
set_option maxHeartbeats 4000000 in
theorem S_X8_back   (μ : Mm) (q : (Int32 × Mm)) (h : F_X8_back  μ = some q) : Cn wC yX8_back cX8_back 1 (some .int) 0 [.ref 0] μ (some (.int q.1)) q.2 := by
  refine Cn_of (by decide +kernel) (Nat.le_of_ble_eq_true rfl) ?_
  show G wC RX8 cX8_back 1 (some .int) 0 (some (.int q.1)) q.2 0 [(0, .ref 0)] [] μ
  unfold F_X8_back at h
  refine G_aload_n (pc := 0) 0 dX8_back_0 rfl ?_
  refine gwC_X8_31_0 (pc := 1) dX8_back_1 ?_
  refine gwC_X8_119_7 (pc := 4) dX8_back_4 ?_
  refine G_if_ne (pc := 7) 13 dX8_back_7 (by decide) (fun c1 => ?_) (fun c1 => ?_)
  · replace h := itn c1 h
    refine G_aload_n (pc := 13) 0 dX8_back_13 rfl ?_
    refine gwC_X8_31_0 (pc := 14) dX8_back_14 ?_
    refine G_dup (pc := 17) dX8_back_17 rfl ?_
    refine gwC_X8_119_7 (pc := 18) dX8_back_18 ?_
    refine G_iconst (pc := 21) (1) dX8_back_21 ci_1 ?_
    refine G_isub (pc := 22) dX8_back_22 ?_
    refine pwC_X8_119_7 (pc := 23) dX8_back_23 ?_
    refine G_aload_n (pc := 26) 0 dX8_back_26 rfl ?_
    refine gwC_X8_31_0 (pc := 27) dX8_back_27 ?_
    refine gwC_X8_119_7 (pc := 30) dX8_back_30 ?_
    obtain rfl := Option.some.inj h
    exact G_iret (pc := 33) rfl dX8_back_33
  · replace h := itp c1 h
    refine G_bipush (pc := 10) (-3) dX8_back_10 bp_m3 ?_
    obtain rfl := Option.some.inj h
    exact G_iret (pc := 12) rfl dX8_back_12
def F_X4_isLost (s0 : Nat) (μ : Mm) : Option (Int32 × Mm) := some ((if (μ.1 (12 + 2 * s0) 1) = (-1) then 1 else 0), μ)
set_option maxRecDepth 100000 in
set_option maxHeartbeats 4000000 in
theorem S_X4_isLost (s0 : Nat) (hs0 : s0 < 4) (μ : Mm) (q : (Int32 × Mm)) (h : F_X4_isLost s0 μ = some q) : Cn wC yX4_isLost cX4_isLost 1 (some .boolean) 0 [.ref (12 + 2 * s0)] μ (some (.int q.1)) q.2 := by
  refine Cn_of (by decide +kernel) (Nat.le_of_ble_eq_true rfl) ?_
  show G wC RX4 cX4_isLost 1 (some .boolean) 0 (some (.int q.1)) q.2 0 [(0, .ref (12 + 2 * s0))] [] μ
  unfold F_X4_isLost at h
  refine G_aload_n (pc := 0) 0 dX4_isLost_0 rfl ?_
  refine G_getS (pc := 1) hs0 1 (.int _) dX4_isLost_1 fl_X4_15_X4 (by decide) (fun _ => rfl) ?_
  refine G_iconst (pc := 4) (-1) dX4_isLost_4 ci_m1 ?_
  refine G_icmp_ne (pc := 5) 12 dX4_isLost_5 (by decide) (fun c1 => ?_) (fun c1 => ?_)
  · rw [if_neg c1] at h
    refine G_iconst (pc := 12) (0) dX4_isLost_12 ci_0 ?_
    obtain rfl := Option.some.inj h
    exact G_zret (pc := 13) rfl (Or.inl rfl) dX4_isLost_13
  · rw [if_pos c1] at h
    refine G_iconst (pc := 8) (1) dX4_isLost_8 ci_1 ?_
    refine G_goto (pc := 9) 13 dX4_isLost_9 (by decide) ?_
    obtain rfl := Option.some.inj h
    exact G_zret (pc := 13) rfl (Or.inr rfl) dX4_isLost_13
def F_X8_found (x1 : Int32) (μ : Mm) : Option (Int32 × Mm) := some (((-10) - x1), (wI μ 0 6 x1))
set_option maxRecDepth 100000 in
set_option maxHeartbeats 4000000 in
theorem S_X8_found (x1 : Int32)  (μ : Mm) (q : (Int32 × Mm)) (h : F_X8_found x1 μ = some q) : Cn wC yX8_found cX8_found 2 (some .int) 0 [.ref 0, .int x1] μ (some (.int q.1)) q.2 := by
  refine Cn_of (by decide +kernel) (Nat.le_of_ble_eq_true rfl) ?_
  show G wC RX8 cX8_found 2 (some .int) 0 (some (.int q.1)) q.2 0 [(0, .ref 0), (1, .int x1)] [] μ
  unfold F_X8_found at h
  refine G_aload_n (pc := 0) 0 dX8_found_0 rfl ?_
  refine G_iload_n (pc := 1) 1 dX8_found_1 rfl ?_
  refine pwC_X8_44_0 (pc := 2) dX8_found_2 ?_
  refine G_bipush (pc := 5) (-10) dX8_found_5 bp_m10 ?_
  refine G_iload_n (pc := 7) 1 dX8_found_7 rfl ?_
  refine G_isub (pc := 8) dX8_found_8 ?_
  obtain rfl := Option.some.inj h
  exact G_iret (pc := 9) rfl dX8_found_9
def L_X8_read_36 : Nat → Nat → Int32 → Int32 → Mm → Option (Int32 × Mm)
  | 0, _, _, _, _ => none
  | n + 1, s2, x3, x4, μ => if (μ.1 (12 + 2 * s2) 2) ≤ (x4 + 2) then some (x3, μ) else gi x4 60 (gi (x4 + 1) 60 (gi (x4 + 2) 60 ((F_X8_mayHappen (μ.1 (13 + 2 * s2) x4.toNatClampNeg) (μ.1 (13 + 2 * s2) (x4 + 1).toNatClampNeg) (μ.1 (13 + 2 * s2) (x4 + 2).toNatClampNeg) μ).bind (fun q10 => if q10.1 = 0 then some (x3, q10.2) else (F_X1_add_7 (μ.1 (13 + 2 * s2) x4.toNatClampNeg) (μ.1 (13 + 2 * s2) (x4 + 1).toNatClampNeg) (μ.1 (13 + 2 * s2) (x4 + 2).toNatClampNeg) q10.2).bind (fun q12 => if q12.1 = 0 then some (x3, q12.2) else L_X8_read_36 n s2 (x3 + 1) (x4 + 3) q12.2)))))
set_option maxRecDepth 100000 in
set_option maxHeartbeats 4000000 in
theorem L_X8_read_36_s (n : Nat) (s2 : Nat) (x3 : Int32) (x4 : Int32) (μ : Mm) : L_X8_read_36  (n + 1) s2 x3 x4 μ = (if (μ.1 (12 + 2 * s2) 2) ≤ (x4 + 2) then some (x3, μ) else gi x4 60 (gi (x4 + 1) 60 (gi (x4 + 2) 60 ((F_X8_mayHappen (μ.1 (13 + 2 * s2) x4.toNatClampNeg) (μ.1 (13 + 2 * s2) (x4 + 1).toNatClampNeg) (μ.1 (13 + 2 * s2) (x4 + 2).toNatClampNeg) μ).bind (fun q10 => if q10.1 = 0 then some (x3, q10.2) else (F_X1_add_7 (μ.1 (13 + 2 * s2) x4.toNatClampNeg) (μ.1 (13 + 2 * s2) (x4 + 1).toNatClampNeg) (μ.1 (13 + 2 * s2) (x4 + 2).toNatClampNeg) q10.2).bind (fun q12 => if q12.1 = 0 then some (x3, q12.2) else L_X8_read_36 n s2 (x3 + 1) (x4 + 3) q12.2)))))) := rfl
set_option maxRecDepth 100000 in
set_option maxHeartbeats 4000000 in
theorem B_X8_read_36 : ∀ (n : Nat) (s2 : Nat) (x3 : Int32) (x4 : Int32) (μ : Mm) (q : (Int32 × Mm)), s2 < 4 → L_X8_read_36  n s2 x3 x4 μ = some q → G wC RX8 cX8_read 8 (some .int) 2 (some (.int q.1)) q.2 36 [(0, .ref 0), (2, .ref (12 + 2 * s2)), (3, .int x3), (4, .int x4)] [] μ := by
  intro n
  induction n with
  | zero =>
    intro s2 x3 x4 μ q hs2 h
    cases h
  | succ n ih =>
    intro s2 x3 x4 μ q hs2 h
    rw [L_X8_read_36_s] at h
    refine G_iload (pc := 36) 3 dX8_read_36 rfl ?_
    refine G_iconst (pc := 38) (2) dX8_read_38 ci_2 ?_
    refine G_iadd (pc := 39) dX8_read_39 ?_
    refine G_aload_n (pc := 40) 1 dX8_read_40 rfl ?_
    refine G_getS (pc := 41) hs2 2 (.int _) dX8_read_41 fl_X8_129_X4 (by decide) (fun _ => rfl) ?_
    refine G_icmp_ge (pc := 44) 118 dX8_read_44 (by decide) (fun c6 => ?_) (fun c6 => ?_)
    · replace h := itp c6 h
      refine G_iload_n (pc := 118) 2 dX8_read_118 rfl ?_
      obtain rfl := Option.some.inj h
      exact G_iret (pc := 119) rfl dX8_read_119
    · replace h := itn c6 h
      refine G_aload_n (pc := 47) 1 dX8_read_47 rfl ?_
      refine G_getS (pc := 48) hs2 0 (.ref (13 + 2 * s2)) dX8_read_48 fl_X8_130_X4 (by decide) (fun _ => rfl) ?_
      refine G_iload (pc := 51) 3 dX8_read_51 rfl ?_
      obtain ⟨g7, h⟩ := gi_some h
      refine G_ialdS (pc := 53) hs2 dX8_read_53 g7 ?_
      refine G_istore (pc := 54) [(5, .int _), (0, .ref _), (2, .ref _), (3, .int _), (4, .int _)] dX8_read_54 (Nat.le_of_ble_eq_true rfl) rfl ?_
      refine G_aload_n (pc := 56) 2 dX8_read_56 rfl ?_
      refine G_getS (pc := 57) hs2 0 (.ref (13 + 2 * s2)) dX8_read_57 fl_X8_130_X4 (by decide) (fun _ => rfl) ?_
      refine G_iload (pc := 60) 4 dX8_read_60 rfl ?_
      refine G_iconst (pc := 62) (1) dX8_read_62 ci_1 ?_
      refine G_iadd (pc := 63) dX8_read_63 ?_
      obtain ⟨g8, h⟩ := gi_some h
      refine G_ialdS (pc := 64) hs2 dX8_read_64 g8 ?_
      refine G_istore (pc := 65) [(6, .int _), (5, .int _), (0, .ref _), (2, .ref _), (3, .int _), (4, .int _)] dX8_read_65 (Nat.le_of_ble_eq_true rfl) rfl ?_
      refine G_aload_n (pc := 67) 3 dX8_read_67 rfl ?_
      refine G_getS (pc := 68) hs2 0 (.ref (13 + 2 * s2)) dX8_read_68 fl_X8_130_X4 (by decide) (fun _ => rfl) ?_
      refine G_iload (pc := 71) 5 dX8_read_71 rfl ?_
      refine G_iconst (pc := 73) (2) dX8_read_73 ci_2 ?_
      refine G_iadd (pc := 74) dX8_read_74 ?_
      obtain ⟨g9, h⟩ := gi_some h
      refine G_ialdS (pc := 75) hs2 dX8_read_75 g9 ?_
      refine G_istore (pc := 76) [(7, .int _), (6, .int _), (5, .int _), (0, .ref _), (2, .ref _), (3, .int _), (4, .int _)] dX8_read_76 (Nat.le_of_ble_eq_true rfl) rfl ?_
      refine G_iload (pc := 78) 2 dX8_read_78 rfl ?_
      refine G_iload (pc := 80) 1 dX8_read_80 rfl ?_
      refine G_iload (pc := 82) 0 dX8_read_82 rfl ?_
      obtain ⟨q10, e10, h⟩ := bnd_some h
      refine G_callS3r (pc := 84) dX8_read_84 ws_X8_112 cd_X8_mayHappen (S_X8_mayHappen _ _ _ _ _ e10) (by decide) (by decide) (Nat.le_of_ble_eq_true rfl) ?_
      refine G_if_eq (pc := 87) 118 dX8_read_87 (by decide) (fun c11 => ?_) (fun c11 => ?_)
      · replace h := itp c11 h
        refine G_iload_n (pc := 118) 5 dX8_read_118 rfl ?_
        obtain rfl := Option.some.inj h
        exact G_iret (pc := 119) rfl dX8_read_119
      · replace h := itn c11 h
        refine G_aload_n (pc := 90) 3 dX8_read_90 rfl ?_
        refine gwC_X8_31_0 (pc := 91) dX8_read_91 ?_
        refine G_iload (pc := 94) 2 dX8_read_94 rfl ?_
        refine G_iload (pc := 96) 1 dX8_read_96 rfl ?_
        refine G_iload (pc := 98) 0 dX8_read_98 rfl ?_
        obtain ⟨q12, e12, h⟩ := bnd_some h
        refine G_callV3r (pc := 100) 7 1 dX8_read_100 wv_X8_116 cd_X1_add (S_X1_add_7 _ _ _ _ _ e12) (by decide) (by decide) rfl (by decide) (fun _ _ => ⟨_, rfl⟩) (Nat.le_of_ble_eq_true rfl) ?_
        refine G_if_ne (pc := 103) 109 dX8_read_103 (by decide) (fun c13 => ?_) (fun c13 => ?_)
        · replace h := itn c13 h
          refine G_iinc (pc := 109) (1) 5 [(3, .int _), (7, .int _), (6, .int _), (5, .int _), (0, .ref _), (2, .ref _), (4, .int _)] dX8_read_109 ci_1 rfl (Nat.le_of_ble_eq_true rfl) rfl ?_
          refine G_iinc (pc := 112) (3) 6 [(4, .int _), (3, .int _), (7, .int _), (6, .int _), (5, .int _), (0, .ref _), (2, .ref _)] dX8_read_112 ci_3 rfl (Nat.le_of_ble_eq_true rfl) rfl ?_
          refine G_goto (pc := 115) 36 dX8_read_115 (by decide) ?_
          refine G_loc [5, 6, 1, 0] [(0, .ref _), (2, .ref _), (3, .int _), (4, .int _)] rfl ?_
          exact ih _ _ _ _ _ hs2 h
        · replace h := itp c13 h
          refine G_goto (pc := 106) 118 dX8_read_106 (by decide) ?_
          refine G_iload_n (pc := 118) 5 dX8_read_118 rfl ?_
          obtain rfl := Option.some.inj h
          exact G_iret (pc := 119) rfl dX8_read_119
def F_X8_read (x1 : Int32) (μ : Mm) : Option (Int32 × Mm) := (F_X8_isIn x1 4 μ).bind (fun q1 => if q1.1 = 0 then some ((-2), q1.2) else gi x1 4 ((F_X4_isLost x1.toNatClampNeg q1.2).bind (fun q4 => if q4.1 = 0 then L_X8_read_36 FUEL x1.toNatClampNeg 0 0 q4.2 else (F_X8_found 1 q4.2).bind (fun q14 => some (q14.1, q14.2)))))
set_option maxRecDepth 100000 in
set_option maxHeartbeats 4000000 in
theorem S_X8_read (x1 : Int32)  (μ : Mm) (q : (Int32 × Mm)) (h : F_X8_read x1 μ = some q) : Cn wC yX8_read cX8_read 8 (some .int) 2 [.ref 0, .int x1] μ (some (.int q.1)) q.2 := by
  refine Cn_of (by decide +kernel) (Nat.le_of_ble_eq_true rfl) ?_
  show G wC RX8 cX8_read 8 (some .int) 2 (some (.int q.1)) q.2 0 [(0, .ref 0), (1, .int x1)] [] μ
  unfold F_X8_read at h
  refine G_iload_n (pc := 0) 1 dX8_read_0 rfl ?_
  refine G_iconst (pc := 1) (4) dX8_read_1 ci_4 ?_
  obtain ⟨q1, e1, h⟩ := bnd_some h
  refine G_callS2r (pc := 2) dX8_read_2 ws_X8_104 cd_X8_isIn (S_X8_isIn _ _ _ _ e1) (by decide) (by decide) (Nat.le_of_ble_eq_true rfl) ?_
  refine G_if_ne (pc := 5) 11 dX8_read_5 (by decide) (fun c2 => ?_) (fun c2 => ?_)
  · replace h := itn c2 h
    refine G_aload_n (pc := 11) 0 dX8_read_11 rfl ?_
    refine gwC_X8_40_0 (pc := 12) dX8_read_12 ?_
    refine G_iload_n (pc := 15) 1 dX8_read_15 rfl ?_
    obtain ⟨g3, h⟩ := gi_some h
    refine G_aaldS (pc := 16) dX8_read_16 g3 ?_
    refine G_astore_n (pc := 17) [(2, .ref _), (0, .ref _), (1, .int _)] dX8_read_17 (Nat.le_of_ble_eq_true rfl) rfl ?_
    refine G_aload_n (pc := 18) 0 dX8_read_18 rfl ?_
    obtain ⟨q4, e4, h⟩ := bnd_some h
    refine G_callV0r (pc := 19) (12 + 2 * x1.toNatClampNeg) 4 dX8_read_19 wv_X8_121 cd_X4_isLost (S_X4_isLost _ (vp_lt g3) _ _ e4) (by decide) (by decide) rfl (S_lt (vp_lt g3)) (G_cellS (vp_lt g3) _) (Nat.le_of_ble_eq_true rfl) ?_
    refine G_if_eq (pc := 22) 31 dX8_read_22 (by decide) (fun c5 => ?_) (fun c5 => ?_)
    · replace h := itp c5 h
      refine G_iconst (pc := 31) (0) dX8_read_31 ci_0 ?_
      refine G_istore_n (pc := 32) [(3, .int _), (2, .ref _), (0, .ref _), (1, .int _)] dX8_read_32 (Nat.le_of_ble_eq_true rfl) rfl ?_
      refine G_iconst (pc := 33) (0) dX8_read_33 ci_0 ?_
      refine G_istore (pc := 34) [(4, .int _), (3, .int _), (2, .ref _), (0, .ref _), (1, .int _)] dX8_read_34 (Nat.le_of_ble_eq_true rfl) rfl ?_
      refine G_loc [3, 2, 1, 0] [(0, .ref _), (2, .ref _), (3, .int _), (4, .int _)] rfl ?_
      exact B_X8_read_36 _ _ _ _ _ _ (vp_lt g3) h
    · replace h := itn c5 h
      refine G_aload_n (pc := 25) 1 dX8_read_25 rfl ?_
      refine G_iconst (pc := 26) (1) dX8_read_26 ci_1 ?_
      obtain ⟨q14, e14, h⟩ := bnd_some h
      refine G_callV1r (pc := 27) 0 7 dX8_read_27 wv_X8_125 cd_X8_found (S_X8_found _ _ _ e14) (by decide) (by decide) rfl (by decide) (fun _ _ => ⟨_, rfl⟩) (Nat.le_of_ble_eq_true rfl) ?_
      obtain rfl := Option.some.inj h
      exact G_iret (pc := 30) rfl dX8_read_30
  · replace h := itp c2 h
    refine G_bipush (pc := 8) (-2) dX8_read_8 bp_m2 ?_
    obtain rfl := Option.some.inj h
    exact G_iret (pc := 10) rfl dX8_read_10
def F_X6_size  (μ : Mm) : Option (Int32 × Mm) := some ((if (μ.1 5 2) = (-1) then (μ.1 5 1) else 0), μ)
set_option maxRecDepth 100000 in
set_option maxHeartbeats 4000000 in
theorem S_X6_size   (μ : Mm) (q : (Int32 × Mm)) (h : F_X6_size  μ = some q) : Cn wC yX6_size cX6_size 1 (some .int) 0 [.ref 5] μ (some (.int q.1)) q.2 := by
  refine Cn_of (by decide +kernel) (Nat.le_of_ble_eq_true rfl) ?_
  show G wC RX6 cX6_size 1 (some .int) 0 (some (.int q.1)) q.2 0 [(0, .ref 5)] [] μ
  unfold F_X6_size at h
  refine G_aload_n (pc := 0) 0 dX6_size_0 rfl ?_
  refine gwC_X6_15_5 (pc := 1) dX6_size_1 ?_
  refine G_iconst (pc := 4) (-1) dX6_size_4 ci_m1 ?_
  refine G_icmp_ne (pc := 5) 15 dX6_size_5 (by decide) (fun c1 => ?_) (fun c1 => ?_)
  · rw [if_neg c1] at h
    refine G_iconst (pc := 15) (0) dX6_size_15 ci_0 ?_
    obtain rfl := Option.some.inj h
    exact G_iret (pc := 16) rfl dX6_size_16
  · rw [if_pos c1] at h
    refine G_aload_n (pc := 8) 0 dX6_size_8 rfl ?_
    refine gwC_X6_19_5 (pc := 9) dX6_size_9 ?_
    refine G_goto (pc := 12) 16 dX6_size_12 (by decide) ?_
    obtain rfl := Option.some.inj h
    exact G_iret (pc := 16) rfl dX6_size_16
def F_X6_judgeAt (x1 : Int32) (μ : Mm) : Option (Int32 × Mm) := (F_X6_size μ).bind (fun q1 => if q1.1 ≤ x1 then some (0, q1.2) else gi x1 12 (some (((q1.2.1 6 x1.toNatClampNeg) - 48), q1.2)))
set_option maxRecDepth 100000 in
set_option maxHeartbeats 4000000 in
theorem S_X6_judgeAt (x1 : Int32)  (μ : Mm) (q : (Int32 × Mm)) (h : F_X6_judgeAt x1 μ = some q) : Cn wC yX6_judgeAt cX6_judgeAt 2 (some .int) 1 [.ref 5, .int x1] μ (some (.int q.1)) q.2 := by
  refine Cn_of (by decide +kernel) (Nat.le_of_ble_eq_true rfl) ?_
  show G wC RX6 cX6_judgeAt 2 (some .int) 1 (some (.int q.1)) q.2 0 [(0, .ref 5), (1, .int x1)] [] μ
  unfold F_X6_judgeAt at h
  refine G_iload_n (pc := 0) 1 dX6_judgeAt_0 rfl ?_
  refine G_aload_n (pc := 1) 0 dX6_judgeAt_1 rfl ?_
  obtain ⟨q1, e1, h⟩ := bnd_some h
  refine G_callV0r (pc := 2) 5 5 dX6_judgeAt_2 wv_X6_22 cd_X6_size (S_X6_size _ _ e1) (by decide) (by decide) rfl (by decide) (fun _ _ => ⟨_, rfl⟩) (Nat.le_of_ble_eq_true rfl) ?_
  refine G_icmp_ge (pc := 5) 20 dX6_judgeAt_5 (by decide) (fun c2 => ?_) (fun c2 => ?_)
  · replace h := itp c2 h
    refine G_iconst (pc := 20) (0) dX6_judgeAt_20 ci_0 ?_
    obtain rfl := Option.some.inj h
    exact G_iret (pc := 21) rfl dX6_judgeAt_21
  · replace h := itn c2 h
    refine G_aload_n (pc := 8) 0 dX6_judgeAt_8 rfl ?_
    refine gwC_X6_26_5 (pc := 9) dX6_judgeAt_9 ?_
    refine G_iload_n (pc := 12) 1 dX6_judgeAt_12 rfl ?_
    obtain ⟨g3, h⟩ := gi_some h
    refine alwC_6 (pc := 13) dX6_judgeAt_13 g3 ?_
    refine G_bipush (pc := 14) (48) dX6_judgeAt_14 bp_48 ?_
    refine G_isub (pc := 16) dX6_judgeAt_16 ?_
    refine G_goto (pc := 17) 21 dX6_judgeAt_17 (by decide) ?_
    obtain rfl := Option.some.inj h
    exact G_iret (pc := 21) rfl dX6_judgeAt_21
def L_X2_take_139 : Nat → Int32 → Mm → Option Mm
  | 0, _, _ => none
  | n + 1, x4, μ => if 12 ≤ x4 then some (wI (wI (wI (wI μ 20 10 0) 20 11 (-1)) 20 12 (-1)) 20 13 (-1)) else (F_X6_judgeAt x4 μ).bind (fun q6 => gi x4 12 (L_X2_take_139 n (x4 + 1) (wI q6.2 27 x4.toNatClampNeg q6.1)))
set_option maxRecDepth 100000 in
set_option maxHeartbeats 4000000 in
theorem L_X2_take_139_s (n : Nat) (x4 : Int32) (μ : Mm) : L_X2_take_139  (n + 1) x4 μ = (if 12 ≤ x4 then some (wI (wI (wI (wI μ 20 10 0) 20 11 (-1)) 20 12 (-1)) 20 13 (-1)) else (F_X6_judgeAt x4 μ).bind (fun q6 => gi x4 12 (L_X2_take_139 n (x4 + 1) (wI q6.2 27 x4.toNatClampNeg q6.1)))) := rfl
set_option maxRecDepth 100000 in
set_option maxHeartbeats 4000000 in
theorem B_X2_take_139 : ∀ (n : Nat) (x4 : Int32) (μ : Mm) (q : Mm), L_X2_take_139  n x4 μ = some q → G wC RX2 cX2_take 5 none 2 none q 139 [(0, .ref 20), (3, .ref 5), (4, .int x4)] [] μ := by
  intro n
  induction n with
  | zero =>
    intro x4 μ q  h
    cases h
  | succ n ih =>
    intro x4 μ q  h
    rw [L_X2_take_139_s] at h
    refine G_iload (pc := 139) 2 dX2_take_139 rfl ?_
    refine G_bipush (pc := 141) (12) dX2_take_141 bp_12 ?_
    refine G_icmp_ge (pc := 143) 165 dX2_take_143 (by decide) (fun c5 => ?_) (fun c5 => ?_)
    · replace h := itp c5 h
      refine G_aload_n (pc := 165) 0 dX2_take_165 rfl ?_
      refine G_iconst (pc := 166) (0) dX2_take_166 ci_0 ?_
      refine pwC_X2_40_20 (pc := 167) dX2_take_167 ?_
      refine G_aload_n (pc := 170) 0 dX2_take_170 rfl ?_
      refine G_iconst (pc := 171) (-1) dX2_take_171 ci_m1 ?_
      refine pwC_X2_43_20 (pc := 172) dX2_take_172 ?_
      refine G_aload_n (pc := 175) 0 dX2_take_175 rfl ?_
      refine G_iconst (pc := 176) (-1) dX2_take_176 ci_m1 ?_
      refine pwC_X2_46_20 (pc := 177) dX2_take_177 ?_
      refine G_aload_n (pc := 180) 0 dX2_take_180 rfl ?_
      refine G_iconst (pc := 181) (-1) dX2_take_181 ci_m1 ?_
      refine pwC_X2_49_20 (pc := 182) dX2_take_182 ?_
      obtain rfl := Option.some.inj h
      exact G_vret (pc := 185) rfl dX2_take_185
    · replace h := itn c5 h
      refine G_aload_n (pc := 146) 0 dX2_take_146 rfl ?_
      refine gwC_X2_37_20 (pc := 147) dX2_take_147 ?_
      refine G_iload (pc := 150) 2 dX2_take_150 rfl ?_
      refine G_aload_n (pc := 152) 1 dX2_take_152 rfl ?_
      refine G_iload (pc := 153) 2 dX2_take_153 rfl ?_
      obtain ⟨q6, e6, h⟩ := bnd_some h
      refine G_callV1r (pc := 155) 5 5 dX2_take_155 wv_X2_66 cd_X6_judgeAt (S_X6_judgeAt _ _ _ e6) (by decide) (by decide) rfl (by decide) (fun _ _ => ⟨_, rfl⟩) (Nat.le_of_ble_eq_true rfl) ?_
      obtain ⟨g7, h⟩ := gi_some h
      refine aswC_27 (pc := 158) dX2_take_158 g7 ?_
      refine G_iinc (pc := 159) (1) 2 [(4, .int _), (0, .ref _), (3, .ref _)] dX2_take_159 ci_1 rfl (Nat.le_of_ble_eq_true rfl) rfl ?_
      refine G_goto (pc := 162) 139 dX2_take_162 (by decide) ?_
      refine G_loc [1, 2, 0] [(0, .ref _), (3, .ref _), (4, .int _)] rfl ?_
      exact ih _ _ _ h
def L_X2_take_79 : Nat → Int32 → Mm → Option Mm
  | 0, _, _ => none
  | n + 1, x4, μ => if (μ.1 20 5) ≤ x4 then L_X2_take_139 FUEL 0 μ else (F_X3_part_3 x4 0 μ).bind (fun q8 => gi x4 4 ((F_X3_part_3 x4 1 (wI q8.2 24 x4.toNatClampNeg q8.1)).bind (fun q10 => gi x4 4 ((F_X3_part_3 x4 2 (wI q10.2 25 x4.toNatClampNeg q10.1)).bind (fun q12 => gi x4 4 (L_X2_take_79 n (x4 + 1) (wI q12.2 26 x4.toNatClampNeg q12.1)))))))
set_option maxRecDepth 100000 in
set_option maxHeartbeats 4000000 in
theorem L_X2_take_79_s (n : Nat) (x4 : Int32) (μ : Mm) : L_X2_take_79  (n + 1) x4 μ = (if (μ.1 20 5) ≤ x4 then L_X2_take_139 FUEL 0 μ else (F_X3_part_3 x4 0 μ).bind (fun q8 => gi x4 4 ((F_X3_part_3 x4 1 (wI q8.2 24 x4.toNatClampNeg q8.1)).bind (fun q10 => gi x4 4 ((F_X3_part_3 x4 2 (wI q10.2 25 x4.toNatClampNeg q10.1)).bind (fun q12 => gi x4 4 (L_X2_take_79 n (x4 + 1) (wI q12.2 26 x4.toNatClampNeg q12.1)))))))) := rfl
set_option maxRecDepth 100000 in
set_option maxHeartbeats 4000000 in
theorem B_X2_take_79 : ∀ (n : Nat) (x4 : Int32) (μ : Mm) (q : Mm), L_X2_take_79  n x4 μ = some q → G wC RX2 cX2_take 5 none 2 none q 79 [(0, .ref 20), (2, .ref 3), (3, .ref 5), (4, .int x4)] [] μ := by
  intro n
  induction n with
  | zero =>
    intro x4 μ q  h
    cases h
  | succ n ih =>
    intro x4 μ q  h
    rw [L_X2_take_79_s] at h
    refine G_iload (pc := 79) 3 dX2_take_79 rfl ?_
    refine G_aload_n (pc := 81) 0 dX2_take_81 rfl ?_
    refine gwC_X2_25_20 (pc := 82) dX2_take_82 ?_
    refine G_icmp_ge (pc := 85) 136 dX2_take_85 (by decide) (fun c4 => ?_) (fun c4 => ?_)
    · replace h := itp c4 h
      refine G_iconst (pc := 136) (0) dX2_take_136 ci_0 ?_
      refine G_istore (pc := 137) [(4, .int _), (0, .ref _), (2, .ref _), (3, .ref _)] dX2_take_137 (Nat.le_of_ble_eq_true rfl) rfl ?_
      refine G_loc [1, 3, 0] [(0, .ref _), (3, .ref _), (4, .int _)] rfl ?_
      exact B_X2_take_139 _ _ _ _ h
    · replace h := itn c4 h
      refine G_aload_n (pc := 88) 0 dX2_take_88 rfl ?_
      refine gwC_X2_28_20 (pc := 89) dX2_take_89 ?_
      refine G_iload (pc := 92) 3 dX2_take_92 rfl ?_
      refine G_aload_n (pc := 94) 1 dX2_take_94 rfl ?_
      refine G_iload (pc := 95) 3 dX2_take_95 rfl ?_
      refine G_iconst (pc := 97) (0) dX2_take_97 ci_0 ?_
      obtain ⟨q8, e8, h⟩ := bnd_some h
      refine G_callV2r (pc := 98) 3 3 dX2_take_98 wv_X2_62 cd_X3_part (S_X3_part_3 _ _ _ _ e8) (by decide) (by decide) rfl (by decide) (fun _ _ => ⟨_, rfl⟩) (Nat.le_of_ble_eq_true rfl) ?_
      obtain ⟨g9, h⟩ := gi_some h
      refine aswC_24 (pc := 101) dX2_take_101 g9 ?_
      refine G_aload_n (pc := 102) 0 dX2_take_102 rfl ?_
      refine gwC_X2_31_20 (pc := 103) dX2_take_103 ?_
      refine G_iload (pc := 106) 3 dX2_take_106 rfl ?_
      refine G_aload_n (pc := 108) 1 dX2_take_108 rfl ?_
      refine G_iload (pc := 109) 3 dX2_take_109 rfl ?_
      refine G_iconst (pc := 111) (1) dX2_take_111 ci_1 ?_
      obtain ⟨q10, e10, h⟩ := bnd_some h
      refine G_callV2r (pc := 112) 3 3 dX2_take_112 wv_X2_62 cd_X3_part (S_X3_part_3 _ _ _ _ e10) (by decide) (by decide) rfl (by decide) (fun _ _ => ⟨_, rfl⟩) (Nat.le_of_ble_eq_true rfl) ?_
      obtain ⟨g11, h⟩ := gi_some h
      refine aswC_25 (pc := 115) dX2_take_115 g11 ?_
      refine G_aload_n (pc := 116) 0 dX2_take_116 rfl ?_
      refine gwC_X2_34_20 (pc := 117) dX2_take_117 ?_
      refine G_iload (pc := 120) 3 dX2_take_120 rfl ?_
      refine G_aload_n (pc := 122) 1 dX2_take_122 rfl ?_
      refine G_iload (pc := 123) 3 dX2_take_123 rfl ?_
      refine G_iconst (pc := 125) (2) dX2_take_125 ci_2 ?_
      obtain ⟨q12, e12, h⟩ := bnd_some h
      refine G_callV2r (pc := 126) 3 3 dX2_take_126 wv_X2_62 cd_X3_part (S_X3_part_3 _ _ _ _ e12) (by decide) (by decide) rfl (by decide) (fun _ _ => ⟨_, rfl⟩) (Nat.le_of_ble_eq_true rfl) ?_
      obtain ⟨g13, h⟩ := gi_some h
      refine aswC_26 (pc := 129) dX2_take_129 g13 ?_
      refine G_iinc (pc := 130) (1) 3 [(4, .int _), (0, .ref _), (2, .ref _), (3, .ref _)] dX2_take_130 ci_1 rfl (Nat.le_of_ble_eq_true rfl) rfl ?_
      refine G_goto (pc := 133) 79 dX2_take_133 (by decide) ?_
      refine G_loc [1, 2, 3, 0] [(0, .ref _), (2, .ref _), (3, .ref _), (4, .int _)] rfl ?_
      exact ih _ _ _ h
def L_X2_take_11 : Nat → Int32 → Mm → Option Mm
  | 0, _, _ => none
  | n + 1, x4, μ => if (μ.1 20 1) ≤ x4 then (F_X3_size_3 μ).bind (fun q3 => L_X2_take_79 FUEL 0 (wI q3.2 20 5 q3.1)) else (F_X3_part_1 x4 0 μ).bind (fun q14 => gi x4 10 ((F_X3_part_1 x4 1 (wI q14.2 21 x4.toNatClampNeg q14.1)).bind (fun q16 => gi x4 10 ((F_X3_part_1 x4 2 (wI q16.2 22 x4.toNatClampNeg q16.1)).bind (fun q18 => gi x4 10 (L_X2_take_11 n (x4 + 1) (wI q18.2 23 x4.toNatClampNeg q18.1)))))))
set_option maxRecDepth 100000 in
set_option maxHeartbeats 4000000 in
theorem L_X2_take_11_s (n : Nat) (x4 : Int32) (μ : Mm) : L_X2_take_11  (n + 1) x4 μ = (if (μ.1 20 1) ≤ x4 then (F_X3_size_3 μ).bind (fun q3 => L_X2_take_79 FUEL 0 (wI q3.2 20 5 q3.1)) else (F_X3_part_1 x4 0 μ).bind (fun q14 => gi x4 10 ((F_X3_part_1 x4 1 (wI q14.2 21 x4.toNatClampNeg q14.1)).bind (fun q16 => gi x4 10 ((F_X3_part_1 x4 2 (wI q16.2 22 x4.toNatClampNeg q16.1)).bind (fun q18 => gi x4 10 (L_X2_take_11 n (x4 + 1) (wI q18.2 23 x4.toNatClampNeg q18.1)))))))) := rfl
set_option maxRecDepth 100000 in
set_option maxHeartbeats 4000000 in
theorem B_X2_take_11 : ∀ (n : Nat) (x4 : Int32) (μ : Mm) (q : Mm), L_X2_take_11  n x4 μ = some q → G wC RX2 cX2_take 5 none 2 none q 11 [(0, .ref 20), (1, .ref 1), (2, .ref 3), (3, .ref 5), (4, .int x4)] [] μ := by
  intro n
  induction n with
  | zero =>
    intro x4 μ q  h
    cases h
  | succ n ih =>
    intro x4 μ q  h
    rw [L_X2_take_11_s] at h
    refine G_iload (pc := 11) 4 dX2_take_11 rfl ?_
    refine G_aload_n (pc := 13) 0 dX2_take_13 rfl ?_
    refine gwC_X2_9_20 (pc := 14) dX2_take_14 ?_
    refine G_icmp_ge (pc := 17) 68 dX2_take_17 (by decide) (fun c2 => ?_) (fun c2 => ?_)
    · replace h := itp c2 h
      refine G_aload_n (pc := 68) 0 dX2_take_68 rfl ?_
      refine G_aload_n (pc := 69) 2 dX2_take_69 rfl ?_
      obtain ⟨q3, e3, h⟩ := bnd_some h
      refine G_callV0r (pc := 70) 3 3 dX2_take_70 wv_X2_56 cd_X3_size (S_X3_size_3 _ _ e3) (by decide) (by decide) rfl (by decide) (fun _ _ => ⟨_, rfl⟩) (Nat.le_of_ble_eq_true rfl) ?_
      refine pwC_X2_25_20 (pc := 73) dX2_take_73 ?_
      refine G_iconst (pc := 76) (0) dX2_take_76 ci_0 ?_
      refine G_istore (pc := 77) [(4, .int _), (0, .ref _), (1, .ref _), (2, .ref _), (3, .ref _)] dX2_take_77 (Nat.le_of_ble_eq_true rfl) rfl ?_
      refine G_loc [1, 3, 4, 0] [(0, .ref _), (2, .ref _), (3, .ref _), (4, .int _)] rfl ?_
      exact B_X2_take_79 _ _ _ _ h
    · replace h := itn c2 h
      refine G_aload_n (pc := 20) 0 dX2_take_20 rfl ?_
      refine gwC_X2_15_20 (pc := 21) dX2_take_21 ?_
      refine G_iload (pc := 24) 4 dX2_take_24 rfl ?_
      refine G_aload_n (pc := 26) 1 dX2_take_26 rfl ?_
      refine G_iload (pc := 27) 4 dX2_take_27 rfl ?_
      refine G_iconst (pc := 29) (0) dX2_take_29 ci_0 ?_
      obtain ⟨q14, e14, h⟩ := bnd_some h
      refine G_callV2r (pc := 30) 1 3 dX2_take_30 wv_X2_62 cd_X3_part (S_X3_part_1 _ _ _ _ e14) (by decide) (by decide) rfl (by decide) (fun _ _ => ⟨_, rfl⟩) (Nat.le_of_ble_eq_true rfl) ?_
      obtain ⟨g15, h⟩ := gi_some h
      refine aswC_21 (pc := 33) dX2_take_33 g15 ?_
      refine G_aload_n (pc := 34) 0 dX2_take_34 rfl ?_
      refine gwC_X2_19_20 (pc := 35) dX2_take_35 ?_
      refine G_iload (pc := 38) 4 dX2_take_38 rfl ?_
      refine G_aload_n (pc := 40) 1 dX2_take_40 rfl ?_
      refine G_iload (pc := 41) 4 dX2_take_41 rfl ?_
      refine G_iconst (pc := 43) (1) dX2_take_43 ci_1 ?_
      obtain ⟨q16, e16, h⟩ := bnd_some h
      refine G_callV2r (pc := 44) 1 3 dX2_take_44 wv_X2_62 cd_X3_part (S_X3_part_1 _ _ _ _ e16) (by decide) (by decide) rfl (by decide) (fun _ _ => ⟨_, rfl⟩) (Nat.le_of_ble_eq_true rfl) ?_
      obtain ⟨g17, h⟩ := gi_some h
      refine aswC_22 (pc := 47) dX2_take_47 g17 ?_
      refine G_aload_n (pc := 48) 0 dX2_take_48 rfl ?_
      refine gwC_X2_22_20 (pc := 49) dX2_take_49 ?_
      refine G_iload (pc := 52) 4 dX2_take_52 rfl ?_
      refine G_aload_n (pc := 54) 1 dX2_take_54 rfl ?_
      refine G_iload (pc := 55) 4 dX2_take_55 rfl ?_
      refine G_iconst (pc := 57) (2) dX2_take_57 ci_2 ?_
      obtain ⟨q18, e18, h⟩ := bnd_some h
      refine G_callV2r (pc := 58) 1 3 dX2_take_58 wv_X2_62 cd_X3_part (S_X3_part_1 _ _ _ _ e18) (by decide) (by decide) rfl (by decide) (fun _ _ => ⟨_, rfl⟩) (Nat.le_of_ble_eq_true rfl) ?_
      obtain ⟨g19, h⟩ := gi_some h
      refine aswC_23 (pc := 61) dX2_take_61 g19 ?_
      refine G_iinc (pc := 62) (1) 4 [(4, .int _), (0, .ref _), (1, .ref _), (2, .ref _), (3, .ref _)] dX2_take_62 ci_1 rfl (Nat.le_of_ble_eq_true rfl) rfl ?_
      refine G_goto (pc := 65) 11 dX2_take_65 (by decide) ?_
      refine G_loc [1, 2, 3, 4, 0] [(0, .ref _), (1, .ref _), (2, .ref _), (3, .ref _), (4, .int _)] rfl ?_
      exact ih _ _ _ h
def F_X2_take  (μ : Mm) : Option Mm := (F_X3_size_1 μ).bind (fun q1 => L_X2_take_11 FUEL 0 (wI q1.2 20 1 q1.1))
set_option maxRecDepth 100000 in
set_option maxHeartbeats 4000000 in
theorem S_X2_take   (μ : Mm) (q : Mm) (h : F_X2_take  μ = some q) : Cn wC yX2_take cX2_take 5 none 2 [.ref 20, .ref 1, .ref 3, .ref 5] μ none q := by
  refine Cn_of (by decide +kernel) (Nat.le_of_ble_eq_true rfl) ?_
  show G wC RX2 cX2_take 5 none 2 none q 0 [(0, .ref 20), (1, .ref 1), (2, .ref 3), (3, .ref 5)] [] μ
  unfold F_X2_take at h
  refine G_aload_n (pc := 0) 0 dX2_take_0 rfl ?_
  refine G_aload_n (pc := 1) 1 dX2_take_1 rfl ?_
  obtain ⟨q1, e1, h⟩ := bnd_some h
  refine G_callV0r (pc := 2) 1 3 dX2_take_2 wv_X2_56 cd_X3_size (S_X3_size_1 _ _ e1) (by decide) (by decide) rfl (by decide) (fun _ _ => ⟨_, rfl⟩) (Nat.le_of_ble_eq_true rfl) ?_
  refine pwC_X2_9_20 (pc := 5) dX2_take_5 ?_
  refine G_iconst (pc := 8) (0) dX2_take_8 ci_0 ?_
  refine G_istore (pc := 9) [(4, .int _), (0, .ref _), (1, .ref _), (2, .ref _), (3, .ref _)] dX2_take_9 (Nat.le_of_ble_eq_true rfl) rfl ?_
  refine G_loc [1, 2, 3, 4, 0] [(0, .ref _), (1, .ref _), (2, .ref _), (3, .ref _), (4, .int _)] rfl ?_
  exact B_X2_take_11 _ _ _ _ h
def F_X8_planAsTold  (μ : Mm) : Option Mm := (F_X2_take μ).bind (fun q1 => some q1)
set_option maxRecDepth 100000 in
set_option maxHeartbeats 4000000 in
theorem S_X8_planAsTold   (μ : Mm) (q : Mm) (h : F_X8_planAsTold  μ = some q) : Cn wC yX8_planAsTold cX8_planAsTold 1 none 3 [.ref 0] μ none q := by
  refine Cn_of (by decide +kernel) (Nat.le_of_ble_eq_true rfl) ?_
  show G wC RX8 cX8_planAsTold 1 none 3 none q 0 [(0, .ref 0)] [] μ
  unfold F_X8_planAsTold at h
  refine G_aload_n (pc := 0) 0 dX8_planAsTold_0 rfl ?_
  refine gwC_X8_53_0 (pc := 1) dX8_planAsTold_1 ?_
  refine G_aload_n (pc := 4) 0 dX8_planAsTold_4 rfl ?_
  refine gwC_X8_14_0 (pc := 5) dX8_planAsTold_5 ?_
  refine G_aload_n (pc := 8) 0 dX8_planAsTold_8 rfl ?_
  refine gwC_X8_18_0 (pc := 9) dX8_planAsTold_9 ?_
  refine G_aload_n (pc := 12) 0 dX8_planAsTold_12 rfl ?_
  refine gwC_X8_24_0 (pc := 13) dX8_planAsTold_13 ?_
  obtain ⟨q1, e1, h⟩ := bnd_some h
  refine G_callV3v (pc := 16) 20 2 dX8_planAsTold_16 wv_X8_331 cd_X2_take (S_X2_take _ _ e1) (by decide) (by decide) rfl (by decide) (fun _ _ => ⟨_, rfl⟩) (Nat.le_of_ble_eq_true rfl) ?_
  obtain rfl := Option.some.inj h
  exact G_vret (pc := 19) rfl dX8_planAsTold_19
def L_X7_begin_7 : Nat → Int32 → Mm → Option Mm
  | 0, _, _ => none
  | n + 1, x2, μ => if 10 ≤ x2 then some μ else gi x2 10 (gi x2 10 (gi x2 10 (gi x2 10 (L_X7_begin_7 n (x2 + 1) (wI (wI (wI μ 29 x2.toNatClampNeg (μ.1 22 x2.toNatClampNeg)) 30 x2.toNatClampNeg 0) 31 x2.toNatClampNeg 0)))))
set_option maxRecDepth 100000 in
set_option maxHeartbeats 4000000 in
theorem L_X7_begin_7_s (n : Nat) (x2 : Int32) (μ : Mm) : L_X7_begin_7  (n + 1) x2 μ = (if 10 ≤ x2 then some μ else gi x2 10 (gi x2 10 (gi x2 10 (gi x2 10 (L_X7_begin_7 n (x2 + 1) (wI (wI (wI μ 29 x2.toNatClampNeg (μ.1 22 x2.toNatClampNeg)) 30 x2.toNatClampNeg 0) 31 x2.toNatClampNeg 0)))))) := rfl
set_option maxRecDepth 100000 in
set_option maxHeartbeats 4000000 in
theorem B_X7_begin_7 : ∀ (n : Nat) (x2 : Int32) (μ : Mm) (q : Mm), L_X7_begin_7  n x2 μ = some q → G wC RX7 cX7_begin 3 none 0 none q 7 [(0, .ref 28), (1, .ref 20), (2, .int x2)] [] μ := by
  intro n
  induction n with
  | zero =>
    intro x2 μ q  h
    cases h
  | succ n ih =>
    intro x2 μ q  h
    rw [L_X7_begin_7_s] at h
    refine G_iload_n (pc := 7) 2 dX7_begin_7 rfl ?_
    refine G_bipush (pc := 8) (10) dX7_begin_8 bp_10 ?_
    refine G_icmp_ge (pc := 10) 45 dX7_begin_10 (by decide) (fun c1 => ?_) (fun c1 => ?_)
    · replace h := itp c1 h
      obtain rfl := Option.some.inj h
      exact G_vret (pc := 45) rfl dX7_begin_45
    · replace h := itn c1 h
      refine G_aload_n (pc := 13) 0 dX7_begin_13 rfl ?_
      refine gwC_X7_9_28 (pc := 14) dX7_begin_14 ?_
      refine G_iload_n (pc := 17) 2 dX7_begin_17 rfl ?_
      refine G_aload_n (pc := 18) 1 dX7_begin_18 rfl ?_
      refine gwC_X7_61_20 (pc := 19) dX7_begin_19 ?_
      refine G_iload_n (pc := 22) 2 dX7_begin_22 rfl ?_
      obtain ⟨g2, h⟩ := gi_some h
      refine alwC_22 (pc := 23) dX7_begin_23 g2 ?_
      obtain ⟨g3, h⟩ := gi_some h
      refine aswC_29 (pc := 24) dX7_begin_24 g3 ?_
      refine G_aload_n (pc := 25) 0 dX7_begin_25 rfl ?_
      refine gwC_X7_15_28 (pc := 26) dX7_begin_26 ?_
      refine G_iload_n (pc := 29) 2 dX7_begin_29 rfl ?_
      refine G_iconst (pc := 30) (0) dX7_begin_30 ci_0 ?_
      obtain ⟨g4, h⟩ := gi_some h
      refine aswC_30 (pc := 31) dX7_begin_31 g4 ?_
      refine G_aload_n (pc := 32) 0 dX7_begin_32 rfl ?_
      refine gwC_X7_18_28 (pc := 33) dX7_begin_33 ?_
      refine G_iload_n (pc := 36) 2 dX7_begin_36 rfl ?_
      refine G_iconst (pc := 37) (0) dX7_begin_37 ci_0 ?_
      obtain ⟨g5, h⟩ := gi_some h
      refine aswC_31 (pc := 38) dX7_begin_38 g5 ?_
      refine G_iinc (pc := 39) (1) 2 [(2, .int _), (0, .ref _), (1, .ref _)] dX7_begin_39 ci_1 rfl (Nat.le_of_ble_eq_true rfl) rfl ?_
      refine G_goto (pc := 42) 7 dX7_begin_42 (by decide) ?_
      refine G_loc [1, 2, 0] [(0, .ref _), (1, .ref _), (2, .int _)] rfl ?_
      exact ih _ _ _ h
def F_X7_begin  (μ : Mm) : Option Mm := L_X7_begin_7 FUEL 0 (wI μ 28 5 0)
set_option maxRecDepth 100000 in
set_option maxHeartbeats 4000000 in
theorem S_X7_begin   (μ : Mm) (q : Mm) (h : F_X7_begin  μ = some q) : Cn wC yX7_begin cX7_begin 3 none 0 [.ref 28, .ref 20] μ none q := by
  refine Cn_of (by decide +kernel) (Nat.le_of_ble_eq_true rfl) ?_
  show G wC RX7 cX7_begin 3 none 0 none q 0 [(0, .ref 28), (1, .ref 20)] [] μ
  unfold F_X7_begin at h
  refine G_aload_n (pc := 0) 0 dX7_begin_0 rfl ?_
  refine G_iconst (pc := 1) (0) dX7_begin_1 ci_0 ?_
  refine pwC_X7_27_28 (pc := 2) dX7_begin_2 ?_
  refine G_iconst (pc := 5) (0) dX7_begin_5 ci_0 ?_
  refine G_istore_n (pc := 6) [(2, .int _), (0, .ref _), (1, .ref _)] dX7_begin_6 (Nat.le_of_ble_eq_true rfl) rfl ?_
  refine G_loc [1, 2, 0] [(0, .ref _), (1, .ref _), (2, .int _)] rfl ?_
  exact B_X7_begin_7 _ _ _ _ h
def F_J9_max_7cf53 (x0 : Int32) (x1 : Int32) (μ : Mm) : Option (Int32 × Mm) := some ((if x0 < x1 then x1 else x0), μ)
set_option maxRecDepth 100000 in
set_option maxHeartbeats 4000000 in
theorem S_J9_max_7cf53 (x0 : Int32) (x1 : Int32)  (μ : Mm) (q : (Int32 × Mm)) (h : F_J9_max_7cf53 x0 x1 μ = some q) : Cn wC yJ9_max_7cf53 cJ9_max_7cf53 2 (some .int) 0 [.int x0, .int x1] μ (some (.int q.1)) q.2 := by
  refine Cn_of (by decide +kernel) (Nat.le_of_ble_eq_true rfl) ?_
  show G wC RJ9 cJ9_max_7cf53 2 (some .int) 0 (some (.int q.1)) q.2 0 [(0, .int x0), (1, .int x1)] [] μ
  unfold F_J9_max_7cf53 at h
  refine G_iload_n (pc := 0) 0 dJ9_max_7cf53_0 rfl ?_
  refine G_iload_n (pc := 1) 1 dJ9_max_7cf53_1 rfl ?_
  refine G_icmp_lt (pc := 2) 9 dJ9_max_7cf53_2 (by decide) (fun c1 => ?_) (fun c1 => ?_)
  · rw [if_pos c1] at h
    refine G_iload_n (pc := 9) 1 dJ9_max_7cf53_9 rfl ?_
    obtain rfl := Option.some.inj h
    exact G_iret (pc := 10) rfl dJ9_max_7cf53_10
  · rw [if_neg c1] at h
    refine G_iload_n (pc := 5) 0 dJ9_max_7cf53_5 rfl ?_
    refine G_goto (pc := 6) 10 dJ9_max_7cf53_6 (by decide) ?_
    obtain rfl := Option.some.inj h
    exact G_iret (pc := 10) rfl dJ9_max_7cf53_10
def F_J9_min_7cf53 (x0 : Int32) (x1 : Int32) (μ : Mm) : Option (Int32 × Mm) := some ((if x1 < x0 then x1 else x0), μ)
set_option maxRecDepth 100000 in
set_option maxHeartbeats 4000000 in
theorem S_J9_min_7cf53 (x0 : Int32) (x1 : Int32)  (μ : Mm) (q : (Int32 × Mm)) (h : F_J9_min_7cf53 x0 x1 μ = some q) : Cn wC yJ9_min_7cf53 cJ9_min_7cf53 2 (some .int) 0 [.int x0, .int x1] μ (some (.int q.1)) q.2 := by
  refine Cn_of (by decide +kernel) (Nat.le_of_ble_eq_true rfl) ?_
  show G wC RJ9 cJ9_min_7cf53 2 (some .int) 0 (some (.int q.1)) q.2 0 [(0, .int x0), (1, .int x1)] [] μ
  unfold F_J9_min_7cf53 at h
  refine G_iload_n (pc := 0) 0 dJ9_min_7cf53_0 rfl ?_
  refine G_iload_n (pc := 1) 1 dJ9_min_7cf53_1 rfl ?_
  refine G_icmp_gt (pc := 2) 9 dJ9_min_7cf53_2 (by decide) (fun c1 => ?_) (fun c1 => ?_)
  · rw [if_pos c1] at h
    refine G_iload_n (pc := 9) 1 dJ9_min_7cf53_9 rfl ?_
    obtain rfl := Option.some.inj h
    exact G_iret (pc := 10) rfl dJ9_min_7cf53_10
  · rw [if_neg c1] at h
    refine G_iload_n (pc := 5) 0 dJ9_min_7cf53_5 rfl ?_
    refine G_goto (pc := 6) 10 dJ9_min_7cf53_6 (by decide) ?_
    obtain rfl := Option.some.inj h
    exact G_iret (pc := 10) rfl dJ9_min_7cf53_10
def L_X7_happen_53 : Nat → Int32 → Mm → Option Mm
  | 0, _, _ => none
  | n + 1, x3, μ => if 10 ≤ x3 then some μ else gi x3 10 ((F_J9_max_7cf53 0 ((μ.1 30 x3.toNatClampNeg) - 1) μ).bind (fun q5 => gi x3 10 (L_X7_happen_53 n (x3 + 1) (wI q5.2 30 x3.toNatClampNeg q5.1))))
set_option maxRecDepth 100000 in
set_option maxHeartbeats 4000000 in
theorem L_X7_happen_53_s (n : Nat) (x3 : Int32) (μ : Mm) : L_X7_happen_53  (n + 1) x3 μ = (if 10 ≤ x3 then some μ else gi x3 10 ((F_J9_max_7cf53 0 ((μ.1 30 x3.toNatClampNeg) - 1) μ).bind (fun q5 => gi x3 10 (L_X7_happen_53 n (x3 + 1) (wI q5.2 30 x3.toNatClampNeg q5.1))))) := rfl
set_option maxRecDepth 100000 in
set_option maxHeartbeats 4000000 in
theorem B_X7_happen_53 : ∀ (n : Nat) (x3 : Int32) (μ : Mm) (q : Mm), L_X7_happen_53  n x3 μ = some q → G wC RX7 cX7_happen 4 none 1 none q 53 [(0, .ref 28), (3, .int x3)] [] μ := by
  intro n
  induction n with
  | zero =>
    intro x3 μ q  h
    cases h
  | succ n ih =>
    intro x3 μ q  h
    rw [L_X7_happen_53_s] at h
    refine G_iload_n (pc := 53) 1 dX7_happen_53 rfl ?_
    refine G_bipush (pc := 54) (10) dX7_happen_54 bp_10 ?_
    refine G_icmp_ge (pc := 56) 83 dX7_happen_56 (by decide) (fun c3 => ?_) (fun c3 => ?_)
    · replace h := itp c3 h
      obtain rfl := Option.some.inj h
      exact G_vret (pc := 83) rfl dX7_happen_83
    · replace h := itn c3 h
      refine G_aload_n (pc := 59) 0 dX7_happen_59 rfl ?_
      refine gwC_X7_15_28 (pc := 60) dX7_happen_60 ?_
      refine G_iload_n (pc := 63) 1 dX7_happen_63 rfl ?_
      refine G_iconst (pc := 64) (0) dX7_happen_64 ci_0 ?_
      refine G_aload_n (pc := 65) 0 dX7_happen_65 rfl ?_
      refine gwC_X7_15_28 (pc := 66) dX7_happen_66 ?_
      refine G_iload_n (pc := 69) 1 dX7_happen_69 rfl ?_
      obtain ⟨g4, h⟩ := gi_some h
      refine alwC_30 (pc := 70) dX7_happen_70 g4 ?_
      refine G_iconst (pc := 71) (1) dX7_happen_71 ci_1 ?_
      refine G_isub (pc := 72) dX7_happen_72 ?_
      obtain ⟨q5, e5, h⟩ := bnd_some h
      refine G_callS2r (pc := 73) dX7_happen_73 ws_X7_96 cd_J9_max_7cf53 (S_J9_max_7cf53 _ _ _ _ e5) (by decide) (by decide) (Nat.le_of_ble_eq_true rfl) ?_
      obtain ⟨g6, h⟩ := gi_some h
      refine aswC_30 (pc := 76) dX7_happen_76 g6 ?_
      refine G_iinc (pc := 77) (1) 1 [(3, .int _), (0, .ref _)] dX7_happen_77 ci_1 rfl (Nat.le_of_ble_eq_true rfl) rfl ?_
      refine G_goto (pc := 80) 53 dX7_happen_80 (by decide) ?_
      refine G_loc [1, 0] [(0, .ref _), (3, .int _)] rfl ?_
      exact ih _ _ _ h
def F_X7_happen (x1 : Int32) (x2 : Int32) (μ : Mm) : Option Mm := if x1 = 0 then gi x2 10 ((F_J9_min_7cf53 9 ((μ.1 29 x2.toNatClampNeg) + 2) μ).bind (fun q8 => gi x2 10 (some (wI q8.2 29 x2.toNatClampNeg q8.1)))) else if x1 = 1 then some (wI μ 28 7 ((μ.1 28 7) ||| (1 <<< (x2 &&& 31)))) else L_X7_happen_53 FUEL 0 (wI μ 28 8 1)
set_option maxRecDepth 100000 in
set_option maxHeartbeats 4000000 in
theorem S_X7_happen (x1 : Int32) (x2 : Int32)  (μ : Mm) (q : Mm) (h : F_X7_happen x1 x2 μ = some q) : Cn wC yX7_happen cX7_happen 4 none 1 [.ref 28, .int x1, .int x2] μ none q := by
  refine Cn_of (by decide +kernel) (Nat.le_of_ble_eq_true rfl) ?_
  show G wC RX7 cX7_happen 4 none 1 none q 0 [(0, .ref 28), (1, .int x1), (2, .int x2)] [] μ
  unfold F_X7_happen at h
  refine G_iload_n (pc := 0) 1 dX7_happen_0 rfl ?_
  refine G_if_ne (pc := 1) 26 dX7_happen_1 (by decide) (fun c1 => ?_) (fun c1 => ?_)
  · replace h := itn c1 h
    refine G_iload_n (pc := 26) 1 dX7_happen_26 rfl ?_
    refine G_iconst (pc := 27) (1) dX7_happen_27 ci_1 ?_
    refine G_icmp_ne (pc := 28) 46 dX7_happen_28 (by decide) (fun c2 => ?_) (fun c2 => ?_)
    · replace h := itn c2 h
      refine G_aload_n (pc := 46) 0 dX7_happen_46 rfl ?_
      refine G_iconst (pc := 47) (1) dX7_happen_47 ci_1 ?_
      refine pwC_X7_37_28 (pc := 48) dX7_happen_48 (Or.inr rfl) ?_
      refine G_iconst (pc := 51) (0) dX7_happen_51 ci_0 ?_
      refine G_istore_n (pc := 52) [(3, .int _), (0, .ref _), (1, .int _), (2, .int _)] dX7_happen_52 (Nat.le_of_ble_eq_true rfl) rfl ?_
      refine G_loc [1, 0] [(0, .ref _), (3, .int _)] rfl ?_
      exact B_X7_happen_53 _ _ _ _ h
    · replace h := itp c2 h
      refine G_aload_n (pc := 31) 0 dX7_happen_31 rfl ?_
      refine G_dup (pc := 32) dX7_happen_32 rfl ?_
      refine gwC_X7_34_28 (pc := 33) dX7_happen_33 ?_
      refine G_iconst (pc := 36) (1) dX7_happen_36 ci_1 ?_
      refine G_iload_n (pc := 37) 2 dX7_happen_37 rfl ?_
      refine G_ishl (pc := 38) dX7_happen_38 ?_
      refine G_ior (pc := 39) dX7_happen_39 ?_
      refine pwC_X7_34_28 (pc := 40) dX7_happen_40 ?_
      refine G_goto (pc := 43) 83 dX7_happen_43 (by decide) ?_
      obtain rfl := Option.some.inj h
      exact G_vret (pc := 83) rfl dX7_happen_83
  · replace h := itp c1 h
    refine G_aload_n (pc := 4) 0 dX7_happen_4 rfl ?_
    refine gwC_X7_9_28 (pc := 5) dX7_happen_5 ?_
    refine G_iload_n (pc := 8) 2 dX7_happen_8 rfl ?_
    refine G_bipush (pc := 9) (9) dX7_happen_9 bp_9 ?_
    refine G_aload_n (pc := 11) 0 dX7_happen_11 rfl ?_
    refine gwC_X7_9_28 (pc := 12) dX7_happen_12 ?_
    refine G_iload_n (pc := 15) 2 dX7_happen_15 rfl ?_
    obtain ⟨g7, h⟩ := gi_some h
    refine alwC_29 (pc := 16) dX7_happen_16 g7 ?_
    refine G_iconst (pc := 17) (2) dX7_happen_17 ci_2 ?_
    refine G_iadd (pc := 18) dX7_happen_18 ?_
    obtain ⟨q8, e8, h⟩ := bnd_some h
    refine G_callS2r (pc := 19) dX7_happen_19 ws_X7_91 cd_J9_min_7cf53 (S_J9_min_7cf53 _ _ _ _ e8) (by decide) (by decide) (Nat.le_of_ble_eq_true rfl) ?_
    obtain ⟨g9, h⟩ := gi_some h
    refine aswC_29 (pc := 22) dX7_happen_22 g9 ?_
    refine G_goto (pc := 23) 83 dX7_happen_23 (by decide) ?_
    obtain rfl := Option.some.inj h
    exact G_vret (pc := 83) rfl dX7_happen_83
def F_X1_part_7 (x1 : Int32) (x2 : Int32) (μ : Mm) : Option (Int32 × Mm) := gi ((3 * x1) + x2) 24 (some ((μ.1 8 ((3 * x1) + x2).toNatClampNeg), μ))
set_option maxRecDepth 100000 in
set_option maxHeartbeats 4000000 in
theorem S_X1_part_7 (x1 : Int32) (x2 : Int32)  (μ : Mm) (q : (Int32 × Mm)) (h : F_X1_part_7 x1 x2 μ = some q) : Cn wC yX1_part cX1_part 3 (some .int) 0 [.ref 7, .int x1, .int x2] μ (some (.int q.1)) q.2 := by
  refine Cn_of (by decide +kernel) (Nat.le_of_ble_eq_true rfl) ?_
  show G wC RX1 cX1_part 3 (some .int) 0 (some (.int q.1)) q.2 0 [(0, .ref 7), (1, .int x1), (2, .int x2)] [] μ
  unfold F_X1_part_7 at h
  refine G_aload_n (pc := 0) 0 dX1_part_0 rfl ?_
  refine gwC_X1_9_7 (pc := 1) dX1_part_1 ?_
  refine G_iconst (pc := 4) (3) dX1_part_4 ci_3 ?_
  refine G_iload_n (pc := 5) 1 dX1_part_5 rfl ?_
  refine G_imul (pc := 6) dX1_part_6 ?_
  refine G_iload_n (pc := 7) 2 dX1_part_7 rfl ?_
  refine G_iadd (pc := 8) dX1_part_8 ?_
  obtain ⟨g1, h⟩ := gi_some h
  refine alwC_8 (pc := 9) dX1_part_9 g1 ?_
  obtain rfl := Option.some.inj h
  exact G_iret (pc := 10) rfl dX1_part_10
def F_X7_doEvents_85 (K35 : Int32 → Int32 → Mm → Option Mm) (x2 : Int32) (x4 : Int32) (μ : Mm) : Option Mm := K35 x2 (x4 + 1) μ
set_option maxRecDepth 100000 in
set_option maxHeartbeats 4000000 in
theorem B_X7_doEvents_85 (K35 : Int32 → Int32 → Mm → Option Mm) (hK35 : ∀ (x2 : Int32) (x4 : Int32) (μ : Mm) (q : Mm), K35 x2 x4 μ = some q → G wC RX7 cX7_doEvents 5 none 2 none q 35 [(0, .ref 28), (1, .ref 20), (2, .int x2), (3, .ref 7), (4, .int x4)] [] μ) (x2 : Int32) (x4 : Int32) (μ : Mm) (q : Mm)  (h : F_X7_doEvents_85 K35 x2 x4 μ = some q) : G wC RX7 cX7_doEvents 5 none 2 none q 85 [(0, .ref 28), (1, .ref 20), (2, .int x2), (3, .ref 7), (4, .int x4)] [] μ := by
  unfold F_X7_doEvents_85 at h
  refine G_iinc (pc := 85) (1) 4 [(4, .int _), (0, .ref _), (1, .ref _), (2, .int _), (3, .ref _)] dX7_doEvents_85 ci_1 rfl (Nat.le_of_ble_eq_true rfl) rfl ?_
  refine G_goto (pc := 88) 35 dX7_doEvents_88 (by decide) ?_
  refine G_loc [1, 2, 3, 4, 0] [(0, .ref _), (1, .ref _), (2, .int _), (3, .ref _), (4, .int _)] rfl ?_
  exact hK35 _ _ _ _ h
def L_X7_doEvents_35 : Nat → Int32 → Int32 → Mm → Option Mm
  | 0, _, _, _ => none
  | n + 1, x2, x4, μ => if (μ.1 7 1) ≤ x4 then if (μ.1 20 12) = x2 then (F_X7_happen 0 (μ.1 20 11) μ).bind (fun q4 => some q4) else some μ else if (((μ.1 20 10) >>> (x4 &&& 31)) &&& 1) = 0 then (F_X1_part_7 x4 1 μ).bind (fun q6 => if q6.1 = x2 then (F_X1_part_7 x4 0 q6.2).bind (fun q8 => (F_X1_part_7 x4 2 q8.2).bind (fun q9 => (F_X7_happen q8.1 q9.1 q9.2).bind (fun q10 => F_X7_doEvents_85 (L_X7_doEvents_35 n) x2 x4 q10))) else F_X7_doEvents_85 (L_X7_doEvents_35 n) x2 x4 q6.2) else F_X7_doEvents_85 (L_X7_doEvents_35 n) x2 x4 μ
set_option maxRecDepth 100000 in
set_option maxHeartbeats 4000000 in
theorem L_X7_doEvents_35_s (n : Nat) (x2 : Int32) (x4 : Int32) (μ : Mm) : L_X7_doEvents_35  (n + 1) x2 x4 μ = (if (μ.1 7 1) ≤ x4 then if (μ.1 20 12) = x2 then (F_X7_happen 0 (μ.1 20 11) μ).bind (fun q4 => some q4) else some μ else if (((μ.1 20 10) >>> (x4 &&& 31)) &&& 1) = 0 then (F_X1_part_7 x4 1 μ).bind (fun q6 => if q6.1 = x2 then (F_X1_part_7 x4 0 q6.2).bind (fun q8 => (F_X1_part_7 x4 2 q8.2).bind (fun q9 => (F_X7_happen q8.1 q9.1 q9.2).bind (fun q10 => F_X7_doEvents_85 (L_X7_doEvents_35 n) x2 x4 q10))) else F_X7_doEvents_85 (L_X7_doEvents_35 n) x2 x4 q6.2) else F_X7_doEvents_85 (L_X7_doEvents_35 n) x2 x4 μ) := rfl
set_option maxRecDepth 100000 in
set_option maxHeartbeats 4000000 in
theorem B_X7_doEvents_35 : ∀ (n : Nat) (x2 : Int32) (x4 : Int32) (μ : Mm) (q : Mm), L_X7_doEvents_35  n x2 x4 μ = some q → G wC RX7 cX7_doEvents 5 none 2 none q 35 [(0, .ref 28), (1, .ref 20), (2, .int x2), (3, .ref 7), (4, .int x4)] [] μ := by
  intro n
  induction n with
  | zero =>
    intro x2 x4 μ q  h
    cases h
  | succ n ih =>
    intro x2 x4 μ q  h
    rw [L_X7_doEvents_35_s] at h
    refine G_iload (pc := 35) 4 dX7_doEvents_35 rfl ?_
    refine G_aload_n (pc := 37) 3 dX7_doEvents_37 rfl ?_
    refine gwC_X7_69_7 (pc := 38) dX7_doEvents_38 ?_
    refine G_icmp_ge (pc := 41) 91 dX7_doEvents_41 (by decide) (fun c2 => ?_) (fun c2 => ?_)
    · replace h := itp c2 h
      refine G_aload_n (pc := 91) 1 dX7_doEvents_91 rfl ?_
      refine gwC_X7_85_20 (pc := 92) dX7_doEvents_92 ?_
      refine G_iload_n (pc := 95) 2 dX7_doEvents_95 rfl ?_
      refine G_icmp_ne (pc := 96) 108 dX7_doEvents_96 (by decide) (fun c3 => ?_) (fun c3 => ?_)
      · replace h := itn c3 h
        obtain rfl := Option.some.inj h
        exact G_vret (pc := 108) rfl dX7_doEvents_108
      · replace h := itp c3 h
        refine G_aload_n (pc := 99) 0 dX7_doEvents_99 rfl ?_
        refine G_iconst (pc := 100) (0) dX7_doEvents_100 ci_0 ?_
        refine G_aload_n (pc := 101) 1 dX7_doEvents_101 rfl ?_
        refine gwC_X7_88_20 (pc := 102) dX7_doEvents_102 ?_
        obtain ⟨q4, e4, h⟩ := bnd_some h
        refine G_callV2v (pc := 105) 28 6 dX7_doEvents_105 wv_X7_81 cd_X7_happen (S_X7_happen _ _ _ _ e4) (by decide) (by decide) rfl (by decide) (fun _ _ => ⟨_, rfl⟩) (Nat.le_of_ble_eq_true rfl) ?_
        obtain rfl := Option.some.inj h
        exact G_vret (pc := 108) rfl dX7_doEvents_108
    · replace h := itn c2 h
      refine G_aload_n (pc := 44) 1 dX7_doEvents_44 rfl ?_
      refine gwC_X7_74_20 (pc := 45) dX7_doEvents_45 ?_
      refine G_iload (pc := 48) 4 dX7_doEvents_48 rfl ?_
      refine G_ishr (pc := 50) dX7_doEvents_50 ?_
      refine G_iconst (pc := 51) (1) dX7_doEvents_51 ci_1 ?_
      refine G_iand (pc := 52) dX7_doEvents_52 ?_
      refine G_if_ne (pc := 53) 85 dX7_doEvents_53 (by decide) (fun c5 => ?_) (fun c5 => ?_)
      · replace h := itn c5 h
        exact B_X7_doEvents_85 _ ih _ _ _ _ h
      · replace h := itp c5 h
        refine G_aload_n (pc := 56) 3 dX7_doEvents_56 rfl ?_
        refine G_iload (pc := 57) 4 dX7_doEvents_57 rfl ?_
        refine G_iconst (pc := 59) (1) dX7_doEvents_59 ci_1 ?_
        obtain ⟨q6, e6, h⟩ := bnd_some h
        refine G_callV2r (pc := 60) 7 1 dX7_doEvents_60 wv_X7_77 cd_X1_part (S_X1_part_7 _ _ _ _ e6) (by decide) (by decide) rfl (by decide) (fun _ _ => ⟨_, rfl⟩) (Nat.le_of_ble_eq_true rfl) ?_
        refine G_iload_n (pc := 63) 2 dX7_doEvents_63 rfl ?_
        refine G_icmp_ne (pc := 64) 85 dX7_doEvents_64 (by decide) (fun c7 => ?_) (fun c7 => ?_)
        · replace h := itn c7 h
          exact B_X7_doEvents_85 _ ih _ _ _ _ h
        · replace h := itp c7 h
          refine G_aload_n (pc := 67) 0 dX7_doEvents_67 rfl ?_
          refine G_aload_n (pc := 68) 3 dX7_doEvents_68 rfl ?_
          refine G_iload (pc := 69) 4 dX7_doEvents_69 rfl ?_
          refine G_iconst (pc := 71) (0) dX7_doEvents_71 ci_0 ?_
          obtain ⟨q8, e8, h⟩ := bnd_some h
          refine G_callV2r (pc := 72) 7 1 dX7_doEvents_72 wv_X7_77 cd_X1_part (S_X1_part_7 _ _ _ _ e8) (by decide) (by decide) rfl (by decide) (fun _ _ => ⟨_, rfl⟩) (Nat.le_of_ble_eq_true rfl) ?_
          refine G_aload_n (pc := 75) 3 dX7_doEvents_75 rfl ?_
          refine G_iload (pc := 76) 4 dX7_doEvents_76 rfl ?_
          refine G_iconst (pc := 78) (2) dX7_doEvents_78 ci_2 ?_
          obtain ⟨q9, e9, h⟩ := bnd_some h
          refine G_callV2r (pc := 79) 7 1 dX7_doEvents_79 wv_X7_77 cd_X1_part (S_X1_part_7 _ _ _ _ e9) (by decide) (by decide) rfl (by decide) (fun _ _ => ⟨_, rfl⟩) (Nat.le_of_ble_eq_true rfl) ?_
          obtain ⟨q10, e10, h⟩ := bnd_some h
          refine G_callV2v (pc := 82) 28 6 dX7_doEvents_82 wv_X7_81 cd_X7_happen (S_X7_happen _ _ _ _ e10) (by decide) (by decide) rfl (by decide) (fun _ _ => ⟨_, rfl⟩) (Nat.le_of_ble_eq_true rfl) ?_
          exact B_X7_doEvents_85 _ ih _ _ _ _ h
def F_X7_doEvents_24 (x2 : Int32) (y0 : Int32) (μ : Mm) : Option Mm := L_X7_doEvents_35 FUEL x2 0 (wI μ 28 7 y0)
set_option maxRecDepth 100000 in
set_option maxHeartbeats 4000000 in
theorem B_X7_doEvents_24 (x2 : Int32) (y0 : Int32) (μ : Mm) (q : Mm)  (h : F_X7_doEvents_24  x2 y0 μ = some q) : G wC RX7 cX7_doEvents 5 none 2 none q 24 [(0, .ref 28), (1, .ref 20), (2, .int x2)] [.int y0, .ref 28] μ := by
  unfold F_X7_doEvents_24 at h
  refine pwC_X7_34_28 (pc := 24) dX7_doEvents_24 ?_
  refine G_aload_n (pc := 27) 1 dX7_doEvents_27 rfl ?_
  refine gwC_X7_65_20 (pc := 28) dX7_doEvents_28 ?_
  refine G_astore_n (pc := 31) [(3, .ref _), (0, .ref _), (1, .ref _), (2, .int _)] dX7_doEvents_31 (Nat.le_of_ble_eq_true rfl) rfl ?_
  refine G_iconst (pc := 32) (0) dX7_doEvents_32 ci_0 ?_
  refine G_istore (pc := 33) [(4, .int _), (3, .ref _), (0, .ref _), (1, .ref _), (2, .int _)] dX7_doEvents_33 (Nat.le_of_ble_eq_true rfl) rfl ?_
  refine G_loc [2, 3, 4, 1, 0] [(0, .ref _), (1, .ref _), (2, .int _), (3, .ref _), (4, .int _)] rfl ?_
  exact B_X7_doEvents_35 _ _ _ _ _ h
def F_X7_doEvents (x2 : Int32) (μ : Mm) : Option Mm := F_X7_doEvents_24 x2 (if ((wI μ 28 8 0).1 20 13) = (-1) then 0 else (1 <<< (((wI μ 28 8 0).1 20 13) &&& 31))) (wI μ 28 8 0)
set_option maxRecDepth 100000 in
set_option maxHeartbeats 4000000 in
theorem S_X7_doEvents (x2 : Int32)  (μ : Mm) (q : Mm) (h : F_X7_doEvents x2 μ = some q) : Cn wC yX7_doEvents cX7_doEvents 5 none 2 [.ref 28, .ref 20, .int x2] μ none q := by
  refine Cn_of (by decide +kernel) (Nat.le_of_ble_eq_true rfl) ?_
  show G wC RX7 cX7_doEvents 5 none 2 none q 0 [(0, .ref 28), (1, .ref 20), (2, .int x2)] [] μ
  unfold F_X7_doEvents at h
  refine G_aload_n (pc := 0) 0 dX7_doEvents_0 rfl ?_
  refine G_iconst (pc := 1) (0) dX7_doEvents_1 ci_0 ?_
  refine pwC_X7_37_28 (pc := 2) dX7_doEvents_2 (Or.inl rfl) ?_
  refine G_aload_n (pc := 5) 0 dX7_doEvents_5 rfl ?_
  refine G_aload_n (pc := 6) 1 dX7_doEvents_6 rfl ?_
  refine gwC_X7_62_20 (pc := 7) dX7_doEvents_7 ?_
  refine G_iconst (pc := 10) (-1) dX7_doEvents_10 ci_m1 ?_
  refine G_icmp_ne (pc := 11) 18 dX7_doEvents_11 (by decide) (fun c1 => ?_) (fun c1 => ?_)
  · rw [if_neg c1] at h
    refine G_iconst (pc := 18) (1) dX7_doEvents_18 ci_1 ?_
    refine G_aload_n (pc := 19) 1 dX7_doEvents_19 rfl ?_
    refine gwC_X7_62_20 (pc := 20) dX7_doEvents_20 ?_
    refine G_ishl (pc := 23) dX7_doEvents_23 ?_
    exact B_X7_doEvents_24 _ _ _ _ h
  · rw [if_pos c1] at h
    refine G_iconst (pc := 14) (0) dX7_doEvents_14 ci_0 ?_
    refine G_goto (pc := 15) 24 dX7_doEvents_15 (by decide) ?_
    exact B_X7_doEvents_24 _ _ _ _ h
def F_X2_judgeIn (x1 : Int32) (μ : Mm) : Option (Int32 × Mm) := gi x1 12 (if (μ.1 20 5) ≤ (μ.1 27 x1.toNatClampNeg) then some ((-1), μ) else gi x1 12 (some ((μ.1 27 x1.toNatClampNeg), μ)))
set_option maxRecDepth 100000 in
set_option maxHeartbeats 4000000 in
theorem S_X2_judgeIn (x1 : Int32)  (μ : Mm) (q : (Int32 × Mm)) (h : F_X2_judgeIn x1 μ = some q) : Cn wC yX2_judgeIn cX2_judgeIn 2 (some .int) 0 [.ref 20, .int x1] μ (some (.int q.1)) q.2 := by
  refine Cn_of (by decide +kernel) (Nat.le_of_ble_eq_true rfl) ?_
  show G wC RX2 cX2_judgeIn 2 (some .int) 0 (some (.int q.1)) q.2 0 [(0, .ref 20), (1, .int x1)] [] μ
  unfold F_X2_judgeIn at h
  refine G_aload_n (pc := 0) 0 dX2_judgeIn_0 rfl ?_
  refine gwC_X2_37_20 (pc := 1) dX2_judgeIn_1 ?_
  refine G_iload_n (pc := 4) 1 dX2_judgeIn_4 rfl ?_
  obtain ⟨g1, h⟩ := gi_some h
  refine alwC_27 (pc := 5) dX2_judgeIn_5 g1 ?_
  refine G_aload_n (pc := 6) 0 dX2_judgeIn_6 rfl ?_
  refine gwC_X2_25_20 (pc := 7) dX2_judgeIn_7 ?_
  refine G_icmp_ge (pc := 10) 22 dX2_judgeIn_10 (by decide) (fun c2 => ?_) (fun c2 => ?_)
  · replace h := itp c2 h
    refine G_iconst (pc := 22) (-1) dX2_judgeIn_22 ci_m1 ?_
    obtain rfl := Option.some.inj h
    exact G_iret (pc := 23) rfl dX2_judgeIn_23
  · replace h := itn c2 h
    refine G_aload_n (pc := 13) 0 dX2_judgeIn_13 rfl ?_
    refine gwC_X2_37_20 (pc := 14) dX2_judgeIn_14 ?_
    refine G_iload_n (pc := 17) 1 dX2_judgeIn_17 rfl ?_
    obtain ⟨g3, h⟩ := gi_some h
    refine alwC_27 (pc := 18) dX2_judgeIn_18 g3 ?_
    refine G_goto (pc := 19) 23 dX2_judgeIn_19 (by decide) ?_
    obtain rfl := Option.some.inj h
    exact G_iret (pc := 23) rfl dX2_judgeIn_23
def F_X7_scoreBy_82 (x2 : Int32) (x3 : Int32) (x4 : Int32) (μ : Mm) : Option (Int32 × Mm) := gi x3 10 (gi x2 4 (some ((if (μ.1 23 x3.toNatClampNeg) = (μ.1 26 x2.toNatClampNeg) then (x4 + 3) else x4), μ)))
set_option maxRecDepth 100000 in
set_option maxHeartbeats 4000000 in
theorem B_X7_scoreBy_82 (x2 : Int32) (x3 : Int32) (x4 : Int32) (μ : Mm) (q : (Int32 × Mm))  (h : F_X7_scoreBy_82  x2 x3 x4 μ = some q) : G wC RX7 cX7_scoreBy 5 (some .int) 1 (some (.int q.1)) q.2 82 [(1, .ref 20), (2, .int x2), (3, .int x3), (4, .int x4)] [] μ := by
  unfold F_X7_scoreBy_82 at h
  refine G_aload_n (pc := 82) 0 dX7_scoreBy_82 rfl ?_
  refine gwC_X7_115_20 (pc := 83) dX7_scoreBy_83 ?_
  refine G_iload_n (pc := 86) 2 dX7_scoreBy_86 rfl ?_
  obtain ⟨g9, h⟩ := gi_some h
  refine alwC_23 (pc := 87) dX7_scoreBy_87 g9 ?_
  refine G_aload_n (pc := 88) 0 dX7_scoreBy_88 rfl ?_
  refine gwC_X7_118_20 (pc := 89) dX7_scoreBy_89 ?_
  refine G_iload_n (pc := 92) 1 dX7_scoreBy_92 rfl ?_
  obtain ⟨g10, h⟩ := gi_some h
  refine alwC_26 (pc := 93) dX7_scoreBy_93 g10 ?_
  refine G_icmp_ne (pc := 94) 100 dX7_scoreBy_94 (by decide) (fun c11 => ?_) (fun c11 => ?_)
  · rw [if_neg c11] at h
    refine G_iload (pc := 100) 3 dX7_scoreBy_100 rfl ?_
    obtain rfl := Option.some.inj h
    exact G_iret (pc := 102) rfl dX7_scoreBy_102
  · rw [if_pos c11] at h
    refine G_iinc (pc := 97) (3) 3 [(4, .int _), (1, .ref _), (2, .int _), (3, .int _)] dX7_scoreBy_97 ci_3 rfl (Nat.le_of_ble_eq_true rfl) rfl ?_
    refine G_iload (pc := 100) 0 dX7_scoreBy_100 rfl ?_
    obtain rfl := Option.some.inj h
    exact G_iret (pc := 102) rfl dX7_scoreBy_102
def F_X7_scoreBy_56 (x2 : Int32) (x3 : Int32) (x4 : Int32) (μ : Mm) : Option (Int32 × Mm) := gi x3 10 (gi x2 4 (if (μ.1 21 x3.toNatClampNeg) = (μ.1 24 x2.toNatClampNeg) then gi x2 4 (F_X7_scoreBy_82 x2 x3 (x4 + (μ.1 25 x2.toNatClampNeg)) μ) else F_X7_scoreBy_82 x2 x3 x4 μ))
set_option maxRecDepth 100000 in
set_option maxHeartbeats 4000000 in
theorem B_X7_scoreBy_56 (x2 : Int32) (x3 : Int32) (x4 : Int32) (μ : Mm) (q : (Int32 × Mm))  (h : F_X7_scoreBy_56  x2 x3 x4 μ = some q) : G wC RX7 cX7_scoreBy 5 (some .int) 1 (some (.int q.1)) q.2 56 [(1, .ref 20), (2, .int x2), (3, .int x3), (4, .int x4)] [] μ := by
  unfold F_X7_scoreBy_56 at h
  refine G_aload_n (pc := 56) 0 dX7_scoreBy_56 rfl ?_
  refine gwC_X7_106_20 (pc := 57) dX7_scoreBy_57 ?_
  refine G_iload_n (pc := 60) 2 dX7_scoreBy_60 rfl ?_
  obtain ⟨g6, h⟩ := gi_some h
  refine alwC_21 (pc := 61) dX7_scoreBy_61 g6 ?_
  refine G_aload_n (pc := 62) 0 dX7_scoreBy_62 rfl ?_
  refine gwC_X7_109_20 (pc := 63) dX7_scoreBy_63 ?_
  refine G_iload_n (pc := 66) 1 dX7_scoreBy_66 rfl ?_
  obtain ⟨g7, h⟩ := gi_some h
  refine alwC_24 (pc := 67) dX7_scoreBy_67 g7 ?_
  refine G_icmp_ne (pc := 68) 82 dX7_scoreBy_68 (by decide) (fun c8 => ?_) (fun c8 => ?_)
  · replace h := itn c8 h
    exact B_X7_scoreBy_82 _ _ _ _ _ h
  · replace h := itp c8 h
    refine G_iload (pc := 71) 3 dX7_scoreBy_71 rfl ?_
    refine G_aload_n (pc := 73) 0 dX7_scoreBy_73 rfl ?_
    refine gwC_X7_112_20 (pc := 74) dX7_scoreBy_74 ?_
    refine G_iload_n (pc := 77) 1 dX7_scoreBy_77 rfl ?_
    obtain ⟨g12, h⟩ := gi_some h
    refine alwC_25 (pc := 78) dX7_scoreBy_78 g12 ?_
    refine G_iadd (pc := 79) dX7_scoreBy_79 ?_
    refine G_istore (pc := 80) [(4, .int _), (1, .ref _), (2, .int _), (3, .int _)] dX7_scoreBy_80 (Nat.le_of_ble_eq_true rfl) rfl ?_
    refine G_loc [1, 2, 3, 0] [(1, .ref _), (2, .int _), (3, .int _), (4, .int _)] rfl ?_
    exact B_X7_scoreBy_82 _ _ _ _ _ h
def F_X7_scoreBy_29 (x2 : Int32) (x3 : Int32) (x4 : Int32) (μ : Mm) : Option (Int32 × Mm) := gi x3 10 (if (μ.1 21 x3.toNatClampNeg) = 1 then if (μ.1 28 8) = 0 then F_X7_scoreBy_56 x2 x3 x4 μ else (F_J9_max_7cf53 0 (x4 - 2) μ).bind (fun q14 => F_X7_scoreBy_56 x2 x3 q14.1 q14.2) else F_X7_scoreBy_56 x2 x3 x4 μ)
set_option maxRecDepth 100000 in
set_option maxHeartbeats 4000000 in
theorem B_X7_scoreBy_29 (x2 : Int32) (x3 : Int32) (x4 : Int32) (μ : Mm) (q : (Int32 × Mm))  (h : F_X7_scoreBy_29  x2 x3 x4 μ = some q) : G wC RX7 cX7_scoreBy 5 (some .int) 1 (some (.int q.1)) q.2 29 [(0, .ref 28), (1, .ref 20), (2, .int x2), (3, .int x3), (4, .int x4)] [] μ := by
  unfold F_X7_scoreBy_29 at h
  refine G_aload_n (pc := 29) 1 dX7_scoreBy_29 rfl ?_
  refine gwC_X7_106_20 (pc := 30) dX7_scoreBy_30 ?_
  refine G_iload_n (pc := 33) 3 dX7_scoreBy_33 rfl ?_
  obtain ⟨g4, h⟩ := gi_some h
  refine alwC_21 (pc := 34) dX7_scoreBy_34 g4 ?_
  refine G_iconst (pc := 35) (1) dX7_scoreBy_35 ci_1 ?_
  refine G_icmp_ne (pc := 36) 56 dX7_scoreBy_36 (by decide) (fun c5 => ?_) (fun c5 => ?_)
  · replace h := itn c5 h
    refine G_loc [1, 2, 3, 4] [(1, .ref _), (2, .int _), (3, .int _), (4, .int _)] rfl ?_
    exact B_X7_scoreBy_56 _ _ _ _ _ h
  · replace h := itp c5 h
    refine G_aload_n (pc := 39) 0 dX7_scoreBy_39 rfl ?_
    refine gwC_X7_37_28 (pc := 40) dX7_scoreBy_40 ?_
    refine G_if_eq (pc := 43) 56 dX7_scoreBy_43 (by decide) (fun c13 => ?_) (fun c13 => ?_)
    · replace h := itp c13 h
      refine G_loc [1, 2, 3, 4] [(1, .ref _), (2, .int _), (3, .int _), (4, .int _)] rfl ?_
      exact B_X7_scoreBy_56 _ _ _ _ _ h
    · replace h := itn c13 h
      refine G_iconst (pc := 46) (0) dX7_scoreBy_46 ci_0 ?_
      refine G_iload (pc := 47) 4 dX7_scoreBy_47 rfl ?_
      refine G_iconst (pc := 49) (2) dX7_scoreBy_49 ci_2 ?_
      refine G_isub (pc := 50) dX7_scoreBy_50 ?_
      obtain ⟨q14, e14, h⟩ := bnd_some h
      refine G_callS2r (pc := 51) dX7_scoreBy_51 ws_X7_96 cd_J9_max_7cf53 (S_J9_max_7cf53 _ _ _ _ e14) (by decide) (by decide) (Nat.le_of_ble_eq_true rfl) ?_
      refine G_istore (pc := 54) [(4, .int _), (0, .ref _), (1, .ref _), (2, .int _), (3, .int _)] dX7_scoreBy_54 (Nat.le_of_ble_eq_true rfl) rfl ?_
      refine G_loc [2, 3, 4, 0] [(1, .ref _), (2, .int _), (3, .int _), (4, .int _)] rfl ?_
      exact B_X7_scoreBy_56 _ _ _ _ _ h
def F_X7_scoreBy (x2 : Int32) (x3 : Int32) (μ : Mm) : Option (Int32 × Mm) := gi x3 10 (gi x3 10 (if (μ.1 21 x3.toNatClampNeg) = 2 then gi x3 10 (F_X7_scoreBy_29 x2 x3 ((μ.1 29 x3.toNatClampNeg) + (μ.1 31 x3.toNatClampNeg)) μ) else F_X7_scoreBy_29 x2 x3 (μ.1 29 x3.toNatClampNeg) μ))
set_option maxRecDepth 100000 in
set_option maxHeartbeats 4000000 in
theorem S_X7_scoreBy (x2 : Int32) (x3 : Int32)  (μ : Mm) (q : (Int32 × Mm)) (h : F_X7_scoreBy x2 x3 μ = some q) : Cn wC yX7_scoreBy cX7_scoreBy 5 (some .int) 1 [.ref 28, .ref 20, .int x2, .int x3] μ (some (.int q.1)) q.2 := by
  refine Cn_of (by decide +kernel) (Nat.le_of_ble_eq_true rfl) ?_
  show G wC RX7 cX7_scoreBy 5 (some .int) 1 (some (.int q.1)) q.2 0 [(0, .ref 28), (1, .ref 20), (2, .int x2), (3, .int x3)] [] μ
  unfold F_X7_scoreBy at h
  refine G_aload_n (pc := 0) 0 dX7_scoreBy_0 rfl ?_
  refine gwC_X7_9_28 (pc := 1) dX7_scoreBy_1 ?_
  refine G_iload_n (pc := 4) 3 dX7_scoreBy_4 rfl ?_
  obtain ⟨g1, h⟩ := gi_some h
  refine alwC_29 (pc := 5) dX7_scoreBy_5 g1 ?_
  refine G_istore (pc := 6) [(4, .int _), (0, .ref _), (1, .ref _), (2, .int _), (3, .int _)] dX7_scoreBy_6 (Nat.le_of_ble_eq_true rfl) rfl ?_
  refine G_aload_n (pc := 8) 2 dX7_scoreBy_8 rfl ?_
  refine gwC_X7_106_20 (pc := 9) dX7_scoreBy_9 ?_
  refine G_iload_n (pc := 12) 4 dX7_scoreBy_12 rfl ?_
  obtain ⟨g2, h⟩ := gi_some h
  refine alwC_21 (pc := 13) dX7_scoreBy_13 g2 ?_
  refine G_iconst (pc := 14) (2) dX7_scoreBy_14 ci_2 ?_
  refine G_icmp_ne (pc := 15) 29 dX7_scoreBy_15 (by decide) (fun c3 => ?_) (fun c3 => ?_)
  · replace h := itn c3 h
    refine G_loc [1, 2, 3, 4, 0] [(0, .ref _), (1, .ref _), (2, .int _), (3, .int _), (4, .int _)] rfl ?_
    exact B_X7_scoreBy_29 _ _ _ _ _ h
  · replace h := itp c3 h
    refine G_iload (pc := 18) 0 dX7_scoreBy_18 rfl ?_
    refine G_aload_n (pc := 20) 1 dX7_scoreBy_20 rfl ?_
    refine gwC_X7_18_28 (pc := 21) dX7_scoreBy_21 ?_
    refine G_iload_n (pc := 24) 4 dX7_scoreBy_24 rfl ?_
    obtain ⟨g15, h⟩ := gi_some h
    refine alwC_31 (pc := 25) dX7_scoreBy_25 g15 ?_
    refine G_iadd (pc := 26) dX7_scoreBy_26 ?_
    refine G_istore (pc := 27) [(4, .int _), (0, .ref _), (1, .ref _), (2, .int _), (3, .int _)] dX7_scoreBy_27 (Nat.le_of_ble_eq_true rfl) rfl ?_
    refine G_loc [1, 2, 3, 4, 0] [(0, .ref _), (1, .ref _), (2, .int _), (3, .int _), (4, .int _)] rfl ?_
    exact B_X7_scoreBy_29 _ _ _ _ _ h
def F_X7_scoreAll_70 (K7 : Int32 → Int32 → Mm → Option Mm) (x2 : Int32) (x3 : Int32) (μ : Mm) : Option Mm := K7 x2 (x3 + 1) μ
set_option maxRecDepth 100000 in
set_option maxHeartbeats 4000000 in
theorem B_X7_scoreAll_70 (K7 : Int32 → Int32 → Mm → Option Mm) (hK7 : ∀ (x2 : Int32) (x3 : Int32) (μ : Mm) (q : Mm), K7 x2 x3 μ = some q → G wC RX7 cX7_scoreAll 4 none 2 none q 7 [(0, .ref 28), (1, .ref 20), (2, .int x2), (3, .int x3)] [] μ) (x2 : Int32) (x3 : Int32) (μ : Mm) (q : Mm)  (h : F_X7_scoreAll_70 K7 x2 x3 μ = some q) : G wC RX7 cX7_scoreAll 4 none 2 none q 70 [(0, .ref 28), (1, .ref 20), (2, .int x2), (3, .int x3)] [] μ := by
  unfold F_X7_scoreAll_70 at h
  refine G_iinc (pc := 70) (1) 3 [(3, .int _), (0, .ref _), (1, .ref _), (2, .int _)] dX7_scoreAll_70 ci_1 rfl (Nat.le_of_ble_eq_true rfl) rfl ?_
  refine G_goto (pc := 73) 7 dX7_scoreAll_73 (by decide) ?_
  refine G_loc [1, 2, 3, 0] [(0, .ref _), (1, .ref _), (2, .int _), (3, .int _)] rfl ?_
  exact hK7 _ _ _ _ h
def F_X7_scoreAll_37 (K7 : Int32 → Int32 → Mm → Option Mm) (x2 : Int32) (x3 : Int32) (μ : Mm) : Option Mm := gi x3 10 (F_X7_scoreAll_70 K7 x2 x3 (wI μ 32 x3.toNatClampNeg (-1)))
set_option maxRecDepth 100000 in
set_option maxHeartbeats 4000000 in
theorem B_X7_scoreAll_37 (K7 : Int32 → Int32 → Mm → Option Mm) (hK7 : ∀ (x2 : Int32) (x3 : Int32) (μ : Mm) (q : Mm), K7 x2 x3 μ = some q → G wC RX7 cX7_scoreAll 4 none 2 none q 7 [(0, .ref 28), (1, .ref 20), (2, .int x2), (3, .int x3)] [] μ) (x2 : Int32) (x3 : Int32) (μ : Mm) (q : Mm)  (h : F_X7_scoreAll_37 K7 x2 x3 μ = some q) : G wC RX7 cX7_scoreAll 4 none 2 none q 37 [(0, .ref 28), (1, .ref 20), (2, .int x2), (3, .int x3)] [] μ := by
  unfold F_X7_scoreAll_37 at h
  refine G_aload_n (pc := 37) 0 dX7_scoreAll_37 rfl ?_
  refine gwC_X7_21_28 (pc := 38) dX7_scoreAll_38 ?_
  refine G_iload_n (pc := 41) 3 dX7_scoreAll_41 rfl ?_
  refine G_iconst (pc := 42) (-1) dX7_scoreAll_42 ci_m1 ?_
  obtain ⟨g3, h⟩ := gi_some h
  refine aswC_32 (pc := 43) dX7_scoreAll_43 g3 ?_
  refine G_goto (pc := 44) 70 dX7_scoreAll_44 (by decide) ?_
  exact B_X7_scoreAll_70 _ hK7 _ _ _ _ h
def L_X7_scoreAll_7 : Nat → Int32 → Int32 → Mm → Option Mm
  | 0, _, _, _ => none
  | n + 1, x2, x3, μ => if (μ.1 20 1) ≤ x3 then some μ else if x2 = (-1) then F_X7_scoreAll_37 (L_X7_scoreAll_7 n) x2 x3 μ else if ((((μ.1 28 7) ||| (μ.1 28 5)) >>> (x3 &&& 31)) &&& 1) = 1 then F_X7_scoreAll_37 (L_X7_scoreAll_7 n) x2 x3 μ else (F_X7_scoreBy x2 x3 μ).bind (fun q5 => gi x3 10 (F_X7_scoreAll_70 (L_X7_scoreAll_7 n) x2 x3 (wI (wI q5.2 32 x3.toNatClampNeg q5.1) 28 6 (((wI q5.2 32 x3.toNatClampNeg q5.1).1 28 6) + 1))))
set_option maxRecDepth 100000 in
set_option maxHeartbeats 4000000 in
theorem L_X7_scoreAll_7_s (n : Nat) (x2 : Int32) (x3 : Int32) (μ : Mm) : L_X7_scoreAll_7  (n + 1) x2 x3 μ = (if (μ.1 20 1) ≤ x3 then some μ else if x2 = (-1) then F_X7_scoreAll_37 (L_X7_scoreAll_7 n) x2 x3 μ else if ((((μ.1 28 7) ||| (μ.1 28 5)) >>> (x3 &&& 31)) &&& 1) = 1 then F_X7_scoreAll_37 (L_X7_scoreAll_7 n) x2 x3 μ else (F_X7_scoreBy x2 x3 μ).bind (fun q5 => gi x3 10 (F_X7_scoreAll_70 (L_X7_scoreAll_7 n) x2 x3 (wI (wI q5.2 32 x3.toNatClampNeg q5.1) 28 6 (((wI q5.2 32 x3.toNatClampNeg q5.1).1 28 6) + 1))))) := rfl
set_option maxRecDepth 100000 in
set_option maxHeartbeats 4000000 in
theorem B_X7_scoreAll_7 : ∀ (n : Nat) (x2 : Int32) (x3 : Int32) (μ : Mm) (q : Mm), L_X7_scoreAll_7  n x2 x3 μ = some q → G wC RX7 cX7_scoreAll 4 none 2 none q 7 [(0, .ref 28), (1, .ref 20), (2, .int x2), (3, .int x3)] [] μ := by
  intro n
  induction n with
  | zero =>
    intro x2 x3 μ q  h
    cases h
  | succ n ih =>
    intro x2 x3 μ q  h
    rw [L_X7_scoreAll_7_s] at h
    refine G_iload_n (pc := 7) 3 dX7_scoreAll_7 rfl ?_
    refine G_aload_n (pc := 8) 1 dX7_scoreAll_8 rfl ?_
    refine gwC_X7_99_20 (pc := 9) dX7_scoreAll_9 ?_
    refine G_icmp_ge (pc := 12) 76 dX7_scoreAll_12 (by decide) (fun c1 => ?_) (fun c1 => ?_)
    · replace h := itp c1 h
      obtain rfl := Option.some.inj h
      exact G_vret (pc := 76) rfl dX7_scoreAll_76
    · replace h := itn c1 h
      refine G_iload_n (pc := 15) 2 dX7_scoreAll_15 rfl ?_
      refine G_iconst (pc := 16) (-1) dX7_scoreAll_16 ci_m1 ?_
      refine G_icmp_eq (pc := 17) 37 dX7_scoreAll_17 (by decide) (fun c2 => ?_) (fun c2 => ?_)
      · replace h := itp c2 h
        exact B_X7_scoreAll_37 _ ih _ _ _ _ h
      · replace h := itn c2 h
        refine G_aload_n (pc := 20) 0 dX7_scoreAll_20 rfl ?_
        refine gwC_X7_34_28 (pc := 21) dX7_scoreAll_21 ?_
        refine G_aload_n (pc := 24) 0 dX7_scoreAll_24 rfl ?_
        refine gwC_X7_27_28 (pc := 25) dX7_scoreAll_25 ?_
        refine G_ior (pc := 28) dX7_scoreAll_28 ?_
        refine G_iload_n (pc := 29) 3 dX7_scoreAll_29 rfl ?_
        refine G_ishr (pc := 30) dX7_scoreAll_30 ?_
        refine G_iconst (pc := 31) (1) dX7_scoreAll_31 ci_1 ?_
        refine G_iand (pc := 32) dX7_scoreAll_32 ?_
        refine G_iconst (pc := 33) (1) dX7_scoreAll_33 ci_1 ?_
        refine G_icmp_ne (pc := 34) 47 dX7_scoreAll_34 (by decide) (fun c4 => ?_) (fun c4 => ?_)
        · replace h := itn c4 h
          refine G_aload_n (pc := 47) 0 dX7_scoreAll_47 rfl ?_
          refine gwC_X7_21_28 (pc := 48) dX7_scoreAll_48 ?_
          refine G_iload_n (pc := 51) 3 dX7_scoreAll_51 rfl ?_
          refine G_aload_n (pc := 52) 0 dX7_scoreAll_52 rfl ?_
          refine G_aload_n (pc := 53) 1 dX7_scoreAll_53 rfl ?_
          refine G_iload_n (pc := 54) 2 dX7_scoreAll_54 rfl ?_
          refine G_iload_n (pc := 55) 3 dX7_scoreAll_55 rfl ?_
          obtain ⟨q5, e5, h⟩ := bnd_some h
          refine G_callV3r (pc := 56) 28 6 dX7_scoreAll_56 wv_X7_102 cd_X7_scoreBy (S_X7_scoreBy _ _ _ _ e5) (by decide) (by decide) rfl (by decide) (fun _ _ => ⟨_, rfl⟩) (Nat.le_of_ble_eq_true rfl) ?_
          obtain ⟨g6, h⟩ := gi_some h
          refine aswC_32 (pc := 59) dX7_scoreAll_59 g6 ?_
          refine G_aload_n (pc := 60) 0 dX7_scoreAll_60 rfl ?_
          refine G_dup (pc := 61) dX7_scoreAll_61 rfl ?_
          refine gwC_X7_31_28 (pc := 62) dX7_scoreAll_62 ?_
          refine G_iconst (pc := 65) (1) dX7_scoreAll_65 ci_1 ?_
          refine G_iadd (pc := 66) dX7_scoreAll_66 ?_
          refine pwC_X7_31_28 (pc := 67) dX7_scoreAll_67 ?_
          exact B_X7_scoreAll_70 _ ih _ _ _ _ h
        · replace h := itp c4 h
          exact B_X7_scoreAll_37 _ ih _ _ _ _ h
