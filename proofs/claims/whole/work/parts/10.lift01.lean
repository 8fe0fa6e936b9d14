def F_X7_scoreAll (x2 : Int32) (μ : Mm) : Option Mm := L_X7_scoreAll_7 FUEL x2 0 (wI μ 28 6 0)
set_option maxRecDepth 100000 in
set_option maxHeartbeats 4000000 in
theorem S_X7_scoreAll (x2 : Int32)  (μ : Mm) (q : Mm) (h : F_X7_scoreAll x2 μ = some q) : Cn wC yX7_scoreAll cX7_scoreAll 4 none 2 [.ref 28, .ref 20, .int x2] μ none q := by
  refine Cn_of (by decide +kernel) (Nat.le_of_ble_eq_true rfl) ?_
  show G wC RX7 cX7_scoreAll 4 none 2 none q 0 [(0, .ref 28), (1, .ref 20), (2, .int x2)] [] μ
  unfold F_X7_scoreAll at h
  refine G_aload_n (pc := 0) 0 dX7_scoreAll_0 rfl ?_
  refine G_iconst (pc := 1) (0) dX7_scoreAll_1 ci_0 ?_
  refine pwC_X7_31_28 (pc := 2) dX7_scoreAll_2 ?_
  refine G_iconst (pc := 5) (0) dX7_scoreAll_5 ci_0 ?_
  refine G_istore_n (pc := 6) [(3, .int _), (0, .ref _), (1, .ref _), (2, .int _)] dX7_scoreAll_6 (Nat.le_of_ble_eq_true rfl) rfl ?_
  refine G_loc [1, 2, 3, 0] [(0, .ref _), (1, .ref _), (2, .int _), (3, .int _)] rfl ?_
  exact B_X7_scoreAll_7 _ _ _ _ _ h
def F_X7_topWithout_67 (K5 : Int32 → Int32 → Int32 → Int32 → Mm → Option (Int32 × Mm)) (x1 : Int32) (x2 : Int32) (x3 : Int32) (x4 : Int32) (μ : Mm) : Option (Int32 × Mm) := K5 x1 x2 x3 (x4 + 1) μ
set_option maxRecDepth 100000 in
set_option maxHeartbeats 4000000 in
theorem B_X7_topWithout_67 (K5 : Int32 → Int32 → Int32 → Int32 → Mm → Option (Int32 × Mm)) (hK5 : ∀ (x1 : Int32) (x2 : Int32) (x3 : Int32) (x4 : Int32) (μ : Mm) (q : (Int32 × Mm)), K5 x1 x2 x3 x4 μ = some q → G wC RX7 cX7_topWithout 6 (some .int) 0 (some (.int q.1)) q.2 5 [(0, .ref 28), (1, .int x1), (2, .int x2), (3, .int x3), (4, .int x4)] [] μ) (x1 : Int32) (x2 : Int32) (x3 : Int32) (x4 : Int32) (μ : Mm) (q : (Int32 × Mm))  (h : F_X7_topWithout_67 K5 x1 x2 x3 x4 μ = some q) : G wC RX7 cX7_topWithout 6 (some .int) 0 (some (.int q.1)) q.2 67 [(0, .ref 28), (1, .int x1), (2, .int x2), (3, .int x3), (4, .int x4)] [] μ := by
  unfold F_X7_topWithout_67 at h
  refine G_iinc (pc := 67) (1) 4 [(4, .int _), (0, .ref _), (1, .int _), (2, .int _), (3, .int _)] dX7_topWithout_67 ci_1 rfl (Nat.le_of_ble_eq_true rfl) rfl ?_
  refine G_goto (pc := 70) 5 dX7_topWithout_70 (by decide) ?_
  refine G_loc [1, 2, 3, 4, 0] [(0, .ref _), (1, .int _), (2, .int _), (3, .int _), (4, .int _)] rfl ?_
  exact hK5 _ _ _ _ _ _ h
def F_X7_topWithout_64 (K5 : Int32 → Int32 → Int32 → Int32 → Mm → Option (Int32 × Mm)) (x1 : Int32) (x2 : Int32) (x4 : Int32) (μ : Mm) : Option (Int32 × Mm) := F_X7_topWithout_67 K5 x1 x2 x4 x4 μ
set_option maxRecDepth 100000 in
set_option maxHeartbeats 4000000 in
theorem B_X7_topWithout_64 (K5 : Int32 → Int32 → Int32 → Int32 → Mm → Option (Int32 × Mm)) (hK5 : ∀ (x1 : Int32) (x2 : Int32) (x3 : Int32) (x4 : Int32) (μ : Mm) (q : (Int32 × Mm)), K5 x1 x2 x3 x4 μ = some q → G wC RX7 cX7_topWithout 6 (some .int) 0 (some (.int q.1)) q.2 5 [(0, .ref 28), (1, .int x1), (2, .int x2), (3, .int x3), (4, .int x4)] [] μ) (x1 : Int32) (x2 : Int32) (x4 : Int32) (μ : Mm) (q : (Int32 × Mm))  (h : F_X7_topWithout_64 K5 x1 x2 x4 μ = some q) : G wC RX7 cX7_topWithout 6 (some .int) 0 (some (.int q.1)) q.2 64 [(0, .ref 28), (1, .int x1), (2, .int x2), (4, .int x4)] [] μ := by
  unfold F_X7_topWithout_64 at h
  refine G_iload (pc := 64) 3 dX7_topWithout_64 rfl ?_
  refine G_istore_n (pc := 66) [(3, .int _), (0, .ref _), (1, .int _), (2, .int _), (4, .int _)] dX7_topWithout_66 (Nat.le_of_ble_eq_true rfl) rfl ?_
  refine G_loc [1, 2, 3, 0, 4] [(0, .ref _), (1, .int _), (2, .int _), (3, .int _), (4, .int _)] rfl ?_
  exact B_X7_topWithout_67 _ hK5 _ _ _ _ _ _ h
def F_X7_topWithout_36 (K5 : Int32 → Int32 → Int32 → Int32 → Mm → Option (Int32 × Mm)) (x1 : Int32) (x2 : Int32) (x3 : Int32) (x4 : Int32) (y0 : Int32) (μ : Mm) : Option (Int32 × Mm) := if y0 = 0 then F_X7_topWithout_67 K5 x1 x2 x3 x4 μ else if x3 = (-1) then F_X7_topWithout_64 K5 x1 x2 x4 μ else gi x4 10 (gi x3 10 (if (μ.1 32 x4.toNatClampNeg) ≤ (μ.1 32 x3.toNatClampNeg) then F_X7_topWithout_67 K5 x1 x2 x3 x4 μ else F_X7_topWithout_64 K5 x1 x2 x4 μ))
set_option maxRecDepth 100000 in
set_option maxHeartbeats 4000000 in
theorem B_X7_topWithout_36 (K5 : Int32 → Int32 → Int32 → Int32 → Mm → Option (Int32 × Mm)) (hK5 : ∀ (x1 : Int32) (x2 : Int32) (x3 : Int32) (x4 : Int32) (μ : Mm) (q : (Int32 × Mm)), K5 x1 x2 x3 x4 μ = some q → G wC RX7 cX7_topWithout 6 (some .int) 0 (some (.int q.1)) q.2 5 [(0, .ref 28), (1, .int x1), (2, .int x2), (3, .int x3), (4, .int x4)] [] μ) (x1 : Int32) (x2 : Int32) (x3 : Int32) (x4 : Int32) (y0 : Int32) (μ : Mm) (q : (Int32 × Mm))  (h : F_X7_topWithout_36 K5 x1 x2 x3 x4 y0 μ = some q) : G wC RX7 cX7_topWithout 6 (some .int) 0 (some (.int q.1)) q.2 36 [(0, .ref 28), (1, .int x1), (2, .int x2), (3, .int x3), (4, .int x4)] [.int y0] μ := by
  unfold F_X7_topWithout_36 at h
  refine G_istore (pc := 36) [(5, .int _), (0, .ref _), (1, .int _), (2, .int _), (3, .int _), (4, .int _)] dX7_topWithout_36 (Nat.le_of_ble_eq_true rfl) rfl ?_
  refine G_iload (pc := 38) 0 dX7_topWithout_38 rfl ?_
  refine G_if_eq (pc := 40) 67 dX7_topWithout_40 (by decide) (fun c4 => ?_) (fun c4 => ?_)
  · replace h := itp c4 h
    refine G_loc [1, 2, 3, 4, 5] [(0, .ref _), (1, .int _), (2, .int _), (3, .int _), (4, .int _)] rfl ?_
    exact B_X7_topWithout_67 _ hK5 _ _ _ _ _ _ h
  · replace h := itn c4 h
    refine G_iload_n (pc := 43) 4 dX7_topWithout_43 rfl ?_
    refine G_iconst (pc := 44) (-1) dX7_topWithout_44 ci_m1 ?_
    refine G_icmp_eq (pc := 45) 64 dX7_topWithout_45 (by decide) (fun c5 => ?_) (fun c5 => ?_)
    · replace h := itp c5 h
      refine G_loc [1, 2, 3, 5] [(0, .ref _), (1, .int _), (2, .int _), (4, .int _)] rfl ?_
      exact B_X7_topWithout_64 _ hK5 _ _ _ _ _ h
    · replace h := itn c5 h
      refine G_aload_n (pc := 48) 1 dX7_topWithout_48 rfl ?_
      refine gwC_X7_21_28 (pc := 49) dX7_topWithout_49 ?_
      refine G_iload (pc := 52) 5 dX7_topWithout_52 rfl ?_
      obtain ⟨g6, h⟩ := gi_some h
      refine alwC_32 (pc := 54) dX7_topWithout_54 g6 ?_
      refine G_aload_n (pc := 55) 1 dX7_topWithout_55 rfl ?_
      refine gwC_X7_21_28 (pc := 56) dX7_topWithout_56 ?_
      refine G_iload_n (pc := 59) 4 dX7_topWithout_59 rfl ?_
      obtain ⟨g7, h⟩ := gi_some h
      refine alwC_32 (pc := 60) dX7_topWithout_60 g7 ?_
      refine G_icmp_le (pc := 61) 67 dX7_topWithout_61 (by decide) (fun c8 => ?_) (fun c8 => ?_)
      · replace h := itp c8 h
        refine G_loc [1, 2, 3, 4, 5] [(0, .ref _), (1, .int _), (2, .int _), (3, .int _), (4, .int _)] rfl ?_
        exact B_X7_topWithout_67 _ hK5 _ _ _ _ _ _ h
      · replace h := itn c8 h
        refine G_loc [1, 2, 3, 5] [(0, .ref _), (1, .int _), (2, .int _), (4, .int _)] rfl ?_
        exact B_X7_topWithout_64 _ hK5 _ _ _ _ _ h
def F_X7_topWithout_35 (K5 : Int32 → Int32 → Int32 → Int32 → Mm → Option (Int32 × Mm)) (x1 : Int32) (x2 : Int32) (x3 : Int32) (x4 : Int32) (μ : Mm) : Option (Int32 × Mm) := F_X7_topWithout_36 K5 x1 x2 x3 x4 0 μ
set_option maxRecDepth 100000 in
set_option maxHeartbeats 4000000 in
theorem B_X7_topWithout_35 (K5 : Int32 → Int32 → Int32 → Int32 → Mm → Option (Int32 × Mm)) (hK5 : ∀ (x1 : Int32) (x2 : Int32) (x3 : Int32) (x4 : Int32) (μ : Mm) (q : (Int32 × Mm)), K5 x1 x2 x3 x4 μ = some q → G wC RX7 cX7_topWithout 6 (some .int) 0 (some (.int q.1)) q.2 5 [(0, .ref 28), (1, .int x1), (2, .int x2), (3, .int x3), (4, .int x4)] [] μ) (x1 : Int32) (x2 : Int32) (x3 : Int32) (x4 : Int32) (μ : Mm) (q : (Int32 × Mm))  (h : F_X7_topWithout_35 K5 x1 x2 x3 x4 μ = some q) : G wC RX7 cX7_topWithout 6 (some .int) 0 (some (.int q.1)) q.2 35 [(0, .ref 28), (1, .int x1), (2, .int x2), (3, .int x3), (4, .int x4)] [] μ := by
  unfold F_X7_topWithout_35 at h
  refine G_iconst (pc := 35) (0) dX7_topWithout_35 ci_0 ?_
  exact B_X7_topWithout_36 _ hK5 _ _ _ _ _ _ _ h
def L_X7_topWithout_5 : Nat → Int32 → Int32 → Int32 → Int32 → Mm → Option (Int32 × Mm)
  | 0, _, _, _, _, _ => none
  | n + 1, x1, x2, x3, x4, μ => if x2 ≤ x4 then some (x3, μ) else gi x4 10 (if (μ.1 32 x4.toNatClampNeg) = (-1) then F_X7_topWithout_35 (L_X7_topWithout_5 n) x1 x2 x3 x4 μ else if ((x1 >>> (x4 &&& 31)) &&& 1) = 0 then F_X7_topWithout_36 (L_X7_topWithout_5 n) x1 x2 x3 x4 1 μ else F_X7_topWithout_35 (L_X7_topWithout_5 n) x1 x2 x3 x4 μ)
set_option maxRecDepth 100000 in
set_option maxHeartbeats 4000000 in
theorem L_X7_topWithout_5_s (n : Nat) (x1 : Int32) (x2 : Int32) (x3 : Int32) (x4 : Int32) (μ : Mm) : L_X7_topWithout_5  (n + 1) x1 x2 x3 x4 μ = (if x2 ≤ x4 then some (x3, μ) else gi x4 10 (if (μ.1 32 x4.toNatClampNeg) = (-1) then F_X7_topWithout_35 (L_X7_topWithout_5 n) x1 x2 x3 x4 μ else if ((x1 >>> (x4 &&& 31)) &&& 1) = 0 then F_X7_topWithout_36 (L_X7_topWithout_5 n) x1 x2 x3 x4 1 μ else F_X7_topWithout_35 (L_X7_topWithout_5 n) x1 x2 x3 x4 μ)) := rfl
set_option maxRecDepth 100000 in
set_option maxHeartbeats 4000000 in
theorem B_X7_topWithout_5 : ∀ (n : Nat) (x1 : Int32) (x2 : Int32) (x3 : Int32) (x4 : Int32) (μ : Mm) (q : (Int32 × Mm)), L_X7_topWithout_5  n x1 x2 x3 x4 μ = some q → G wC RX7 cX7_topWithout 6 (some .int) 0 (some (.int q.1)) q.2 5 [(0, .ref 28), (1, .int x1), (2, .int x2), (3, .int x3), (4, .int x4)] [] μ := by
  intro n
  induction n with
  | zero =>
    intro x1 x2 x3 x4 μ q  h
    cases h
  | succ n ih =>
    intro x1 x2 x3 x4 μ q  h
    rw [L_X7_topWithout_5_s] at h
    refine G_iload (pc := 5) 4 dX7_topWithout_5 rfl ?_
    refine G_iload_n (pc := 7) 2 dX7_topWithout_7 rfl ?_
    refine G_icmp_ge (pc := 8) 73 dX7_topWithout_8 (by decide) (fun c1 => ?_) (fun c1 => ?_)
    · replace h := itp c1 h
      refine G_iload_n (pc := 73) 3 dX7_topWithout_73 rfl ?_
      obtain rfl := Option.some.inj h
      exact G_iret (pc := 74) rfl dX7_topWithout_74
    · replace h := itn c1 h
      refine G_aload_n (pc := 11) 0 dX7_topWithout_11 rfl ?_
      refine gwC_X7_21_28 (pc := 12) dX7_topWithout_12 ?_
      refine G_iload (pc := 15) 4 dX7_topWithout_15 rfl ?_
      obtain ⟨g2, h⟩ := gi_some h
      refine alwC_32 (pc := 17) dX7_topWithout_17 g2 ?_
      refine G_iconst (pc := 18) (-1) dX7_topWithout_18 ci_m1 ?_
      refine G_icmp_eq (pc := 19) 35 dX7_topWithout_19 (by decide) (fun c3 => ?_) (fun c3 => ?_)
      · replace h := itp c3 h
        exact B_X7_topWithout_35 _ ih _ _ _ _ _ _ h
      · replace h := itn c3 h
        refine G_iload_n (pc := 22) 1 dX7_topWithout_22 rfl ?_
        refine G_iload (pc := 23) 4 dX7_topWithout_23 rfl ?_
        refine G_ishr (pc := 25) dX7_topWithout_25 ?_
        refine G_iconst (pc := 26) (1) dX7_topWithout_26 ci_1 ?_
        refine G_iand (pc := 27) dX7_topWithout_27 ?_
        refine G_if_ne (pc := 28) 35 dX7_topWithout_28 (by decide) (fun c9 => ?_) (fun c9 => ?_)
        · replace h := itn c9 h
          exact B_X7_topWithout_35 _ ih _ _ _ _ _ _ h
        · replace h := itp c9 h
          refine G_iconst (pc := 31) (1) dX7_topWithout_31 ci_1 ?_
          refine G_goto (pc := 32) 36 dX7_topWithout_32 (by decide) ?_
          exact B_X7_topWithout_36 _ ih _ _ _ _ _ _ _ h
def F_X7_topWithout (x1 : Int32) (x2 : Int32) (μ : Mm) : Option (Int32 × Mm) := L_X7_topWithout_5 FUEL x1 x2 (-1) 0 μ
set_option maxRecDepth 100000 in
set_option maxHeartbeats 4000000 in
theorem S_X7_topWithout (x1 : Int32) (x2 : Int32)  (μ : Mm) (q : (Int32 × Mm)) (h : F_X7_topWithout x1 x2 μ = some q) : Cn wC yX7_topWithout cX7_topWithout 6 (some .int) 0 [.ref 28, .int x1, .int x2] μ (some (.int q.1)) q.2 := by
  refine Cn_of (by decide +kernel) (Nat.le_of_ble_eq_true rfl) ?_
  show G wC RX7 cX7_topWithout 6 (some .int) 0 (some (.int q.1)) q.2 0 [(0, .ref 28), (1, .int x1), (2, .int x2)] [] μ
  unfold F_X7_topWithout at h
  refine G_iconst (pc := 0) (-1) dX7_topWithout_0 ci_m1 ?_
  refine G_istore_n (pc := 1) [(3, .int _), (0, .ref _), (1, .int _), (2, .int _)] dX7_topWithout_1 (Nat.le_of_ble_eq_true rfl) rfl ?_
  refine G_iconst (pc := 2) (0) dX7_topWithout_2 ci_0 ?_
  refine G_istore (pc := 3) [(4, .int _), (3, .int _), (0, .ref _), (1, .int _), (2, .int _)] dX7_topWithout_3 (Nat.le_of_ble_eq_true rfl) rfl ?_
  refine G_loc [2, 3, 4, 1, 0] [(0, .ref _), (1, .int _), (2, .int _), (3, .int _), (4, .int _)] rfl ?_
  exact B_X7_topWithout_5 _ _ _ _ _ _ _ h
def F_X7_pin_53 (x1 : Int32) (x2 : Int32) (x3 : Int32) (μ : Mm) : Option Mm := if x3 = 1 then if x1 = 1 then gi x2 10 ((F_J9_max_7cf53 0 ((μ.1 29 x2.toNatClampNeg) - 1) μ).bind (fun q7 => gi x2 10 (some (wI q7.2 29 x2.toNatClampNeg q7.1)))) else some μ else some μ
set_option maxRecDepth 100000 in
set_option maxHeartbeats 4000000 in
theorem B_X7_pin_53 (x1 : Int32) (x2 : Int32) (x3 : Int32) (μ : Mm) (q : Mm)  (h : F_X7_pin_53  x1 x2 x3 μ = some q) : G wC RX7 cX7_pin 4 none 1 none q 53 [(0, .ref 28), (1, .int x1), (2, .int x2), (3, .int x3)] [] μ := by
  unfold F_X7_pin_53 at h
  refine G_iload_n (pc := 53) 3 dX7_pin_53 rfl ?_
  refine G_iconst (pc := 54) (1) dX7_pin_54 ci_1 ?_
  refine G_icmp_ne (pc := 55) 81 dX7_pin_55 (by decide) (fun c4 => ?_) (fun c4 => ?_)
  · replace h := itn c4 h
    obtain rfl := Option.some.inj h
    exact G_vret (pc := 81) rfl dX7_pin_81
  · replace h := itp c4 h
    refine G_iload_n (pc := 58) 1 dX7_pin_58 rfl ?_
    refine G_iconst (pc := 59) (1) dX7_pin_59 ci_1 ?_
    refine G_icmp_ne (pc := 60) 81 dX7_pin_60 (by decide) (fun c5 => ?_) (fun c5 => ?_)
    · replace h := itn c5 h
      obtain rfl := Option.some.inj h
      exact G_vret (pc := 81) rfl dX7_pin_81
    · replace h := itp c5 h
      refine G_aload_n (pc := 63) 0 dX7_pin_63 rfl ?_
      refine gwC_X7_9_28 (pc := 64) dX7_pin_64 ?_
      refine G_iload_n (pc := 67) 2 dX7_pin_67 rfl ?_
      refine G_iconst (pc := 68) (0) dX7_pin_68 ci_0 ?_
      refine G_aload_n (pc := 69) 0 dX7_pin_69 rfl ?_
      refine gwC_X7_9_28 (pc := 70) dX7_pin_70 ?_
      refine G_iload_n (pc := 73) 2 dX7_pin_73 rfl ?_
      obtain ⟨g6, h⟩ := gi_some h
      refine alwC_29 (pc := 74) dX7_pin_74 g6 ?_
      refine G_iconst (pc := 75) (1) dX7_pin_75 ci_1 ?_
      refine G_isub (pc := 76) dX7_pin_76 ?_
      obtain ⟨q7, e7, h⟩ := bnd_some h
      refine G_callS2r (pc := 77) dX7_pin_77 ws_X7_96 cd_J9_max_7cf53 (S_J9_max_7cf53 _ _ _ _ e7) (by decide) (by decide) (Nat.le_of_ble_eq_true rfl) ?_
      obtain ⟨g8, h⟩ := gi_some h
      refine aswC_29 (pc := 80) dX7_pin_80 g8 ?_
      obtain rfl := Option.some.inj h
      exact G_vret (pc := 81) rfl dX7_pin_81
def F_X7_pin (x1 : Int32) (x2 : Int32) (x3 : Int32) (μ : Mm) : Option Mm := gi x2 10 (gi x2 10 (if x3 = 0 then gi x2 10 (gi x2 10 (if x1 = 2 then gi x2 10 (if ((wI (wI μ 30 x2.toNatClampNeg ((μ.1 30 x2.toNatClampNeg) + (3 - x3))) 31 x2.toNatClampNeg (((wI μ 30 x2.toNatClampNeg ((μ.1 30 x2.toNatClampNeg) + (3 - x3))).1 31 x2.toNatClampNeg) + 1)).1 31 x2.toNatClampNeg) = 3 then F_X7_pin_53 x1 x2 x3 (wI (wI (wI μ 30 x2.toNatClampNeg ((μ.1 30 x2.toNatClampNeg) + (3 - x3))) 31 x2.toNatClampNeg (((wI μ 30 x2.toNatClampNeg ((μ.1 30 x2.toNatClampNeg) + (3 - x3))).1 31 x2.toNatClampNeg) + 1)) 28 5 (((wI (wI μ 30 x2.toNatClampNeg ((μ.1 30 x2.toNatClampNeg) + (3 - x3))) 31 x2.toNatClampNeg (((wI μ 30 x2.toNatClampNeg ((μ.1 30 x2.toNatClampNeg) + (3 - x3))).1 31 x2.toNatClampNeg) + 1)).1 28 5) ||| (1 <<< (x2 &&& 31)))) else F_X7_pin_53 x1 x2 x3 (wI (wI μ 30 x2.toNatClampNeg ((μ.1 30 x2.toNatClampNeg) + (3 - x3))) 31 x2.toNatClampNeg (((wI μ 30 x2.toNatClampNeg ((μ.1 30 x2.toNatClampNeg) + (3 - x3))).1 31 x2.toNatClampNeg) + 1))) else F_X7_pin_53 x1 x2 x3 (wI (wI μ 30 x2.toNatClampNeg ((μ.1 30 x2.toNatClampNeg) + (3 - x3))) 31 x2.toNatClampNeg (((wI μ 30 x2.toNatClampNeg ((μ.1 30 x2.toNatClampNeg) + (3 - x3))).1 31 x2.toNatClampNeg) + 1)))) else F_X7_pin_53 x1 x2 x3 (wI μ 30 x2.toNatClampNeg ((μ.1 30 x2.toNatClampNeg) + (3 - x3)))))
set_option maxRecDepth 100000 in
set_option maxHeartbeats 4000000 in
theorem S_X7_pin (x1 : Int32) (x2 : Int32) (x3 : Int32)  (μ : Mm) (q : Mm) (h : F_X7_pin x1 x2 x3 μ = some q) : Cn wC yX7_pin cX7_pin 4 none 1 [.ref 28, .int x1, .int x2, .int x3] μ none q := by
  refine Cn_of (by decide +kernel) (Nat.le_of_ble_eq_true rfl) ?_
  show G wC RX7 cX7_pin 4 none 1 none q 0 [(0, .ref 28), (1, .int x1), (2, .int x2), (3, .int x3)] [] μ
  unfold F_X7_pin at h
  refine G_aload_n (pc := 0) 0 dX7_pin_0 rfl ?_
  refine gwC_X7_15_28 (pc := 1) dX7_pin_1 ?_
  refine G_iload_n (pc := 4) 2 dX7_pin_4 rfl ?_
  refine G_dup2 (pc := 5) dX7_pin_5 rfl rfl ?_
  obtain ⟨g1, h⟩ := gi_some h
  refine alwC_30 (pc := 6) dX7_pin_6 g1 ?_
  refine G_iconst (pc := 7) (3) dX7_pin_7 ci_3 ?_
  refine G_iload_n (pc := 8) 3 dX7_pin_8 rfl ?_
  refine G_isub (pc := 9) dX7_pin_9 ?_
  refine G_iadd (pc := 10) dX7_pin_10 ?_
  obtain ⟨g2, h⟩ := gi_some h
  refine aswC_30 (pc := 11) dX7_pin_11 g2 ?_
  refine G_iload_n (pc := 12) 3 dX7_pin_12 rfl ?_
  refine G_if_ne (pc := 13) 53 dX7_pin_13 (by decide) (fun c3 => ?_) (fun c3 => ?_)
  · replace h := itn c3 h
    exact B_X7_pin_53 _ _ _ _ _ h
  · replace h := itp c3 h
    refine G_aload_n (pc := 16) 0 dX7_pin_16 rfl ?_
    refine gwC_X7_18_28 (pc := 17) dX7_pin_17 ?_
    refine G_iload_n (pc := 20) 2 dX7_pin_20 rfl ?_
    refine G_dup2 (pc := 21) dX7_pin_21 rfl rfl ?_
    obtain ⟨g9, h⟩ := gi_some h
    refine alwC_31 (pc := 22) dX7_pin_22 g9 ?_
    refine G_iconst (pc := 23) (1) dX7_pin_23 ci_1 ?_
    refine G_iadd (pc := 24) dX7_pin_24 ?_
    obtain ⟨g10, h⟩ := gi_some h
    refine aswC_31 (pc := 25) dX7_pin_25 g10 ?_
    refine G_iload_n (pc := 26) 1 dX7_pin_26 rfl ?_
    refine G_iconst (pc := 27) (2) dX7_pin_27 ci_2 ?_
    refine G_icmp_ne (pc := 28) 53 dX7_pin_28 (by decide) (fun c11 => ?_) (fun c11 => ?_)
    · replace h := itn c11 h
      exact B_X7_pin_53 _ _ _ _ _ h
    · replace h := itp c11 h
      refine G_aload_n (pc := 31) 0 dX7_pin_31 rfl ?_
      refine gwC_X7_18_28 (pc := 32) dX7_pin_32 ?_
      refine G_iload_n (pc := 35) 2 dX7_pin_35 rfl ?_
      obtain ⟨g12, h⟩ := gi_some h
      refine alwC_31 (pc := 36) dX7_pin_36 g12 ?_
      refine G_iconst (pc := 37) (3) dX7_pin_37 ci_3 ?_
      refine G_icmp_ne (pc := 38) 53 dX7_pin_38 (by decide) (fun c13 => ?_) (fun c13 => ?_)
      · replace h := itn c13 h
        exact B_X7_pin_53 _ _ _ _ _ h
      · replace h := itp c13 h
        refine G_aload_n (pc := 41) 0 dX7_pin_41 rfl ?_
        refine G_dup (pc := 42) dX7_pin_42 rfl ?_
        refine gwC_X7_27_28 (pc := 43) dX7_pin_43 ?_
        refine G_iconst (pc := 46) (1) dX7_pin_46 ci_1 ?_
        refine G_iload_n (pc := 47) 2 dX7_pin_47 rfl ?_
        refine G_ishl (pc := 48) dX7_pin_48 ?_
        refine G_ior (pc := 49) dX7_pin_49 ?_
        refine pwC_X7_27_28 (pc := 50) dX7_pin_50 ?_
        exact B_X7_pin_53 _ _ _ _ _ h
def F_X7_placeAll_63 (K5 : Int32 → Int32 → Int32 → Mm → Option Mm) (x2 : Int32) (x3 : Int32) (x4 : Int32) (μ : Mm) : Option Mm := K5 x2 x3 (x4 + 1) μ
set_option maxRecDepth 100000 in
set_option maxHeartbeats 4000000 in
theorem B_X7_placeAll_63 (K5 : Int32 → Int32 → Int32 → Mm → Option Mm) (hK5 : ∀ (x2 : Int32) (x3 : Int32) (x4 : Int32) (μ : Mm) (q : Mm), K5 x2 x3 x4 μ = some q → G wC RX7 cX7_placeAll 6 none 2 none q 5 [(0, .ref 28), (1, .ref 20), (2, .int x2), (3, .int x3), (4, .int x4)] [] μ) (x2 : Int32) (x3 : Int32) (x4 : Int32) (μ : Mm) (q : Mm)  (h : F_X7_placeAll_63 K5 x2 x3 x4 μ = some q) : G wC RX7 cX7_placeAll 6 none 2 none q 63 [(0, .ref 28), (1, .ref 20), (2, .int x2), (3, .int x3), (4, .int x4)] [] μ := by
  unfold F_X7_placeAll_63 at h
  refine G_iinc (pc := 63) (1) 4 [(4, .int _), (0, .ref _), (1, .ref _), (2, .int _), (3, .int _)] dX7_placeAll_63 ci_1 rfl (Nat.le_of_ble_eq_true rfl) rfl ?_
  refine G_goto (pc := 66) 5 dX7_placeAll_66 (by decide) ?_
  refine G_loc [1, 2, 3, 4, 0] [(0, .ref _), (1, .ref _), (2, .int _), (3, .int _), (4, .int _)] rfl ?_
  exact hK5 _ _ _ _ _ h
def L_X7_placeAll_5 : Nat → Int32 → Int32 → Int32 → Mm → Option Mm
  | 0, _, _, _, _ => none
  | n + 1, x2, x3, x4, μ => if 3 ≤ x4 then some μ else (F_X7_topWithout x3 (μ.1 20 1) μ).bind (fun q2 => gi ((x2 * 3) + x4) 36 (if q2.1 = (-1) then F_X7_placeAll_63 (L_X7_placeAll_5 n) x2 x3 x4 (wI q2.2 33 ((x2 * 3) + x4).toNatClampNeg q2.1) else gi q2.1 10 ((F_X7_pin ((wI q2.2 33 ((x2 * 3) + x4).toNatClampNeg q2.1).1 21 q2.1.toNatClampNeg) q2.1 x4 (wI q2.2 33 ((x2 * 3) + x4).toNatClampNeg q2.1)).bind (fun q6 => F_X7_placeAll_63 (L_X7_placeAll_5 n) x2 (x3 ||| (1 <<< (q2.1 &&& 31))) x4 q6))))
set_option maxRecDepth 100000 in
set_option maxHeartbeats 4000000 in
theorem L_X7_placeAll_5_s (n : Nat) (x2 : Int32) (x3 : Int32) (x4 : Int32) (μ : Mm) : L_X7_placeAll_5  (n + 1) x2 x3 x4 μ = (if 3 ≤ x4 then some μ else (F_X7_topWithout x3 (μ.1 20 1) μ).bind (fun q2 => gi ((x2 * 3) + x4) 36 (if q2.1 = (-1) then F_X7_placeAll_63 (L_X7_placeAll_5 n) x2 x3 x4 (wI q2.2 33 ((x2 * 3) + x4).toNatClampNeg q2.1) else gi q2.1 10 ((F_X7_pin ((wI q2.2 33 ((x2 * 3) + x4).toNatClampNeg q2.1).1 21 q2.1.toNatClampNeg) q2.1 x4 (wI q2.2 33 ((x2 * 3) + x4).toNatClampNeg q2.1)).bind (fun q6 => F_X7_placeAll_63 (L_X7_placeAll_5 n) x2 (x3 ||| (1 <<< (q2.1 &&& 31))) x4 q6))))) := rfl
set_option maxRecDepth 100000 in
set_option maxHeartbeats 4000000 in
theorem B_X7_placeAll_5 : ∀ (n : Nat) (x2 : Int32) (x3 : Int32) (x4 : Int32) (μ : Mm) (q : Mm), L_X7_placeAll_5  n x2 x3 x4 μ = some q → G wC RX7 cX7_placeAll 6 none 2 none q 5 [(0, .ref 28), (1, .ref 20), (2, .int x2), (3, .int x3), (4, .int x4)] [] μ := by
  intro n
  induction n with
  | zero =>
    intro x2 x3 x4 μ q  h
    cases h
  | succ n ih =>
    intro x2 x3 x4 μ q  h
    rw [L_X7_placeAll_5_s] at h
    refine G_iload (pc := 5) 4 dX7_placeAll_5 rfl ?_
    refine G_iconst (pc := 7) (3) dX7_placeAll_7 ci_3 ?_
    refine G_icmp_ge (pc := 8) 69 dX7_placeAll_8 (by decide) (fun c1 => ?_) (fun c1 => ?_)
    · replace h := itp c1 h
      obtain rfl := Option.some.inj h
      exact G_vret (pc := 69) rfl dX7_placeAll_69
    · replace h := itn c1 h
      refine G_aload_n (pc := 11) 0 dX7_placeAll_11 rfl ?_
      refine G_iload_n (pc := 12) 3 dX7_placeAll_12 rfl ?_
      refine G_aload_n (pc := 13) 1 dX7_placeAll_13 rfl ?_
      refine gwC_X7_99_20 (pc := 14) dX7_placeAll_14 ?_
      obtain ⟨q2, e2, h⟩ := bnd_some h
      refine G_callV2r (pc := 17) 28 6 dX7_placeAll_17 wv_X7_121 cd_X7_topWithout (S_X7_topWithout _ _ _ _ e2) (by decide) (by decide) rfl (by decide) (fun _ _ => ⟨_, rfl⟩) (Nat.le_of_ble_eq_true rfl) ?_
      refine G_istore (pc := 20) [(5, .int _), (0, .ref _), (1, .ref _), (2, .int _), (3, .int _), (4, .int _)] dX7_placeAll_20 (Nat.le_of_ble_eq_true rfl) rfl ?_
      refine G_aload_n (pc := 22) 1 dX7_placeAll_22 rfl ?_
      refine gwC_X7_24_28 (pc := 23) dX7_placeAll_23 ?_
      refine G_iload_n (pc := 26) 3 dX7_placeAll_26 rfl ?_
      refine G_iconst (pc := 27) (3) dX7_placeAll_27 ci_3 ?_
      refine G_imul (pc := 28) dX7_placeAll_28 ?_
      refine G_iload (pc := 29) 5 dX7_placeAll_29 rfl ?_
      refine G_iadd (pc := 31) dX7_placeAll_31 ?_
      refine G_iload (pc := 32) 0 dX7_placeAll_32 rfl ?_
      obtain ⟨g3, h⟩ := gi_some h
      refine aswC_33 (pc := 34) dX7_placeAll_34 g3 ?_
      refine G_iload (pc := 35) 0 dX7_placeAll_35 rfl ?_
      refine G_iconst (pc := 37) (-1) dX7_placeAll_37 ci_m1 ?_
      refine G_icmp_eq (pc := 38) 63 dX7_placeAll_38 (by decide) (fun c4 => ?_) (fun c4 => ?_)
      · replace h := itp c4 h
        refine G_loc [1, 2, 3, 4, 5] [(0, .ref _), (1, .ref _), (2, .int _), (3, .int _), (4, .int _)] rfl ?_
        exact B_X7_placeAll_63 _ ih _ _ _ _ _ h
      · replace h := itn c4 h
        refine G_iload_n (pc := 41) 4 dX7_placeAll_41 rfl ?_
        refine G_iconst (pc := 42) (1) dX7_placeAll_42 ci_1 ?_
        refine G_iload (pc := 43) 0 dX7_placeAll_43 rfl ?_
        refine G_ishl (pc := 45) dX7_placeAll_45 ?_
        refine G_ior (pc := 46) dX7_placeAll_46 ?_
        refine G_istore_n (pc := 47) [(3, .int _), (5, .int _), (0, .ref _), (1, .ref _), (2, .int _), (4, .int _)] dX7_placeAll_47 (Nat.le_of_ble_eq_true rfl) rfl ?_
        refine G_aload_n (pc := 48) 2 dX7_placeAll_48 rfl ?_
        refine G_aload_n (pc := 49) 3 dX7_placeAll_49 rfl ?_
        refine gwC_X7_106_20 (pc := 50) dX7_placeAll_50 ?_
        refine G_iload (pc := 53) 1 dX7_placeAll_53 rfl ?_
        obtain ⟨g5, h⟩ := gi_some h
        refine alwC_21 (pc := 55) dX7_placeAll_55 g5 ?_
        refine G_iload (pc := 56) 1 dX7_placeAll_56 rfl ?_
        refine G_iload (pc := 58) 5 dX7_placeAll_58 rfl ?_
        obtain ⟨q6, e6, h⟩ := bnd_some h
        refine G_callV3v (pc := 60) 28 6 dX7_placeAll_60 wv_X7_124 cd_X7_pin (S_X7_pin _ _ _ _ _ e6) (by decide) (by decide) rfl (by decide) (fun _ _ => ⟨_, rfl⟩) (Nat.le_of_ble_eq_true rfl) ?_
        refine G_loc [2, 3, 4, 0, 5] [(0, .ref _), (1, .ref _), (2, .int _), (3, .int _), (4, .int _)] rfl ?_
        exact B_X7_placeAll_63 _ ih _ _ _ _ _ h
def F_X7_placeAll (x2 : Int32) (μ : Mm) : Option Mm := L_X7_placeAll_5 FUEL x2 0 0 μ
set_option maxRecDepth 100000 in
set_option maxHeartbeats 4000000 in
theorem S_X7_placeAll (x2 : Int32)  (μ : Mm) (q : Mm) (h : F_X7_placeAll x2 μ = some q) : Cn wC yX7_placeAll cX7_placeAll 6 none 2 [.ref 28, .ref 20, .int x2] μ none q := by
  refine Cn_of (by decide +kernel) (Nat.le_of_ble_eq_true rfl) ?_
  show G wC RX7 cX7_placeAll 6 none 2 none q 0 [(0, .ref 28), (1, .ref 20), (2, .int x2)] [] μ
  unfold F_X7_placeAll at h
  refine G_iconst (pc := 0) (0) dX7_placeAll_0 ci_0 ?_
  refine G_istore_n (pc := 1) [(3, .int _), (0, .ref _), (1, .ref _), (2, .int _)] dX7_placeAll_1 (Nat.le_of_ble_eq_true rfl) rfl ?_
  refine G_iconst (pc := 2) (0) dX7_placeAll_2 ci_0 ?_
  refine G_istore (pc := 3) [(4, .int _), (3, .int _), (0, .ref _), (1, .ref _), (2, .int _)] dX7_placeAll_3 (Nat.le_of_ble_eq_true rfl) rfl ?_
  refine G_loc [2, 3, 4, 1, 0] [(0, .ref _), (1, .ref _), (2, .int _), (3, .int _), (4, .int _)] rfl ?_
  exact B_X7_placeAll_5 _ _ _ _ _ _ h
def L_X7_run_7 : Nat → Int32 → Int32 → Mm → Option Mm
  | 0, _, _, _ => none
  | n + 1, x2, x3, μ => if x2 ≤ x3 then some μ else (F_X7_doEvents x3 μ).bind (fun q3 => (F_X2_judgeIn x3 q3).bind (fun q4 => (F_X7_scoreAll q4.1 q4.2).bind (fun q5 => (F_X7_placeAll x3 q5).bind (fun q6 => L_X7_run_7 n x2 (x3 + 1) q6))))
set_option maxRecDepth 100000 in
set_option maxHeartbeats 4000000 in
theorem L_X7_run_7_s (n : Nat) (x2 : Int32) (x3 : Int32) (μ : Mm) : L_X7_run_7  (n + 1) x2 x3 μ = (if x2 ≤ x3 then some μ else (F_X7_doEvents x3 μ).bind (fun q3 => (F_X2_judgeIn x3 q3).bind (fun q4 => (F_X7_scoreAll q4.1 q4.2).bind (fun q5 => (F_X7_placeAll x3 q5).bind (fun q6 => L_X7_run_7 n x2 (x3 + 1) q6))))) := rfl
set_option maxRecDepth 100000 in
set_option maxHeartbeats 4000000 in
theorem B_X7_run_7 : ∀ (n : Nat) (x2 : Int32) (x3 : Int32) (μ : Mm) (q : Mm), L_X7_run_7  n x2 x3 μ = some q → G wC RX7 cX7_run 4 none 3 none q 7 [(0, .ref 28), (1, .ref 20), (2, .int x2), (3, .int x3)] [] μ := by
  intro n
  induction n with
  | zero =>
    intro x2 x3 μ q  h
    cases h
  | succ n ih =>
    intro x2 x3 μ q  h
    rw [L_X7_run_7_s] at h
    refine G_iload_n (pc := 7) 3 dX7_run_7 rfl ?_
    refine G_iload_n (pc := 8) 2 dX7_run_8 rfl ?_
    refine G_icmp_ge (pc := 9) 40 dX7_run_9 (by decide) (fun c2 => ?_) (fun c2 => ?_)
    · replace h := itp c2 h
      obtain rfl := Option.some.inj h
      exact G_vret (pc := 40) rfl dX7_run_40
    · replace h := itn c2 h
      refine G_aload_n (pc := 12) 0 dX7_run_12 rfl ?_
      refine G_aload_n (pc := 13) 1 dX7_run_13 rfl ?_
      refine G_iload_n (pc := 14) 3 dX7_run_14 rfl ?_
      obtain ⟨q3, e3, h⟩ := bnd_some h
      refine G_callV2v (pc := 15) 28 6 dX7_run_15 wv_X7_45 cd_X7_doEvents (S_X7_doEvents _ _ _ e3) (by decide) (by decide) rfl (by decide) (fun _ _ => ⟨_, rfl⟩) (Nat.le_of_ble_eq_true rfl) ?_
      refine G_aload_n (pc := 18) 0 dX7_run_18 rfl ?_
      refine G_aload_n (pc := 19) 1 dX7_run_19 rfl ?_
      refine G_aload_n (pc := 20) 1 dX7_run_20 rfl ?_
      refine G_iload_n (pc := 21) 3 dX7_run_21 rfl ?_
      obtain ⟨q4, e4, h⟩ := bnd_some h
      refine G_callV1r (pc := 22) 20 2 dX7_run_22 wv_X7_49 cd_X2_judgeIn (S_X2_judgeIn _ _ _ e4) (by decide) (by decide) rfl (by decide) (fun _ _ => ⟨_, rfl⟩) (Nat.le_of_ble_eq_true rfl) ?_
      obtain ⟨q5, e5, h⟩ := bnd_some h
      refine G_callV2v (pc := 25) 28 6 dX7_run_25 wv_X7_55 cd_X7_scoreAll (S_X7_scoreAll _ _ _ e5) (by decide) (by decide) rfl (by decide) (fun _ _ => ⟨_, rfl⟩) (Nat.le_of_ble_eq_true rfl) ?_
      refine G_aload_n (pc := 28) 0 dX7_run_28 rfl ?_
      refine G_aload_n (pc := 29) 1 dX7_run_29 rfl ?_
      refine G_iload_n (pc := 30) 3 dX7_run_30 rfl ?_
      obtain ⟨q6, e6, h⟩ := bnd_some h
      refine G_callV2v (pc := 31) 28 6 dX7_run_31 wv_X7_58 cd_X7_placeAll (S_X7_placeAll _ _ _ e6) (by decide) (by decide) rfl (by decide) (fun _ _ => ⟨_, rfl⟩) (Nat.le_of_ble_eq_true rfl) ?_
      refine G_iinc (pc := 34) (1) 3 [(3, .int _), (0, .ref _), (1, .ref _), (2, .int _)] dX7_run_34 ci_1 rfl (Nat.le_of_ble_eq_true rfl) rfl ?_
      refine G_goto (pc := 37) 7 dX7_run_37 (by decide) ?_
      refine G_loc [1, 2, 3, 0] [(0, .ref _), (1, .ref _), (2, .int _), (3, .int _)] rfl ?_
      exact ih _ _ _ _ h
def F_X7_run (x2 : Int32) (μ : Mm) : Option Mm := (F_X7_begin μ).bind (fun q1 => L_X7_run_7 FUEL x2 0 q1)
set_option maxRecDepth 100000 in
set_option maxHeartbeats 4000000 in
theorem S_X7_run (x2 : Int32)  (μ : Mm) (q : Mm) (h : F_X7_run x2 μ = some q) : Cn wC yX7_run cX7_run 4 none 3 [.ref 28, .ref 20, .int x2] μ none q := by
  refine Cn_of (by decide +kernel) (Nat.le_of_ble_eq_true rfl) ?_
  show G wC RX7 cX7_run 4 none 3 none q 0 [(0, .ref 28), (1, .ref 20), (2, .int x2)] [] μ
  unfold F_X7_run at h
  refine G_aload_n (pc := 0) 0 dX7_run_0 rfl ?_
  refine G_aload_n (pc := 1) 1 dX7_run_1 rfl ?_
  obtain ⟨q1, e1, h⟩ := bnd_some h
  refine G_callV1v (pc := 2) 28 6 dX7_run_2 wv_X7_41 cd_X7_begin (S_X7_begin _ _ e1) (by decide) (by decide) rfl (by decide) (fun _ _ => ⟨_, rfl⟩) (Nat.le_of_ble_eq_true rfl) ?_
  refine G_iconst (pc := 5) (0) dX7_run_5 ci_0 ?_
  refine G_istore_n (pc := 6) [(3, .int _), (0, .ref _), (1, .ref _), (2, .int _)] dX7_run_6 (Nat.le_of_ble_eq_true rfl) rfl ?_
  refine G_loc [1, 2, 3, 0] [(0, .ref _), (1, .ref _), (2, .int _), (3, .int _)] rfl ?_
  exact B_X7_run_7 _ _ _ _ _ h
def F_X8_runAsTold (x1 : Int32) (μ : Mm) : Option Mm := (F_X8_planAsTold μ).bind (fun q1 => (F_X7_run x1 q1).bind (fun q2 => some q2))
set_option maxRecDepth 100000 in
set_option maxHeartbeats 4000000 in
theorem S_X8_runAsTold (x1 : Int32)  (μ : Mm) (q : Mm) (h : F_X8_runAsTold x1 μ = some q) : Cn wC yX8_runAsTold cX8_runAsTold 2 none 4 [.ref 0, .int x1] μ none q := by
  refine Cn_of (by decide +kernel) (Nat.le_of_ble_eq_true rfl) ?_
  show G wC RX8 cX8_runAsTold 2 none 4 none q 0 [(0, .ref 0), (1, .int x1)] [] μ
  unfold F_X8_runAsTold at h
  refine G_aload_n (pc := 0) 0 dX8_runAsTold_0 rfl ?_
  obtain ⟨q1, e1, h⟩ := bnd_some h
  refine G_callV0v (pc := 1) 0 7 dX8_runAsTold_1 wv_X8_195 cd_X8_planAsTold (S_X8_planAsTold _ _ e1) (by decide) (by decide) rfl (by decide) (fun _ _ => ⟨_, rfl⟩) (Nat.le_of_ble_eq_true rfl) ?_
  refine G_aload_n (pc := 4) 0 dX8_runAsTold_4 rfl ?_
  refine gwC_X8_60_0 (pc := 5) dX8_runAsTold_5 ?_
  refine G_aload_n (pc := 8) 0 dX8_runAsTold_8 rfl ?_
  refine gwC_X8_53_0 (pc := 9) dX8_runAsTold_9 ?_
  refine G_iload_n (pc := 12) 1 dX8_runAsTold_12 rfl ?_
  obtain ⟨q2, e2, h⟩ := bnd_some h
  refine G_callV2v (pc := 13) 28 6 dX8_runAsTold_13 wv_X8_201 cd_X7_run (S_X7_run _ _ _ e2) (by decide) (by decide) rfl (by decide) (fun _ _ => ⟨_, rfl⟩) (Nat.le_of_ble_eq_true rfl) ?_
  obtain rfl := Option.some.inj h
  exact G_vret (pc := 16) rfl dX8_runAsTold_16
def F_X7_placedAt (x1 : Int32) (x2 : Int32) (μ : Mm) : Option (Int32 × Mm) := gi ((x1 * 3) + x2) 36 (some ((μ.1 33 ((x1 * 3) + x2).toNatClampNeg), μ))
set_option maxRecDepth 100000 in
set_option maxHeartbeats 4000000 in
theorem S_X7_placedAt (x1 : Int32) (x2 : Int32)  (μ : Mm) (q : (Int32 × Mm)) (h : F_X7_placedAt x1 x2 μ = some q) : Cn wC yX7_placedAt cX7_placedAt 3 (some .int) 0 [.ref 28, .int x1, .int x2] μ (some (.int q.1)) q.2 := by
  refine Cn_of (by decide +kernel) (Nat.le_of_ble_eq_true rfl) ?_
  show G wC RX7 cX7_placedAt 3 (some .int) 0 (some (.int q.1)) q.2 0 [(0, .ref 28), (1, .int x1), (2, .int x2)] [] μ
  unfold F_X7_placedAt at h
  refine G_aload_n (pc := 0) 0 dX7_placedAt_0 rfl ?_
  refine gwC_X7_24_28 (pc := 1) dX7_placedAt_1 ?_
  refine G_iload_n (pc := 4) 1 dX7_placedAt_4 rfl ?_
  refine G_iconst (pc := 5) (3) dX7_placedAt_5 ci_3 ?_
  refine G_imul (pc := 6) dX7_placedAt_6 ?_
  refine G_iload_n (pc := 7) 2 dX7_placedAt_7 rfl ?_
  refine G_iadd (pc := 8) dX7_placedAt_8 ?_
  obtain ⟨g1, h⟩ := gi_some h
  refine alwC_33 (pc := 9) dX7_placedAt_9 g1 ?_
  obtain rfl := Option.some.inj h
  exact G_iret (pc := 10) rfl dX7_placedAt_10
def F_X8_place (x1 : Int32) (x2 : Int32) (μ : Mm) : Option (Int32 × Mm) := (F_X8_isIn x1 12 μ).bind (fun q1 => if q1.1 = 0 then some ((-2), q1.2) else (F_X8_isIn x2 3 q1.2).bind (fun q3 => if q3.1 = 0 then some ((-2), q3.2) else (F_X8_runAsTold (x1 + 1) q3.2).bind (fun q5 => (F_X7_placedAt x1 x2 q5).bind (fun q6 => some (q6.1, q6.2)))))
set_option maxRecDepth 100000 in
set_option maxHeartbeats 4000000 in
theorem S_X8_place (x1 : Int32) (x2 : Int32)  (μ : Mm) (q : (Int32 × Mm)) (h : F_X8_place x1 x2 μ = some q) : Cn wC yX8_place cX8_place 3 (some .int) 5 [.ref 0, .int x1, .int x2] μ (some (.int q.1)) q.2 := by
  refine Cn_of (by decide +kernel) (Nat.le_of_ble_eq_true rfl) ?_
  show G wC RX8 cX8_place 3 (some .int) 5 (some (.int q.1)) q.2 0 [(0, .ref 0), (1, .int x1), (2, .int x2)] [] μ
  unfold F_X8_place at h
  refine G_iload_n (pc := 0) 1 dX8_place_0 rfl ?_
  refine G_bipush (pc := 1) (12) dX8_place_1 bp_12 ?_
  obtain ⟨q1, e1, h⟩ := bnd_some h
  refine G_callS2r (pc := 3) dX8_place_3 ws_X8_104 cd_X8_isIn (S_X8_isIn _ _ _ _ e1) (by decide) (by decide) (Nat.le_of_ble_eq_true rfl) ?_
  refine G_if_eq (pc := 6) 17 dX8_place_6 (by decide) (fun c2 => ?_) (fun c2 => ?_)
  · replace h := itp c2 h
    refine G_bipush (pc := 17) (-2) dX8_place_17 bp_m2 ?_
    obtain rfl := Option.some.inj h
    exact G_iret (pc := 19) rfl dX8_place_19
  · replace h := itn c2 h
    refine G_iload_n (pc := 9) 2 dX8_place_9 rfl ?_
    refine G_iconst (pc := 10) (3) dX8_place_10 ci_3 ?_
    obtain ⟨q3, e3, h⟩ := bnd_some h
    refine G_callS2r (pc := 11) dX8_place_11 ws_X8_104 cd_X8_isIn (S_X8_isIn _ _ _ _ e3) (by decide) (by decide) (Nat.le_of_ble_eq_true rfl) ?_
    refine G_if_ne (pc := 14) 20 dX8_place_14 (by decide) (fun c4 => ?_) (fun c4 => ?_)
    · replace h := itn c4 h
      refine G_aload_n (pc := 20) 0 dX8_place_20 rfl ?_
      refine G_iload_n (pc := 21) 1 dX8_place_21 rfl ?_
      refine G_iconst (pc := 22) (1) dX8_place_22 ci_1 ?_
      refine G_iadd (pc := 23) dX8_place_23 ?_
      obtain ⟨q5, e5, h⟩ := bnd_some h
      refine G_callV1v (pc := 24) 0 7 dX8_place_24 wv_X8_133 cd_X8_runAsTold (S_X8_runAsTold _ _ _ e5) (by decide) (by decide) rfl (by decide) (fun _ _ => ⟨_, rfl⟩) (Nat.le_of_ble_eq_true rfl) ?_
      refine G_aload_n (pc := 27) 0 dX8_place_27 rfl ?_
      refine gwC_X8_60_0 (pc := 28) dX8_place_28 ?_
      refine G_iload_n (pc := 31) 1 dX8_place_31 rfl ?_
      refine G_iload_n (pc := 32) 2 dX8_place_32 rfl ?_
      obtain ⟨q6, e6, h⟩ := bnd_some h
      refine G_callV2r (pc := 33) 28 6 dX8_place_33 wv_X8_136 cd_X7_placedAt (S_X7_placedAt _ _ _ _ e6) (by decide) (by decide) rfl (by decide) (fun _ _ => ⟨_, rfl⟩) (Nat.le_of_ble_eq_true rfl) ?_
      obtain rfl := Option.some.inj h
      exact G_iret (pc := 36) rfl dX8_place_36
    · replace h := itp c4 h
      refine G_bipush (pc := 17) (-2) dX8_place_17 bp_m2 ?_
      obtain rfl := Option.some.inj h
      exact G_iret (pc := 19) rfl dX8_place_19
def F_X7_tellOf (x1 : Int32) (x2 : Int32) (μ : Mm) : Option (Int32 × Mm) := if x2 = 0 then gi x1 10 (some ((μ.1 29 x1.toNatClampNeg), μ)) else if x2 = 1 then gi x1 10 (some ((μ.1 30 x1.toNatClampNeg), μ)) else if x2 = 2 then gi x1 10 (some ((μ.1 31 x1.toNatClampNeg), μ)) else if x2 = 3 then some ((((μ.1 28 5) >>> (x1 &&& 31)) &&& 1), μ) else gi x1 10 (some ((μ.1 32 x1.toNatClampNeg), μ))
set_option maxRecDepth 100000 in
set_option maxHeartbeats 4000000 in
theorem S_X7_tellOf (x1 : Int32) (x2 : Int32)  (μ : Mm) (q : (Int32 × Mm)) (h : F_X7_tellOf x1 x2 μ = some q) : Cn wC yX7_tellOf cX7_tellOf 3 (some .int) 0 [.ref 28, .int x1, .int x2] μ (some (.int q.1)) q.2 := by
  refine Cn_of (by decide +kernel) (Nat.le_of_ble_eq_true rfl) ?_
  show G wC RX7 cX7_tellOf 3 (some .int) 0 (some (.int q.1)) q.2 0 [(0, .ref 28), (1, .int x1), (2, .int x2)] [] μ
  unfold F_X7_tellOf at h
  refine G_iload_n (pc := 0) 2 dX7_tellOf_0 rfl ?_
  by_cases c1 : x2 = 0
  · replace h := itp c1 h
    refine G_tswV (pc := 1) 32 (0) c1 dX7_tellOf_1 (by decide) (by decide) rfl (by decide) ?_
    refine G_aload_n (pc := 32) 0 dX7_tellOf_32 rfl ?_
    refine gwC_X7_9_28 (pc := 33) dX7_tellOf_33 ?_
    refine G_iload_n (pc := 36) 1 dX7_tellOf_36 rfl ?_
    obtain ⟨g8, h⟩ := gi_some h
    refine alwC_29 (pc := 37) dX7_tellOf_37 g8 ?_
    obtain rfl := Option.some.inj h
    exact G_iret (pc := 38) rfl dX7_tellOf_38
  · replace h := itn c1 h
    by_cases c2 : x2 = 1
    · replace h := itp c2 h
      refine G_tswV (pc := 1) 39 (1) c2 dX7_tellOf_1 (by decide) (by decide) rfl (by decide) ?_
      refine G_aload_n (pc := 39) 0 dX7_tellOf_39 rfl ?_
      refine gwC_X7_15_28 (pc := 40) dX7_tellOf_40 ?_
      refine G_iload_n (pc := 43) 1 dX7_tellOf_43 rfl ?_
      obtain ⟨g7, h⟩ := gi_some h
      refine alwC_30 (pc := 44) dX7_tellOf_44 g7 ?_
      obtain rfl := Option.some.inj h
      exact G_iret (pc := 45) rfl dX7_tellOf_45
    · replace h := itn c2 h
      by_cases c3 : x2 = 2
      · replace h := itp c3 h
        refine G_tswV (pc := 1) 46 (2) c3 dX7_tellOf_1 (by decide) (by decide) rfl (by decide) ?_
        refine G_aload_n (pc := 46) 0 dX7_tellOf_46 rfl ?_
        refine gwC_X7_18_28 (pc := 47) dX7_tellOf_47 ?_
        refine G_iload_n (pc := 50) 1 dX7_tellOf_50 rfl ?_
        obtain ⟨g6, h⟩ := gi_some h
        refine alwC_31 (pc := 51) dX7_tellOf_51 g6 ?_
        obtain rfl := Option.some.inj h
        exact G_iret (pc := 52) rfl dX7_tellOf_52
      · replace h := itn c3 h
        by_cases c4 : x2 = 3
        · replace h := itp c4 h
          refine G_tswV (pc := 1) 53 (3) c4 dX7_tellOf_1 (by decide) (by decide) rfl (by decide) ?_
          refine G_aload_n (pc := 53) 0 dX7_tellOf_53 rfl ?_
          refine gwC_X7_27_28 (pc := 54) dX7_tellOf_54 ?_
          refine G_iload_n (pc := 57) 1 dX7_tellOf_57 rfl ?_
          refine G_ishr (pc := 58) dX7_tellOf_58 ?_
          refine G_iconst (pc := 59) (1) dX7_tellOf_59 ci_1 ?_
          refine G_iand (pc := 60) dX7_tellOf_60 ?_
          obtain rfl := Option.some.inj h
          exact G_iret (pc := 61) rfl dX7_tellOf_61
        · replace h := itn c4 h
          refine G_tswOut (pc := 1) 62 dX7_tellOf_1 (tswO 4 (by decide) (lt_s (lt_s (lt_s (lt_s lt_0 c1) c2) c3) c4)) (by decide) ?_
          refine G_aload_n (pc := 62) 0 dX7_tellOf_62 rfl ?_
          refine gwC_X7_21_28 (pc := 63) dX7_tellOf_63 ?_
          refine G_iload_n (pc := 66) 1 dX7_tellOf_66 rfl ?_
          obtain ⟨g5, h⟩ := gi_some h
          refine alwC_32 (pc := 67) dX7_tellOf_67 g5 ?_
          obtain rfl := Option.some.inj h
          exact G_iret (pc := 68) rfl dX7_tellOf_68
def F_X8_at (x1 : Int32) (x2 : Int32) (x3 : Int32) (μ : Mm) : Option (Int32 × Mm) := (F_X8_isIn x1 12 μ).bind (fun q1 => if q1.1 = 0 then some ((-2), q1.2) else (F_X3_size_1 q1.2).bind (fun q3 => (F_X8_isIn x2 q3.1 q3.2).bind (fun q4 => if q4.1 = 0 then some ((-2), q4.2) else (F_X8_isIn x3 5 q4.2).bind (fun q6 => if q6.1 = 0 then some ((-2), q6.2) else (F_X8_runAsTold (x1 + 1) q6.2).bind (fun q8 => (F_X7_tellOf x2 x3 q8).bind (fun q9 => some (q9.1, q9.2)))))))
set_option maxRecDepth 100000 in
set_option maxHeartbeats 4000000 in
theorem S_X8_at (x1 : Int32) (x2 : Int32) (x3 : Int32)  (μ : Mm) (q : (Int32 × Mm)) (h : F_X8_at x1 x2 x3 μ = some q) : Cn wC yX8_at cX8_at 4 (some .int) 5 [.ref 0, .int x1, .int x2, .int x3] μ (some (.int q.1)) q.2 := by
  refine Cn_of (by decide +kernel) (Nat.le_of_ble_eq_true rfl) ?_
  show G wC RX8 cX8_at 4 (some .int) 5 (some (.int q.1)) q.2 0 [(0, .ref 0), (1, .int x1), (2, .int x2), (3, .int x3)] [] μ
  unfold F_X8_at at h
  refine G_iload_n (pc := 0) 1 dX8_at_0 rfl ?_
  refine G_bipush (pc := 1) (12) dX8_at_1 bp_12 ?_
  obtain ⟨q1, e1, h⟩ := bnd_some h
  refine G_callS2r (pc := 3) dX8_at_3 ws_X8_104 cd_X8_isIn (S_X8_isIn _ _ _ _ e1) (by decide) (by decide) (Nat.le_of_ble_eq_true rfl) ?_
  refine G_if_eq (pc := 6) 31 dX8_at_6 (by decide) (fun c2 => ?_) (fun c2 => ?_)
  · replace h := itp c2 h
    refine G_bipush (pc := 31) (-2) dX8_at_31 bp_m2 ?_
    obtain rfl := Option.some.inj h
    exact G_iret (pc := 33) rfl dX8_at_33
  · replace h := itn c2 h
    refine G_iload_n (pc := 9) 2 dX8_at_9 rfl ?_
    refine G_aload_n (pc := 10) 0 dX8_at_10 rfl ?_
    refine gwC_X8_14_0 (pc := 11) dX8_at_11 ?_
    obtain ⟨q3, e3, h⟩ := bnd_some h
    refine G_callV0r (pc := 14) 1 3 dX8_at_14 wv_X8_100 cd_X3_size (S_X3_size_1 _ _ e3) (by decide) (by decide) rfl (by decide) (fun _ _ => ⟨_, rfl⟩) (Nat.le_of_ble_eq_true rfl) ?_
    obtain ⟨q4, e4, h⟩ := bnd_some h
    refine G_callS2r (pc := 17) dX8_at_17 ws_X8_104 cd_X8_isIn (S_X8_isIn _ _ _ _ e4) (by decide) (by decide) (Nat.le_of_ble_eq_true rfl) ?_
    refine G_if_eq (pc := 20) 31 dX8_at_20 (by decide) (fun c5 => ?_) (fun c5 => ?_)
    · replace h := itp c5 h
      refine G_bipush (pc := 31) (-2) dX8_at_31 bp_m2 ?_
      obtain rfl := Option.some.inj h
      exact G_iret (pc := 33) rfl dX8_at_33
    · replace h := itn c5 h
      refine G_iload_n (pc := 23) 3 dX8_at_23 rfl ?_
      refine G_iconst (pc := 24) (5) dX8_at_24 ci_5 ?_
      obtain ⟨q6, e6, h⟩ := bnd_some h
      refine G_callS2r (pc := 25) dX8_at_25 ws_X8_104 cd_X8_isIn (S_X8_isIn _ _ _ _ e6) (by decide) (by decide) (Nat.le_of_ble_eq_true rfl) ?_
      refine G_if_ne (pc := 28) 34 dX8_at_28 (by decide) (fun c7 => ?_) (fun c7 => ?_)
      · replace h := itn c7 h
        refine G_aload_n (pc := 34) 0 dX8_at_34 rfl ?_
        refine G_iload_n (pc := 35) 1 dX8_at_35 rfl ?_
        refine G_iconst (pc := 36) (1) dX8_at_36 ci_1 ?_
        refine G_iadd (pc := 37) dX8_at_37 ?_
        obtain ⟨q8, e8, h⟩ := bnd_some h
        refine G_callV1v (pc := 38) 0 7 dX8_at_38 wv_X8_133 cd_X8_runAsTold (S_X8_runAsTold _ _ _ e8) (by decide) (by decide) rfl (by decide) (fun _ _ => ⟨_, rfl⟩) (Nat.le_of_ble_eq_true rfl) ?_
        refine G_aload_n (pc := 41) 0 dX8_at_41 rfl ?_
        refine gwC_X8_60_0 (pc := 42) dX8_at_42 ?_
        refine G_iload_n (pc := 45) 2 dX8_at_45 rfl ?_
        refine G_iload_n (pc := 46) 3 dX8_at_46 rfl ?_
        obtain ⟨q9, e9, h⟩ := bnd_some h
        refine G_callV2r (pc := 47) 28 6 dX8_at_47 wv_X8_139 cd_X7_tellOf (S_X7_tellOf _ _ _ _ e9) (by decide) (by decide) rfl (by decide) (fun _ _ => ⟨_, rfl⟩) (Nat.le_of_ble_eq_true rfl) ?_
        obtain rfl := Option.some.inj h
        exact G_iret (pc := 50) rfl dX8_at_50
      · replace h := itp c7 h
        refine G_bipush (pc := 31) (-2) dX8_at_31 bp_m2 ?_
        obtain rfl := Option.some.inj h
        exact G_iret (pc := 33) rfl dX8_at_33
def F_X8_show (x1 : Int32) (x2 : Int32) (μ : Mm) : Option (Int32 × Mm) := (F_X8_isIn x1 12 μ).bind (fun q1 => if q1.1 = 0 then some ((-2), q1.2) else (F_X8_isIn x2 2 q1.2).bind (fun q3 => if q3.1 = 0 then some ((-2), q3.2) else (F_X8_runAsTold (x1 + 1) q3.2).bind (fun q5 => if x2 = 0 then (F_X2_judgeIn x1 q5).bind (fun q7 => some (q7.1, q7.2)) else some ((q5.1 28 6), q5))))
set_option maxRecDepth 100000 in
set_option maxHeartbeats 4000000 in
theorem S_X8_show (x1 : Int32) (x2 : Int32)  (μ : Mm) (q : (Int32 × Mm)) (h : F_X8_show x1 x2 μ = some q) : Cn wC yX8_show cX8_show 3 (some .int) 5 [.ref 0, .int x1, .int x2] μ (some (.int q.1)) q.2 := by
  refine Cn_of (by decide +kernel) (Nat.le_of_ble_eq_true rfl) ?_
  show G wC RX8 cX8_show 3 (some .int) 5 (some (.int q.1)) q.2 0 [(0, .ref 0), (1, .int x1), (2, .int x2)] [] μ
  unfold F_X8_show at h
  refine G_iload_n (pc := 0) 1 dX8_show_0 rfl ?_
  refine G_bipush (pc := 1) (12) dX8_show_1 bp_12 ?_
  obtain ⟨q1, e1, h⟩ := bnd_some h
  refine G_callS2r (pc := 3) dX8_show_3 ws_X8_104 cd_X8_isIn (S_X8_isIn _ _ _ _ e1) (by decide) (by decide) (Nat.le_of_ble_eq_true rfl) ?_
  refine G_if_eq (pc := 6) 17 dX8_show_6 (by decide) (fun c2 => ?_) (fun c2 => ?_)
  · replace h := itp c2 h
    refine G_bipush (pc := 17) (-2) dX8_show_17 bp_m2 ?_
    obtain rfl := Option.some.inj h
    exact G_iret (pc := 19) rfl dX8_show_19
  · replace h := itn c2 h
    refine G_iload_n (pc := 9) 2 dX8_show_9 rfl ?_
    refine G_iconst (pc := 10) (2) dX8_show_10 ci_2 ?_
    obtain ⟨q3, e3, h⟩ := bnd_some h
    refine G_callS2r (pc := 11) dX8_show_11 ws_X8_104 cd_X8_isIn (S_X8_isIn _ _ _ _ e3) (by decide) (by decide) (Nat.le_of_ble_eq_true rfl) ?_
    refine G_if_ne (pc := 14) 20 dX8_show_14 (by decide) (fun c4 => ?_) (fun c4 => ?_)
    · replace h := itn c4 h
      refine G_aload_n (pc := 20) 0 dX8_show_20 rfl ?_
      refine G_iload_n (pc := 21) 1 dX8_show_21 rfl ?_
      refine G_iconst (pc := 22) (1) dX8_show_22 ci_1 ?_
      refine G_iadd (pc := 23) dX8_show_23 ?_
      obtain ⟨q5, e5, h⟩ := bnd_some h
      refine G_callV1v (pc := 24) 0 7 dX8_show_24 wv_X8_133 cd_X8_runAsTold (S_X8_runAsTold _ _ _ e5) (by decide) (by decide) rfl (by decide) (fun _ _ => ⟨_, rfl⟩) (Nat.le_of_ble_eq_true rfl) ?_
      refine G_iload_n (pc := 27) 2 dX8_show_27 rfl ?_
      refine G_if_ne (pc := 28) 42 dX8_show_28 (by decide) (fun c6 => ?_) (fun c6 => ?_)
      · replace h := itn c6 h
        refine G_aload_n (pc := 42) 0 dX8_show_42 rfl ?_
        refine gwC_X8_60_0 (pc := 43) dX8_show_43 ?_
        refine gwC_X8_145_28 (pc := 46) dX8_show_46 ?_
        obtain rfl := Option.some.inj h
        exact G_iret (pc := 49) rfl dX8_show_49
      · replace h := itp c6 h
        refine G_aload_n (pc := 31) 0 dX8_show_31 rfl ?_
        refine gwC_X8_53_0 (pc := 32) dX8_show_32 ?_
        refine G_iload_n (pc := 35) 1 dX8_show_35 rfl ?_
        obtain ⟨q7, e7, h⟩ := bnd_some h
        refine G_callV1r (pc := 36) 20 2 dX8_show_36 wv_X8_142 cd_X2_judgeIn (S_X2_judgeIn _ _ _ e7) (by decide) (by decide) rfl (by decide) (fun _ _ => ⟨_, rfl⟩) (Nat.le_of_ble_eq_true rfl) ?_
        refine G_goto (pc := 39) 49 dX8_show_39 (by decide) ?_
        obtain rfl := Option.some.inj h
        exact G_iret (pc := 49) rfl dX8_show_49
    · replace h := itp c4 h
      refine G_bipush (pc := 17) (-2) dX8_show_17 bp_m2 ?_
      obtain rfl := Option.some.inj h
      exact G_iret (pc := 19) rfl dX8_show_19
def F_X7_coloursOf_35 (K5 : Int32 → Int32 → Int32 → Mm → Option (Int32 × Mm)) (x2 : Int32) (x3 : Int32) (x4 : Int32) (μ : Mm) : Option (Int32 × Mm) := K5 x2 x3 (x4 + 1) μ
set_option maxRecDepth 100000 in
set_option maxHeartbeats 4000000 in
theorem B_X7_coloursOf_35 (K5 : Int32 → Int32 → Int32 → Mm → Option (Int32 × Mm)) (hK5 : ∀ (x2 : Int32) (x3 : Int32) (x4 : Int32) (μ : Mm) (q : (Int32 × Mm)), K5 x2 x3 x4 μ = some q → G wC RX7 cX7_coloursOf 5 (some .int) 0 (some (.int q.1)) q.2 5 [(0, .ref 28), (1, .ref 20), (2, .int x2), (3, .int x3), (4, .int x4)] [] μ) (x2 : Int32) (x3 : Int32) (x4 : Int32) (μ : Mm) (q : (Int32 × Mm))  (h : F_X7_coloursOf_35 K5 x2 x3 x4 μ = some q) : G wC RX7 cX7_coloursOf 5 (some .int) 0 (some (.int q.1)) q.2 35 [(0, .ref 28), (1, .ref 20), (2, .int x2), (3, .int x3), (4, .int x4)] [] μ := by
  unfold F_X7_coloursOf_35 at h
  refine G_iinc (pc := 35) (1) 4 [(4, .int _), (0, .ref _), (1, .ref _), (2, .int _), (3, .int _)] dX7_coloursOf_35 ci_1 rfl (Nat.le_of_ble_eq_true rfl) rfl ?_
  refine G_goto (pc := 38) 5 dX7_coloursOf_38 (by decide) ?_
  refine G_loc [1, 2, 3, 4, 0] [(0, .ref _), (1, .ref _), (2, .int _), (3, .int _), (4, .int _)] rfl ?_
  exact hK5 _ _ _ _ _ h
def L_X7_coloursOf_5 : Nat → Int32 → Int32 → Int32 → Mm → Option (Int32 × Mm)
  | 0, _, _, _, _ => none
  | n + 1, x2, x3, x4, μ => if (μ.1 20 1) ≤ x4 then some (x3, μ) else gi x4 10 (if (μ.1 23 x4.toNatClampNeg) = x2 then gi x4 10 (F_X7_coloursOf_35 (L_X7_coloursOf_5 n) x2 (x3 + (μ.1 30 x4.toNatClampNeg)) x4 μ) else F_X7_coloursOf_35 (L_X7_coloursOf_5 n) x2 x3 x4 μ)
set_option maxRecDepth 100000 in
set_option maxHeartbeats 4000000 in
theorem L_X7_coloursOf_5_s (n : Nat) (x2 : Int32) (x3 : Int32) (x4 : Int32) (μ : Mm) : L_X7_coloursOf_5  (n + 1) x2 x3 x4 μ = (if (μ.1 20 1) ≤ x4 then some (x3, μ) else gi x4 10 (if (μ.1 23 x4.toNatClampNeg) = x2 then gi x4 10 (F_X7_coloursOf_35 (L_X7_coloursOf_5 n) x2 (x3 + (μ.1 30 x4.toNatClampNeg)) x4 μ) else F_X7_coloursOf_35 (L_X7_coloursOf_5 n) x2 x3 x4 μ)) := rfl
set_option maxRecDepth 100000 in
set_option maxHeartbeats 4000000 in
theorem B_X7_coloursOf_5 : ∀ (n : Nat) (x2 : Int32) (x3 : Int32) (x4 : Int32) (μ : Mm) (q : (Int32 × Mm)), L_X7_coloursOf_5  n x2 x3 x4 μ = some q → G wC RX7 cX7_coloursOf 5 (some .int) 0 (some (.int q.1)) q.2 5 [(0, .ref 28), (1, .ref 20), (2, .int x2), (3, .int x3), (4, .int x4)] [] μ := by
  intro n
  induction n with
  | zero =>
    intro x2 x3 x4 μ q  h
    cases h
  | succ n ih =>
    intro x2 x3 x4 μ q  h
    rw [L_X7_coloursOf_5_s] at h
    refine G_iload (pc := 5) 4 dX7_coloursOf_5 rfl ?_
    refine G_aload_n (pc := 7) 1 dX7_coloursOf_7 rfl ?_
    refine gwC_X7_99_20 (pc := 8) dX7_coloursOf_8 ?_
    refine G_icmp_ge (pc := 11) 41 dX7_coloursOf_11 (by decide) (fun c1 => ?_) (fun c1 => ?_)
    · replace h := itp c1 h
      refine G_iload_n (pc := 41) 3 dX7_coloursOf_41 rfl ?_
      obtain rfl := Option.some.inj h
      exact G_iret (pc := 42) rfl dX7_coloursOf_42
    · replace h := itn c1 h
      refine G_aload_n (pc := 14) 1 dX7_coloursOf_14 rfl ?_
      refine gwC_X7_115_20 (pc := 15) dX7_coloursOf_15 ?_
      refine G_iload (pc := 18) 4 dX7_coloursOf_18 rfl ?_
      obtain ⟨g2, h⟩ := gi_some h
      refine alwC_23 (pc := 20) dX7_coloursOf_20 g2 ?_
      refine G_iload_n (pc := 21) 2 dX7_coloursOf_21 rfl ?_
      refine G_icmp_ne (pc := 22) 35 dX7_coloursOf_22 (by decide) (fun c3 => ?_) (fun c3 => ?_)
      · replace h := itn c3 h
        exact B_X7_coloursOf_35 _ ih _ _ _ _ _ h
      · replace h := itp c3 h
        refine G_iload_n (pc := 25) 3 dX7_coloursOf_25 rfl ?_
        refine G_aload_n (pc := 26) 0 dX7_coloursOf_26 rfl ?_
        refine gwC_X7_15_28 (pc := 27) dX7_coloursOf_27 ?_
        refine G_iload (pc := 30) 4 dX7_coloursOf_30 rfl ?_
        obtain ⟨g4, h⟩ := gi_some h
        refine alwC_30 (pc := 32) dX7_coloursOf_32 g4 ?_
        refine G_iadd (pc := 33) dX7_coloursOf_33 ?_
        refine G_istore_n (pc := 34) [(3, .int _), (0, .ref _), (1, .ref _), (2, .int _), (4, .int _)] dX7_coloursOf_34 (Nat.le_of_ble_eq_true rfl) rfl ?_
        refine G_loc [1, 2, 3, 0, 4] [(0, .ref _), (1, .ref _), (2, .int _), (3, .int _), (4, .int _)] rfl ?_
        exact B_X7_coloursOf_35 _ ih _ _ _ _ _ h
def F_X7_coloursOf (x2 : Int32) (μ : Mm) : Option (Int32 × Mm) := L_X7_coloursOf_5 FUEL x2 0 0 μ
set_option maxRecDepth 100000 in
set_option maxHeartbeats 4000000 in
theorem S_X7_coloursOf (x2 : Int32)  (μ : Mm) (q : (Int32 × Mm)) (h : F_X7_coloursOf x2 μ = some q) : Cn wC yX7_coloursOf cX7_coloursOf 5 (some .int) 0 [.ref 28, .ref 20, .int x2] μ (some (.int q.1)) q.2 := by
  refine Cn_of (by decide +kernel) (Nat.le_of_ble_eq_true rfl) ?_
  show G wC RX7 cX7_coloursOf 5 (some .int) 0 (some (.int q.1)) q.2 0 [(0, .ref 28), (1, .ref 20), (2, .int x2)] [] μ
  unfold F_X7_coloursOf at h
  refine G_iconst (pc := 0) (0) dX7_coloursOf_0 ci_0 ?_
  refine G_istore_n (pc := 1) [(3, .int _), (0, .ref _), (1, .ref _), (2, .int _)] dX7_coloursOf_1 (Nat.le_of_ble_eq_true rfl) rfl ?_
  refine G_iconst (pc := 2) (0) dX7_coloursOf_2 ci_0 ?_
  refine G_istore (pc := 3) [(4, .int _), (3, .int _), (0, .ref _), (1, .ref _), (2, .int _)] dX7_coloursOf_3 (Nat.le_of_ble_eq_true rfl) rfl ?_
  refine G_loc [2, 3, 4, 1, 0] [(0, .ref _), (1, .ref _), (2, .int _), (3, .int _), (4, .int _)] rfl ?_
  exact B_X7_coloursOf_5 _ _ _ _ _ _ h
def F_X8_owned (x1 : Int32) (μ : Mm) : Option (Int32 × Mm) := (F_X8_isIn x1 6 μ).bind (fun q1 => if q1.1 = 0 then some ((-2), q1.2) else (F_X8_runAsTold 12 q1.2).bind (fun q3 => (F_X7_coloursOf x1 q3).bind (fun q4 => some (q4.1, q4.2))))
set_option maxRecDepth 100000 in
set_option maxHeartbeats 4000000 in
theorem S_X8_owned (x1 : Int32)  (μ : Mm) (q : (Int32 × Mm)) (h : F_X8_owned x1 μ = some q) : Cn wC yX8_owned cX8_owned 2 (some .int) 5 [.ref 0, .int x1] μ (some (.int q.1)) q.2 := by
  refine Cn_of (by decide +kernel) (Nat.le_of_ble_eq_true rfl) ?_
  show G wC RX8 cX8_owned 2 (some .int) 5 (some (.int q.1)) q.2 0 [(0, .ref 0), (1, .int x1)] [] μ
  unfold F_X8_owned at h
  refine G_iload_n (pc := 0) 1 dX8_owned_0 rfl ?_
  refine G_bipush (pc := 1) (6) dX8_owned_1 bp_6 ?_
  obtain ⟨q1, e1, h⟩ := bnd_some h
  refine G_callS2r (pc := 3) dX8_owned_3 ws_X8_104 cd_X8_isIn (S_X8_isIn _ _ _ _ e1) (by decide) (by decide) (Nat.le_of_ble_eq_true rfl) ?_
  refine G_if_ne (pc := 6) 12 dX8_owned_6 (by decide) (fun c2 => ?_) (fun c2 => ?_)
  · replace h := itn c2 h
    refine G_aload_n (pc := 12) 0 dX8_owned_12 rfl ?_
    refine G_bipush (pc := 13) (12) dX8_owned_13 bp_12 ?_
    obtain ⟨q3, e3, h⟩ := bnd_some h
    refine G_callV1v (pc := 15) 0 7 dX8_owned_15 wv_X8_133 cd_X8_runAsTold (S_X8_runAsTold _ _ _ e3) (by decide) (by decide) rfl (by decide) (fun _ _ => ⟨_, rfl⟩) (Nat.le_of_ble_eq_true rfl) ?_
    refine G_aload_n (pc := 18) 0 dX8_owned_18 rfl ?_
    refine gwC_X8_60_0 (pc := 19) dX8_owned_19 ?_
    refine G_aload_n (pc := 22) 0 dX8_owned_22 rfl ?_
    refine gwC_X8_53_0 (pc := 23) dX8_owned_23 ?_
    refine G_iload_n (pc := 26) 1 dX8_owned_26 rfl ?_
    obtain ⟨q4, e4, h⟩ := bnd_some h
    refine G_callV2r (pc := 27) 28 6 dX8_owned_27 wv_X8_148 cd_X7_coloursOf (S_X7_coloursOf _ _ _ e4) (by decide) (by decide) rfl (by decide) (fun _ _ => ⟨_, rfl⟩) (Nat.le_of_ble_eq_true rfl) ?_
    obtain rfl := Option.some.inj h
    exact G_iret (pc := 30) rfl dX8_owned_30
  · replace h := itp c2 h
    refine G_bipush (pc := 9) (-2) dX8_owned_9 bp_m2 ?_
    obtain rfl := Option.some.inj h
    exact G_iret (pc := 11) rfl dX8_owned_11
def F_X0_clear  (μ : Mm) : Option Mm := some (wI (wI μ 34 0 (-1)) 34 1 (-1))
set_option maxRecDepth 100000 in
set_option maxHeartbeats 4000000 in
theorem S_X0_clear   (μ : Mm) (q : Mm) (h : F_X0_clear  μ = some q) : Cn wC yX0_clear cX0_clear 1 none 0 [.ref 34] μ none q := by
  refine Cn_of (by decide +kernel) (Nat.le_of_ble_eq_true rfl) ?_
  show G wC RX0 cX0_clear 1 none 0 none q 0 [(0, .ref 34)] [] μ
  unfold F_X0_clear at h
  refine G_aload_n (pc := 0) 0 dX0_clear_0 rfl ?_
  refine G_iconst (pc := 1) (-1) dX0_clear_1 ci_m1 ?_
  refine pwC_X0_9_34 (pc := 2) dX0_clear_2 ?_
  refine G_aload_n (pc := 5) 0 dX0_clear_5 rfl ?_
  refine G_iconst (pc := 6) (-1) dX0_clear_6 ci_m1 ?_
  refine pwC_X0_15_34 (pc := 7) dX0_clear_7 ?_
  obtain rfl := Option.some.inj h
  exact G_vret (pc := 10) rfl dX0_clear_10
def F_X0_offer_16 (x1 : Int32) (x2 : Int32) (μ : Mm) : Option Mm := some (wI (wI μ 34 0 x1) 34 1 x2)
set_option maxRecDepth 100000 in
set_option maxHeartbeats 4000000 in
theorem B_X0_offer_16 (x1 : Int32) (x2 : Int32) (μ : Mm) (q : Mm)  (h : F_X0_offer_16  x1 x2 μ = some q) : G wC RX0 cX0_offer 3 none 0 none q 16 [(0, .ref 34), (1, .int x1), (2, .int x2)] [] μ := by
  unfold F_X0_offer_16 at h
  refine G_aload_n (pc := 16) 0 dX0_offer_16 rfl ?_
  refine G_iload_n (pc := 17) 1 dX0_offer_17 rfl ?_
  refine pwC_X0_9_34 (pc := 18) dX0_offer_18 ?_
  refine G_aload_n (pc := 21) 0 dX0_offer_21 rfl ?_
  refine G_iload_n (pc := 22) 2 dX0_offer_22 rfl ?_
  refine pwC_X0_15_34 (pc := 23) dX0_offer_23 ?_
  obtain rfl := Option.some.inj h
  exact G_vret (pc := 26) rfl dX0_offer_26
def F_X0_offer (x1 : Int32) (x2 : Int32) (μ : Mm) : Option Mm := if (μ.1 34 0) = (-1) then F_X0_offer_16 x1 x2 μ else if x2 ≤ (μ.1 34 1) then some μ else F_X0_offer_16 x1 x2 μ
set_option maxRecDepth 100000 in
set_option maxHeartbeats 4000000 in
theorem S_X0_offer (x1 : Int32) (x2 : Int32)  (μ : Mm) (q : Mm) (h : F_X0_offer x1 x2 μ = some q) : Cn wC yX0_offer cX0_offer 3 none 0 [.ref 34, .int x1, .int x2] μ none q := by
  refine Cn_of (by decide +kernel) (Nat.le_of_ble_eq_true rfl) ?_
  show G wC RX0 cX0_offer 3 none 0 none q 0 [(0, .ref 34), (1, .int x1), (2, .int x2)] [] μ
  unfold F_X0_offer at h
  refine G_aload_n (pc := 0) 0 dX0_offer_0 rfl ?_
  refine gwC_X0_9_34 (pc := 1) dX0_offer_1 ?_
  refine G_iconst (pc := 4) (-1) dX0_offer_4 ci_m1 ?_
  refine G_icmp_eq (pc := 5) 16 dX0_offer_5 (by decide) (fun c1 => ?_) (fun c1 => ?_)
  · replace h := itp c1 h
    exact B_X0_offer_16 _ _ _ _ h
  · replace h := itn c1 h
    refine G_iload_n (pc := 8) 2 dX0_offer_8 rfl ?_
    refine G_aload_n (pc := 9) 0 dX0_offer_9 rfl ?_
    refine gwC_X0_15_34 (pc := 10) dX0_offer_10 ?_
    refine G_icmp_le (pc := 13) 26 dX0_offer_13 (by decide) (fun c2 => ?_) (fun c2 => ?_)
    · replace h := itp c2 h
      obtain rfl := Option.some.inj h
      exact G_vret (pc := 26) rfl dX0_offer_26
    · replace h := itn c2 h
      exact B_X0_offer_16 _ _ _ _ h
def L_X8_champion_15 : Nat → Int32 → Mm → Option (Int32 × Mm)
  | 0, _, _ => none
  | n + 1, x1, μ => if 6 ≤ x1 then some ((μ.1 34 0), μ) else (F_X7_coloursOf x1 μ).bind (fun q4 => (F_X0_offer x1 q4.1 q4.2).bind (fun q5 => L_X8_champion_15 n (x1 + 1) q5))
set_option maxRecDepth 100000 in
set_option maxHeartbeats 4000000 in
theorem L_X8_champion_15_s (n : Nat) (x1 : Int32) (μ : Mm) : L_X8_champion_15  (n + 1) x1 μ = (if 6 ≤ x1 then some ((μ.1 34 0), μ) else (F_X7_coloursOf x1 μ).bind (fun q4 => (F_X0_offer x1 q4.1 q4.2).bind (fun q5 => L_X8_champion_15 n (x1 + 1) q5))) := rfl
set_option maxRecDepth 100000 in
set_option maxHeartbeats 4000000 in
theorem B_X8_champion_15 : ∀ (n : Nat) (x1 : Int32) (μ : Mm) (q : (Int32 × Mm)), L_X8_champion_15  n x1 μ = some q → G wC RX8 cX8_champion 2 (some .int) 5 (some (.int q.1)) q.2 15 [(0, .ref 0), (1, .int x1)] [] μ := by
  intro n
  induction n with
  | zero =>
    intro x1 μ q  h
    cases h
  | succ n ih =>
    intro x1 μ q  h
    rw [L_X8_champion_15_s] at h
    refine G_iload_n (pc := 15) 1 dX8_champion_15 rfl ?_
    refine G_bipush (pc := 16) (6) dX8_champion_16 bp_6 ?_
    refine G_icmp_ge (pc := 18) 47 dX8_champion_18 (by decide) (fun c3 => ?_) (fun c3 => ?_)
    · replace h := itp c3 h
      refine G_aload_n (pc := 47) 0 dX8_champion_47 rfl ?_
      refine gwC_X8_67_0 (pc := 48) dX8_champion_48 ?_
      refine gwC_X8_158_34 (pc := 51) dX8_champion_51 ?_
      obtain rfl := Option.some.inj h
      exact G_iret (pc := 54) rfl dX8_champion_54
    · replace h := itn c3 h
      refine G_aload_n (pc := 21) 0 dX8_champion_21 rfl ?_
      refine gwC_X8_67_0 (pc := 22) dX8_champion_22 ?_
      refine G_iload_n (pc := 25) 1 dX8_champion_25 rfl ?_
      refine G_aload_n (pc := 26) 0 dX8_champion_26 rfl ?_
      refine gwC_X8_60_0 (pc := 27) dX8_champion_27 ?_
      refine G_aload_n (pc := 30) 0 dX8_champion_30 rfl ?_
      refine gwC_X8_53_0 (pc := 31) dX8_champion_31 ?_
      refine G_iload_n (pc := 34) 1 dX8_champion_34 rfl ?_
      obtain ⟨q4, e4, h⟩ := bnd_some h
      refine G_callV2r (pc := 35) 28 6 dX8_champion_35 wv_X8_148 cd_X7_coloursOf (S_X7_coloursOf _ _ _ e4) (by decide) (by decide) rfl (by decide) (fun _ _ => ⟨_, rfl⟩) (Nat.le_of_ble_eq_true rfl) ?_
      obtain ⟨q5, e5, h⟩ := bnd_some h
      refine G_callV2v (pc := 38) 34 0 dX8_champion_38 wv_X8_155 cd_X0_offer (S_X0_offer _ _ _ _ e5) (by decide) (by decide) rfl (by decide) (fun _ _ => ⟨_, rfl⟩) (Nat.le_of_ble_eq_true rfl) ?_
      refine G_iinc (pc := 41) (1) 1 [(1, .int _), (0, .ref _)] dX8_champion_41 ci_1 rfl (Nat.le_of_ble_eq_true rfl) rfl ?_
      refine G_goto (pc := 44) 15 dX8_champion_44 (by decide) ?_
      refine G_loc [1, 0] [(0, .ref _), (1, .int _)] rfl ?_
      exact ih _ _ _ h
def F_X8_champion  (μ : Mm) : Option (Int32 × Mm) := (F_X8_runAsTold 12 μ).bind (fun q1 => (F_X0_clear q1).bind (fun q2 => L_X8_champion_15 FUEL 0 q2))
set_option maxRecDepth 100000 in
set_option maxHeartbeats 4000000 in
theorem S_X8_champion   (μ : Mm) (q : (Int32 × Mm)) (h : F_X8_champion  μ = some q) : Cn wC yX8_champion cX8_champion 2 (some .int) 5 [.ref 0] μ (some (.int q.1)) q.2 := by
  refine Cn_of (by decide +kernel) (Nat.le_of_ble_eq_true rfl) ?_
  show G wC RX8 cX8_champion 2 (some .int) 5 (some (.int q.1)) q.2 0 [(0, .ref 0)] [] μ
  unfold F_X8_champion at h
  refine G_aload_n (pc := 0) 0 dX8_champion_0 rfl ?_
  refine G_bipush (pc := 1) (12) dX8_champion_1 bp_12 ?_
  obtain ⟨q1, e1, h⟩ := bnd_some h
  refine G_callV1v (pc := 3) 0 7 dX8_champion_3 wv_X8_133 cd_X8_runAsTold (S_X8_runAsTold _ _ _ e1) (by decide) (by decide) rfl (by decide) (fun _ _ => ⟨_, rfl⟩) (Nat.le_of_ble_eq_true rfl) ?_
  refine G_aload_n (pc := 6) 0 dX8_champion_6 rfl ?_
  refine gwC_X8_67_0 (pc := 7) dX8_champion_7 ?_
  obtain ⟨q2, e2, h⟩ := bnd_some h
  refine G_callV0v (pc := 10) 34 0 dX8_champion_10 wv_X8_152 cd_X0_clear (S_X0_clear _ _ e2) (by decide) (by decide) rfl (by decide) (fun _ _ => ⟨_, rfl⟩) (Nat.le_of_ble_eq_true rfl) ?_
  refine G_iconst (pc := 13) (0) dX8_champion_13 ci_0 ?_
  refine G_istore_n (pc := 14) [(1, .int _), (0, .ref _)] dX8_champion_14 (Nat.le_of_ble_eq_true rfl) rfl ?_
  refine G_loc [1, 0] [(0, .ref _), (1, .int _)] rfl ?_
  exact B_X8_champion_15 _ _ _ _ h
def F_X7_mostColoured_31 (K4 : Int32 → Int32 → Int32 → Mm → Option (Int32 × Mm)) (x1 : Int32) (x2 : Int32) (x3 : Int32) (μ : Mm) : Option (Int32 × Mm) := K4 x1 x2 (x3 + 1) μ
set_option maxRecDepth 100000 in
set_option maxHeartbeats 4000000 in
theorem B_X7_mostColoured_31 (K4 : Int32 → Int32 → Int32 → Mm → Option (Int32 × Mm)) (hK4 : ∀ (x1 : Int32) (x2 : Int32) (x3 : Int32) (μ : Mm) (q : (Int32 × Mm)), K4 x1 x2 x3 μ = some q → G wC RX7 cX7_mostColoured 4 (some .int) 0 (some (.int q.1)) q.2 4 [(0, .ref 28), (1, .int x1), (2, .int x2), (3, .int x3)] [] μ) (x1 : Int32) (x2 : Int32) (x3 : Int32) (μ : Mm) (q : (Int32 × Mm))  (h : F_X7_mostColoured_31 K4 x1 x2 x3 μ = some q) : G wC RX7 cX7_mostColoured 4 (some .int) 0 (some (.int q.1)) q.2 31 [(0, .ref 28), (1, .int x1), (2, .int x2), (3, .int x3)] [] μ := by
  unfold F_X7_mostColoured_31 at h
  refine G_iinc (pc := 31) (1) 3 [(3, .int _), (0, .ref _), (1, .int _), (2, .int _)] dX7_mostColoured_31 ci_1 rfl (Nat.le_of_ble_eq_true rfl) rfl ?_
  refine G_goto (pc := 34) 4 dX7_mostColoured_34 (by decide) ?_
  refine G_loc [1, 2, 3, 0] [(0, .ref _), (1, .int _), (2, .int _), (3, .int _)] rfl ?_
  exact hK4 _ _ _ _ _ h
def F_X7_mostColoured_29 (K4 : Int32 → Int32 → Int32 → Mm → Option (Int32 × Mm)) (x1 : Int32) (x3 : Int32) (μ : Mm) : Option (Int32 × Mm) := F_X7_mostColoured_31 K4 x1 x3 x3 μ
set_option maxRecDepth 100000 in
set_option maxHeartbeats 4000000 in
theorem B_X7_mostColoured_29 (K4 : Int32 → Int32 → Int32 → Mm → Option (Int32 × Mm)) (hK4 : ∀ (x1 : Int32) (x2 : Int32) (x3 : Int32) (μ : Mm) (q : (Int32 × Mm)), K4 x1 x2 x3 μ = some q → G wC RX7 cX7_mostColoured 4 (some .int) 0 (some (.int q.1)) q.2 4 [(0, .ref 28), (1, .int x1), (2, .int x2), (3, .int x3)] [] μ) (x1 : Int32) (x3 : Int32) (μ : Mm) (q : (Int32 × Mm))  (h : F_X7_mostColoured_29 K4 x1 x3 μ = some q) : G wC RX7 cX7_mostColoured 4 (some .int) 0 (some (.int q.1)) q.2 29 [(0, .ref 28), (1, .int x1), (3, .int x3)] [] μ := by
  unfold F_X7_mostColoured_29 at h
  refine G_iload_n (pc := 29) 2 dX7_mostColoured_29 rfl ?_
  refine G_istore_n (pc := 30) [(2, .int _), (0, .ref _), (1, .int _), (3, .int _)] dX7_mostColoured_30 (Nat.le_of_ble_eq_true rfl) rfl ?_
  refine G_loc [1, 2, 0, 3] [(0, .ref _), (1, .int _), (2, .int _), (3, .int _)] rfl ?_
  exact B_X7_mostColoured_31 _ hK4 _ _ _ _ _ h
def L_X7_mostColoured_4 : Nat → Int32 → Int32 → Int32 → Mm → Option (Int32 × Mm)
  | 0, _, _, _, _ => none
  | n + 1, x1, x2, x3, μ => if x1 ≤ x3 then some (x2, μ) else if x2 = (-1) then F_X7_mostColoured_29 (L_X7_mostColoured_4 n) x1 x3 μ else gi x3 10 (gi x2 10 (if (μ.1 30 x3.toNatClampNeg) ≤ (μ.1 30 x2.toNatClampNeg) then F_X7_mostColoured_31 (L_X7_mostColoured_4 n) x1 x2 x3 μ else F_X7_mostColoured_29 (L_X7_mostColoured_4 n) x1 x3 μ))
set_option maxRecDepth 100000 in
set_option maxHeartbeats 4000000 in
theorem L_X7_mostColoured_4_s (n : Nat) (x1 : Int32) (x2 : Int32) (x3 : Int32) (μ : Mm) : L_X7_mostColoured_4  (n + 1) x1 x2 x3 μ = (if x1 ≤ x3 then some (x2, μ) else if x2 = (-1) then F_X7_mostColoured_29 (L_X7_mostColoured_4 n) x1 x3 μ else gi x3 10 (gi x2 10 (if (μ.1 30 x3.toNatClampNeg) ≤ (μ.1 30 x2.toNatClampNeg) then F_X7_mostColoured_31 (L_X7_mostColoured_4 n) x1 x2 x3 μ else F_X7_mostColoured_29 (L_X7_mostColoured_4 n) x1 x3 μ))) := rfl
set_option maxRecDepth 100000 in
set_option maxHeartbeats 4000000 in
theorem B_X7_mostColoured_4 : ∀ (n : Nat) (x1 : Int32) (x2 : Int32) (x3 : Int32) (μ : Mm) (q : (Int32 × Mm)), L_X7_mostColoured_4  n x1 x2 x3 μ = some q → G wC RX7 cX7_mostColoured 4 (some .int) 0 (some (.int q.1)) q.2 4 [(0, .ref 28), (1, .int x1), (2, .int x2), (3, .int x3)] [] μ := by
  intro n
  induction n with
  | zero =>
    intro x1 x2 x3 μ q  h
    cases h
  | succ n ih =>
    intro x1 x2 x3 μ q  h
    rw [L_X7_mostColoured_4_s] at h
    refine G_iload_n (pc := 4) 3 dX7_mostColoured_4 rfl ?_
    refine G_iload_n (pc := 5) 1 dX7_mostColoured_5 rfl ?_
    refine G_icmp_ge (pc := 6) 37 dX7_mostColoured_6 (by decide) (fun c1 => ?_) (fun c1 => ?_)
    · replace h := itp c1 h
      refine G_iload_n (pc := 37) 2 dX7_mostColoured_37 rfl ?_
      obtain rfl := Option.some.inj h
      exact G_iret (pc := 38) rfl dX7_mostColoured_38
    · replace h := itn c1 h
      refine G_iload_n (pc := 9) 2 dX7_mostColoured_9 rfl ?_
      refine G_iconst (pc := 10) (-1) dX7_mostColoured_10 ci_m1 ?_
      refine G_icmp_eq (pc := 11) 29 dX7_mostColoured_11 (by decide) (fun c2 => ?_) (fun c2 => ?_)
      · replace h := itp c2 h
        refine G_loc [0, 1, 3] [(0, .ref _), (1, .int _), (3, .int _)] rfl ?_
        exact B_X7_mostColoured_29 _ ih _ _ _ _ h
      · replace h := itn c2 h
        refine G_aload_n (pc := 14) 0 dX7_mostColoured_14 rfl ?_
        refine gwC_X7_15_28 (pc := 15) dX7_mostColoured_15 ?_
        refine G_iload_n (pc := 18) 3 dX7_mostColoured_18 rfl ?_
        obtain ⟨g3, h⟩ := gi_some h
        refine alwC_30 (pc := 19) dX7_mostColoured_19 g3 ?_
        refine G_aload_n (pc := 20) 0 dX7_mostColoured_20 rfl ?_
        refine gwC_X7_15_28 (pc := 21) dX7_mostColoured_21 ?_
        refine G_iload_n (pc := 24) 2 dX7_mostColoured_24 rfl ?_
        obtain ⟨g4, h⟩ := gi_some h
        refine alwC_30 (pc := 25) dX7_mostColoured_25 g4 ?_
        refine G_icmp_le (pc := 26) 31 dX7_mostColoured_26 (by decide) (fun c5 => ?_) (fun c5 => ?_)
        · replace h := itp c5 h
          exact B_X7_mostColoured_31 _ ih _ _ _ _ _ h
        · replace h := itn c5 h
          refine G_loc [0, 1, 3] [(0, .ref _), (1, .int _), (3, .int _)] rfl ?_
          exact B_X7_mostColoured_29 _ ih _ _ _ _ h
def F_X7_mostColoured (x1 : Int32) (μ : Mm) : Option (Int32 × Mm) := L_X7_mostColoured_4 FUEL x1 (-1) 0 μ
set_option maxRecDepth 100000 in
set_option maxHeartbeats 4000000 in
theorem S_X7_mostColoured (x1 : Int32)  (μ : Mm) (q : (Int32 × Mm)) (h : F_X7_mostColoured x1 μ = some q) : Cn wC yX7_mostColoured cX7_mostColoured 4 (some .int) 0 [.ref 28, .int x1] μ (some (.int q.1)) q.2 := by
  refine Cn_of (by decide +kernel) (Nat.le_of_ble_eq_true rfl) ?_
  show G wC RX7 cX7_mostColoured 4 (some .int) 0 (some (.int q.1)) q.2 0 [(0, .ref 28), (1, .int x1)] [] μ
  unfold F_X7_mostColoured at h
  refine G_iconst (pc := 0) (-1) dX7_mostColoured_0 ci_m1 ?_
  refine G_istore_n (pc := 1) [(2, .int _), (0, .ref _), (1, .int _)] dX7_mostColoured_1 (Nat.le_of_ble_eq_true rfl) rfl ?_
  refine G_iconst (pc := 2) (0) dX7_mostColoured_2 ci_0 ?_
  refine G_istore_n (pc := 3) [(3, .int _), (2, .int _), (0, .ref _), (1, .int _)] dX7_mostColoured_3 (Nat.le_of_ble_eq_true rfl) rfl ?_
  refine G_loc [2, 3, 1, 0] [(0, .ref _), (1, .int _), (2, .int _), (3, .int _)] rfl ?_
  exact B_X7_mostColoured_4 _ _ _ _ _ _ h
def F_X8_best  (μ : Mm) : Option (Int32 × Mm) := (F_X8_runAsTold 12 μ).bind (fun q1 => (F_X7_mostColoured (q1.1 20 1) q1).bind (fun q2 => some (q2.1, q2.2)))
set_option maxRecDepth 100000 in
set_option maxHeartbeats 4000000 in
theorem S_X8_best   (μ : Mm) (q : (Int32 × Mm)) (h : F_X8_best  μ = some q) : Cn wC yX8_best cX8_best 1 (some .int) 5 [.ref 0] μ (some (.int q.1)) q.2 := by
  refine Cn_of (by decide +kernel) (Nat.le_of_ble_eq_true rfl) ?_
  show G wC RX8 cX8_best 1 (some .int) 5 (some (.int q.1)) q.2 0 [(0, .ref 0)] [] μ
  unfold F_X8_best at h
  refine G_aload_n (pc := 0) 0 dX8_best_0 rfl ?_
  refine G_bipush (pc := 1) (12) dX8_best_1 bp_12 ?_
  obtain ⟨q1, e1, h⟩ := bnd_some h
  refine G_callV1v (pc := 3) 0 7 dX8_best_3 wv_X8_133 cd_X8_runAsTold (S_X8_runAsTold _ _ _ e1) (by decide) (by decide) rfl (by decide) (fun _ _ => ⟨_, rfl⟩) (Nat.le_of_ble_eq_true rfl) ?_
  refine G_aload_n (pc := 6) 0 dX8_best_6 rfl ?_
  refine gwC_X8_60_0 (pc := 7) dX8_best_7 ?_
  refine G_aload_n (pc := 10) 0 dX8_best_10 rfl ?_
  refine gwC_X8_53_0 (pc := 11) dX8_best_11 ?_
  refine gwC_X8_161_20 (pc := 14) dX8_best_14 ?_
  obtain ⟨q2, e2, h⟩ := bnd_some h
  refine G_callV1r (pc := 17) 28 6 dX8_best_17 wv_X8_163 cd_X7_mostColoured (S_X7_mostColoured _ _ _ e2) (by decide) (by decide) rfl (by decide) (fun _ _ => ⟨_, rfl⟩) (Nat.le_of_ble_eq_true rfl) ?_
  obtain rfl := Option.some.inj h
  exact G_iret (pc := 20) rfl dX8_best_20
def F_X7_neverPlaced_40 (K8 : Int32 → Int32 → Mm → Option (Int32 × Mm)) (x2 : Int32) (x3 : Int32) (μ : Mm) : Option (Int32 × Mm) := K8 x2 (x3 + 1) μ
set_option maxRecDepth 100000 in
set_option maxHeartbeats 4000000 in
theorem B_X7_neverPlaced_40 (K8 : Int32 → Int32 → Mm → Option (Int32 × Mm)) (hK8 : ∀ (x2 : Int32) (x3 : Int32) (μ : Mm) (q : (Int32 × Mm)), K8 x2 x3 μ = some q → G wC RX7 cX7_neverPlaced 4 (some .int) 0 (some (.int q.1)) q.2 8 [(0, .ref 28), (2, .int x2), (3, .int x3)] [] μ) (x2 : Int32) (x3 : Int32) (μ : Mm) (q : (Int32 × Mm))  (h : F_X7_neverPlaced_40 K8 x2 x3 μ = some q) : G wC RX7 cX7_neverPlaced 4 (some .int) 0 (some (.int q.1)) q.2 40 [(0, .ref 28), (2, .int x2), (3, .int x3)] [] μ := by
  unfold F_X7_neverPlaced_40 at h
  refine G_iinc (pc := 40) (1) 2 [(3, .int _), (0, .ref _), (2, .int _)] dX7_neverPlaced_40 ci_1 rfl (Nat.le_of_ble_eq_true rfl) rfl ?_
  refine G_goto (pc := 43) 8 dX7_neverPlaced_43 (by decide) ?_
  refine G_loc [1, 2, 0] [(0, .ref _), (2, .int _), (3, .int _)] rfl ?_
  exact hK8 _ _ _ _ h
def L_X7_neverPlaced_8 : Nat → Int32 → Int32 → Mm → Option (Int32 × Mm)
  | 0, _, _, _ => none
  | n + 1, x2, x3, μ => if 36 ≤ x3 then some (x2, μ) else gi x3 36 (if (μ.1 33 x3.toNatClampNeg) = (-1) then F_X7_neverPlaced_40 (L_X7_neverPlaced_8 n) x2 x3 μ else gi x3 36 (F_X7_neverPlaced_40 (L_X7_neverPlaced_8 n) (x2 &&& ((1 <<< ((μ.1 33 x3.toNatClampNeg) &&& 31)) ^^^ (-1))) x3 μ))
set_option maxRecDepth 100000 in
set_option maxHeartbeats 4000000 in
theorem L_X7_neverPlaced_8_s (n : Nat) (x2 : Int32) (x3 : Int32) (μ : Mm) : L_X7_neverPlaced_8  (n + 1) x2 x3 μ = (if 36 ≤ x3 then some (x2, μ) else gi x3 36 (if (μ.1 33 x3.toNatClampNeg) = (-1) then F_X7_neverPlaced_40 (L_X7_neverPlaced_8 n) x2 x3 μ else gi x3 36 (F_X7_neverPlaced_40 (L_X7_neverPlaced_8 n) (x2 &&& ((1 <<< ((μ.1 33 x3.toNatClampNeg) &&& 31)) ^^^ (-1))) x3 μ))) := rfl
set_option maxRecDepth 100000 in
set_option maxHeartbeats 4000000 in
theorem B_X7_neverPlaced_8 : ∀ (n : Nat) (x2 : Int32) (x3 : Int32) (μ : Mm) (q : (Int32 × Mm)), L_X7_neverPlaced_8  n x2 x3 μ = some q → G wC RX7 cX7_neverPlaced 4 (some .int) 0 (some (.int q.1)) q.2 8 [(0, .ref 28), (2, .int x2), (3, .int x3)] [] μ := by
  intro n
  induction n with
  | zero =>
    intro x2 x3 μ q  h
    cases h
  | succ n ih =>
    intro x2 x3 μ q  h
    rw [L_X7_neverPlaced_8_s] at h
    refine G_iload_n (pc := 8) 2 dX7_neverPlaced_8 rfl ?_
    refine G_aload_n (pc := 9) 0 dX7_neverPlaced_9 rfl ?_
    refine gwC_X7_24_28 (pc := 10) dX7_neverPlaced_10 ?_
    refine G_alen (pc := 13) 33 0 .int _ (36) dX7_neverPlaced_13 (by decide) (fun _ _ => rfl) (fun _ => rfl) rfl ?_
    refine G_icmp_ge (pc := 14) 46 dX7_neverPlaced_14 (by decide) (fun c1 => ?_) (fun c1 => ?_)
    · replace h := itp c1 h
      refine G_iload_n (pc := 46) 1 dX7_neverPlaced_46 rfl ?_
      obtain rfl := Option.some.inj h
      exact G_iret (pc := 47) rfl dX7_neverPlaced_47
    · replace h := itn c1 h
      refine G_aload_n (pc := 17) 0 dX7_neverPlaced_17 rfl ?_
      refine gwC_X7_24_28 (pc := 18) dX7_neverPlaced_18 ?_
      refine G_iload_n (pc := 21) 2 dX7_neverPlaced_21 rfl ?_
      obtain ⟨g2, h⟩ := gi_some h
      refine alwC_33 (pc := 22) dX7_neverPlaced_22 g2 ?_
      refine G_iconst (pc := 23) (-1) dX7_neverPlaced_23 ci_m1 ?_
      refine G_icmp_eq (pc := 24) 40 dX7_neverPlaced_24 (by decide) (fun c3 => ?_) (fun c3 => ?_)
      · replace h := itp c3 h
        exact B_X7_neverPlaced_40 _ ih _ _ _ _ h
      · replace h := itn c3 h
        refine G_iload_n (pc := 27) 1 dX7_neverPlaced_27 rfl ?_
        refine G_iconst (pc := 28) (1) dX7_neverPlaced_28 ci_1 ?_
        refine G_aload_n (pc := 29) 0 dX7_neverPlaced_29 rfl ?_
        refine gwC_X7_24_28 (pc := 30) dX7_neverPlaced_30 ?_
        refine G_iload_n (pc := 33) 2 dX7_neverPlaced_33 rfl ?_
        obtain ⟨g4, h⟩ := gi_some h
        refine alwC_33 (pc := 34) dX7_neverPlaced_34 g4 ?_
        refine G_ishl (pc := 35) dX7_neverPlaced_35 ?_
        refine G_iconst (pc := 36) (-1) dX7_neverPlaced_36 ci_m1 ?_
        refine G_ixor (pc := 37) dX7_neverPlaced_37 ?_
        refine G_iand (pc := 38) dX7_neverPlaced_38 ?_
        refine G_istore_n (pc := 39) [(2, .int _), (0, .ref _), (3, .int _)] dX7_neverPlaced_39 (Nat.le_of_ble_eq_true rfl) rfl ?_
        refine G_loc [1, 0, 2] [(0, .ref _), (2, .int _), (3, .int _)] rfl ?_
        exact B_X7_neverPlaced_40 _ ih _ _ _ _ h
def F_X7_neverPlaced (x1 : Int32) (μ : Mm) : Option (Int32 × Mm) := L_X7_neverPlaced_8 FUEL ((1 <<< (x1 &&& 31)) - 1) 0 μ
set_option maxRecDepth 100000 in
set_option maxHeartbeats 4000000 in
theorem S_X7_neverPlaced (x1 : Int32)  (μ : Mm) (q : (Int32 × Mm)) (h : F_X7_neverPlaced x1 μ = some q) : Cn wC yX7_neverPlaced cX7_neverPlaced 4 (some .int) 0 [.ref 28, .int x1] μ (some (.int q.1)) q.2 := by
  refine Cn_of (by decide +kernel) (Nat.le_of_ble_eq_true rfl) ?_
  show G wC RX7 cX7_neverPlaced 4 (some .int) 0 (some (.int q.1)) q.2 0 [(0, .ref 28), (1, .int x1)] [] μ
  unfold F_X7_neverPlaced at h
  refine G_iconst (pc := 0) (1) dX7_neverPlaced_0 ci_1 ?_
  refine G_iload_n (pc := 1) 1 dX7_neverPlaced_1 rfl ?_
  refine G_ishl (pc := 2) dX7_neverPlaced_2 ?_
  refine G_iconst (pc := 3) (1) dX7_neverPlaced_3 ci_1 ?_
  refine G_isub (pc := 4) dX7_neverPlaced_4 ?_
  refine G_istore_n (pc := 5) [(2, .int _), (0, .ref _), (1, .int _)] dX7_neverPlaced_5 (Nat.le_of_ble_eq_true rfl) rfl ?_
  refine G_iconst (pc := 6) (0) dX7_neverPlaced_6 ci_0 ?_
  refine G_istore_n (pc := 7) [(3, .int _), (2, .int _), (0, .ref _), (1, .int _)] dX7_neverPlaced_7 (Nat.le_of_ble_eq_true rfl) rfl ?_
  refine G_loc [2, 1, 0] [(0, .ref _), (2, .int _), (3, .int _)] rfl ?_
  exact B_X7_neverPlaced_8 _ _ _ _ _ h
def F_X8_left (x1 : Int32) (μ : Mm) : Option (Int32 × Mm) := (F_X8_isIn x1 2 μ).bind (fun q1 => if q1.1 = 0 then some ((-2), q1.2) else (F_X8_runAsTold 12 q1.2).bind (fun q3 => if x1 = 0 then some ((q3.1 28 5), q3) else (F_X7_neverPlaced (q3.1 20 1) q3).bind (fun q5 => some (q5.1, q5.2))))
set_option maxRecDepth 100000 in
set_option maxHeartbeats 4000000 in
theorem S_X8_left (x1 : Int32)  (μ : Mm) (q : (Int32 × Mm)) (h : F_X8_left x1 μ = some q) : Cn wC yX8_left cX8_left 2 (some .int) 5 [.ref 0, .int x1] μ (some (.int q.1)) q.2 := by
  refine Cn_of (by decide +kernel) (Nat.le_of_ble_eq_true rfl) ?_
  show G wC RX8 cX8_left 2 (some .int) 5 (some (.int q.1)) q.2 0 [(0, .ref 0), (1, .int x1)] [] μ
  unfold F_X8_left at h
  refine G_iload_n (pc := 0) 1 dX8_left_0 rfl ?_
  refine G_iconst (pc := 1) (2) dX8_left_1 ci_2 ?_
  obtain ⟨q1, e1, h⟩ := bnd_some h
  refine G_callS2r (pc := 2) dX8_left_2 ws_X8_104 cd_X8_isIn (S_X8_isIn _ _ _ _ e1) (by decide) (by decide) (Nat.le_of_ble_eq_true rfl) ?_
  refine G_if_ne (pc := 5) 11 dX8_left_5 (by decide) (fun c2 => ?_) (fun c2 => ?_)
  · replace h := itn c2 h
    refine G_aload_n (pc := 11) 0 dX8_left_11 rfl ?_
    refine G_bipush (pc := 12) (12) dX8_left_12 bp_12 ?_
    obtain ⟨q3, e3, h⟩ := bnd_some h
    refine G_callV1v (pc := 14) 0 7 dX8_left_14 wv_X8_133 cd_X8_runAsTold (S_X8_runAsTold _ _ _ e3) (by decide) (by decide) rfl (by decide) (fun _ _ => ⟨_, rfl⟩) (Nat.le_of_ble_eq_true rfl) ?_
    refine G_iload_n (pc := 17) 1 dX8_left_17 rfl ?_
    refine G_if_ne (pc := 18) 31 dX8_left_18 (by decide) (fun c4 => ?_) (fun c4 => ?_)
    · replace h := itn c4 h
      refine G_aload_n (pc := 31) 0 dX8_left_31 rfl ?_
      refine gwC_X8_60_0 (pc := 32) dX8_left_32 ?_
      refine G_aload_n (pc := 35) 0 dX8_left_35 rfl ?_
      refine gwC_X8_53_0 (pc := 36) dX8_left_36 ?_
      refine gwC_X8_161_20 (pc := 39) dX8_left_39 ?_
      obtain ⟨q5, e5, h⟩ := bnd_some h
      refine G_callV1r (pc := 42) 28 6 dX8_left_42 wv_X8_169 cd_X7_neverPlaced (S_X7_neverPlaced _ _ _ e5) (by decide) (by decide) rfl (by decide) (fun _ _ => ⟨_, rfl⟩) (Nat.le_of_ble_eq_true rfl) ?_
      obtain rfl := Option.some.inj h
      exact G_iret (pc := 45) rfl dX8_left_45
    · replace h := itp c4 h
      refine G_aload_n (pc := 21) 0 dX8_left_21 rfl ?_
      refine gwC_X8_60_0 (pc := 22) dX8_left_22 ?_
      refine gwC_X8_166_28 (pc := 25) dX8_left_25 ?_
      refine G_goto (pc := 28) 45 dX8_left_28 (by decide) ?_
      obtain rfl := Option.some.inj h
      exact G_iret (pc := 45) rfl dX8_left_45
  · replace h := itp c2 h
    refine G_bipush (pc := 8) (-2) dX8_left_8 bp_m2 ?_
    obtain rfl := Option.some.inj h
    exact G_iret (pc := 10) rfl dX8_left_10
def L_X8_chooseBrush_21 : Nat → Int32 → Int32 → Mm → Option Mm
  | 0, _, _, _ => none
  | n + 1, x1, x2, μ => if 12 ≤ x2 then some μ else (F_X7_run 12 (wI μ 20 12 x2)).bind (fun q4 => gi x1 10 ((F_X0_offer x2 (q4.1 30 x1.toNatClampNeg) q4).bind (fun q6 => L_X8_chooseBrush_21 n x1 (x2 + 1) q6)))
set_option maxRecDepth 100000 in
set_option maxHeartbeats 4000000 in
theorem L_X8_chooseBrush_21_s (n : Nat) (x1 : Int32) (x2 : Int32) (μ : Mm) : L_X8_chooseBrush_21  (n + 1) x1 x2 μ = (if 12 ≤ x2 then some μ else (F_X7_run 12 (wI μ 20 12 x2)).bind (fun q4 => gi x1 10 ((F_X0_offer x2 (q4.1 30 x1.toNatClampNeg) q4).bind (fun q6 => L_X8_chooseBrush_21 n x1 (x2 + 1) q6)))) := rfl
set_option maxRecDepth 100000 in
set_option maxHeartbeats 4000000 in
theorem B_X8_chooseBrush_21 : ∀ (n : Nat) (x1 : Int32) (x2 : Int32) (μ : Mm) (q : Mm), L_X8_chooseBrush_21  n x1 x2 μ = some q → G wC RX8 cX8_chooseBrush 3 none 4 none q 21 [(0, .ref 0), (1, .int x1), (2, .int x2)] [] μ := by
  intro n
  induction n with
  | zero =>
    intro x1 x2 μ q  h
    cases h
  | succ n ih =>
    intro x1 x2 μ q  h
    rw [L_X8_chooseBrush_21_s] at h
    refine G_iload_n (pc := 21) 2 dX8_chooseBrush_21 rfl ?_
    refine G_bipush (pc := 22) (12) dX8_chooseBrush_22 bp_12 ?_
    refine G_icmp_ge (pc := 24) 71 dX8_chooseBrush_24 (by decide) (fun c3 => ?_) (fun c3 => ?_)
    · replace h := itp c3 h
      obtain rfl := Option.some.inj h
      exact G_vret (pc := 71) rfl dX8_chooseBrush_71
    · replace h := itn c3 h
      refine G_aload_n (pc := 27) 0 dX8_chooseBrush_27 rfl ?_
      refine gwC_X8_53_0 (pc := 28) dX8_chooseBrush_28 ?_
      refine G_iload_n (pc := 31) 2 dX8_chooseBrush_31 rfl ?_
      refine pwC_X8_338_20 (pc := 32) dX8_chooseBrush_32 ?_
      refine G_aload_n (pc := 35) 0 dX8_chooseBrush_35 rfl ?_
      refine gwC_X8_60_0 (pc := 36) dX8_chooseBrush_36 ?_
      refine G_aload_n (pc := 39) 0 dX8_chooseBrush_39 rfl ?_
      refine gwC_X8_53_0 (pc := 40) dX8_chooseBrush_40 ?_
      refine G_bipush (pc := 43) (12) dX8_chooseBrush_43 bp_12 ?_
      obtain ⟨q4, e4, h⟩ := bnd_some h
      refine G_callV2v (pc := 45) 28 6 dX8_chooseBrush_45 wv_X8_201 cd_X7_run (S_X7_run _ _ _ e4) (by decide) (by decide) rfl (by decide) (fun _ _ => ⟨_, rfl⟩) (Nat.le_of_ble_eq_true rfl) ?_
      refine G_aload_n (pc := 48) 0 dX8_chooseBrush_48 rfl ?_
      refine gwC_X8_67_0 (pc := 49) dX8_chooseBrush_49 ?_
      refine G_iload_n (pc := 52) 2 dX8_chooseBrush_52 rfl ?_
      refine G_aload_n (pc := 53) 0 dX8_chooseBrush_53 rfl ?_
      refine gwC_X8_60_0 (pc := 54) dX8_chooseBrush_54 ?_
      refine gwC_X8_262_28 (pc := 57) dX8_chooseBrush_57 ?_
      refine G_iload_n (pc := 60) 1 dX8_chooseBrush_60 rfl ?_
      obtain ⟨g5, h⟩ := gi_some h
      refine alwC_30 (pc := 61) dX8_chooseBrush_61 g5 ?_
      obtain ⟨q6, e6, h⟩ := bnd_some h
      refine G_callV2v (pc := 62) 34 0 dX8_chooseBrush_62 wv_X8_155 cd_X0_offer (S_X0_offer _ _ _ _ e6) (by decide) (by decide) rfl (by decide) (fun _ _ => ⟨_, rfl⟩) (Nat.le_of_ble_eq_true rfl) ?_
      refine G_iinc (pc := 65) (1) 2 [(2, .int _), (0, .ref _), (1, .int _)] dX8_chooseBrush_65 ci_1 rfl (Nat.le_of_ble_eq_true rfl) rfl ?_
      refine G_goto (pc := 68) 21 dX8_chooseBrush_68 (by decide) ?_
      refine G_loc [1, 2, 0] [(0, .ref _), (1, .int _), (2, .int _)] rfl ?_
      exact ih _ _ _ _ h
def F_X8_chooseBrush (x1 : Int32) (μ : Mm) : Option Mm := (F_X8_planAsTold μ).bind (fun q1 => (F_X0_clear q1).bind (fun q2 => L_X8_chooseBrush_21 FUEL x1 0 (wI q2 20 11 x1)))
set_option maxRecDepth 100000 in
set_option maxHeartbeats 4000000 in
theorem S_X8_chooseBrush (x1 : Int32)  (μ : Mm) (q : Mm) (h : F_X8_chooseBrush x1 μ = some q) : Cn wC yX8_chooseBrush cX8_chooseBrush 3 none 4 [.ref 0, .int x1] μ none q := by
  refine Cn_of (by decide +kernel) (Nat.le_of_ble_eq_true rfl) ?_
  show G wC RX8 cX8_chooseBrush 3 none 4 none q 0 [(0, .ref 0), (1, .int x1)] [] μ
  unfold F_X8_chooseBrush at h
  refine G_aload_n (pc := 0) 0 dX8_chooseBrush_0 rfl ?_
  obtain ⟨q1, e1, h⟩ := bnd_some h
  refine G_callV0v (pc := 1) 0 7 dX8_chooseBrush_1 wv_X8_195 cd_X8_planAsTold (S_X8_planAsTold _ _ e1) (by decide) (by decide) rfl (by decide) (fun _ _ => ⟨_, rfl⟩) (Nat.le_of_ble_eq_true rfl) ?_
  refine G_aload_n (pc := 4) 0 dX8_chooseBrush_4 rfl ?_
  refine gwC_X8_67_0 (pc := 5) dX8_chooseBrush_5 ?_
  obtain ⟨q2, e2, h⟩ := bnd_some h
  refine G_callV0v (pc := 8) 34 0 dX8_chooseBrush_8 wv_X8_152 cd_X0_clear (S_X0_clear _ _ e2) (by decide) (by decide) rfl (by decide) (fun _ _ => ⟨_, rfl⟩) (Nat.le_of_ble_eq_true rfl) ?_
  refine G_aload_n (pc := 11) 0 dX8_chooseBrush_11 rfl ?_
  refine gwC_X8_53_0 (pc := 12) dX8_chooseBrush_12 ?_
  refine G_iload_n (pc := 15) 1 dX8_chooseBrush_15 rfl ?_
  refine pwC_X8_335_20 (pc := 16) dX8_chooseBrush_16 ?_
  refine G_iconst (pc := 19) (0) dX8_chooseBrush_19 ci_0 ?_
  refine G_istore_n (pc := 20) [(2, .int _), (0, .ref _), (1, .int _)] dX8_chooseBrush_20 (Nat.le_of_ble_eq_true rfl) rfl ?_
  refine G_loc [1, 2, 0] [(0, .ref _), (1, .int _), (2, .int _)] rfl ?_
  exact B_X8_chooseBrush_21 _ _ _ _ _ h
def F_X0_tell (x1 : Int32) (μ : Mm) : Option (Int32 × Mm) := some ((if x1 = 0 then (μ.1 34 0) else (μ.1 34 1)), μ)
set_option maxRecDepth 100000 in
set_option maxHeartbeats 4000000 in
theorem S_X0_tell (x1 : Int32)  (μ : Mm) (q : (Int32 × Mm)) (h : F_X0_tell x1 μ = some q) : Cn wC yX0_tell cX0_tell 2 (some .int) 0 [.ref 34, .int x1] μ (some (.int q.1)) q.2 := by
  refine Cn_of (by decide +kernel) (Nat.le_of_ble_eq_true rfl) ?_
  show G wC RX0 cX0_tell 2 (some .int) 0 (some (.int q.1)) q.2 0 [(0, .ref 34), (1, .int x1)] [] μ
  unfold F_X0_tell at h
  refine G_iload_n (pc := 0) 1 dX0_tell_0 rfl ?_
  refine G_if_ne (pc := 1) 11 dX0_tell_1 (by decide) (fun c1 => ?_) (fun c1 => ?_)
  · rw [if_neg c1] at h
    refine G_aload_n (pc := 11) 0 dX0_tell_11 rfl ?_
    refine gwC_X0_15_34 (pc := 12) dX0_tell_12 ?_
    obtain rfl := Option.some.inj h
    exact G_iret (pc := 15) rfl dX0_tell_15
  · rw [if_pos c1] at h
    refine G_aload_n (pc := 4) 0 dX0_tell_4 rfl ?_
    refine gwC_X0_9_34 (pc := 5) dX0_tell_5 ?_
    refine G_goto (pc := 8) 15 dX0_tell_8 (by decide) ?_
    obtain rfl := Option.some.inj h
    exact G_iret (pc := 15) rfl dX0_tell_15
def F_X8_brush (x1 : Int32) (x2 : Int32) (μ : Mm) : Option (Int32 × Mm) := (F_X3_size_1 μ).bind (fun q1 => (F_X8_isIn x1 q1.1 q1.2).bind (fun q2 => if q2.1 = 0 then some ((-2), q2.2) else (F_X8_isIn x2 2 q2.2).bind (fun q4 => if q4.1 = 0 then some ((-2), q4.2) else (F_X8_chooseBrush x1 q4.2).bind (fun q6 => (F_X0_tell x2 q6).bind (fun q7 => some (q7.1, q7.2))))))
set_option maxRecDepth 100000 in
set_option maxHeartbeats 4000000 in
theorem S_X8_brush (x1 : Int32) (x2 : Int32)  (μ : Mm) (q : (Int32 × Mm)) (h : F_X8_brush x1 x2 μ = some q) : Cn wC yX8_brush cX8_brush 3 (some .int) 5 [.ref 0, .int x1, .int x2] μ (some (.int q.1)) q.2 := by
  refine Cn_of (by decide +kernel) (Nat.le_of_ble_eq_true rfl) ?_
  show G wC RX8 cX8_brush 3 (some .int) 5 (some (.int q.1)) q.2 0 [(0, .ref 0), (1, .int x1), (2, .int x2)] [] μ
  unfold F_X8_brush at h
  refine G_iload_n (pc := 0) 1 dX8_brush_0 rfl ?_
  refine G_aload_n (pc := 1) 0 dX8_brush_1 rfl ?_
  refine gwC_X8_14_0 (pc := 2) dX8_brush_2 ?_
  obtain ⟨q1, e1, h⟩ := bnd_some h
  refine G_callV0r (pc := 5) 1 3 dX8_brush_5 wv_X8_100 cd_X3_size (S_X3_size_1 _ _ e1) (by decide) (by decide) rfl (by decide) (fun _ _ => ⟨_, rfl⟩) (Nat.le_of_ble_eq_true rfl) ?_
  obtain ⟨q2, e2, h⟩ := bnd_some h
  refine G_callS2r (pc := 8) dX8_brush_8 ws_X8_104 cd_X8_isIn (S_X8_isIn _ _ _ _ e2) (by decide) (by decide) (Nat.le_of_ble_eq_true rfl) ?_
  refine G_if_eq (pc := 11) 22 dX8_brush_11 (by decide) (fun c3 => ?_) (fun c3 => ?_)
  · replace h := itp c3 h
    refine G_bipush (pc := 22) (-2) dX8_brush_22 bp_m2 ?_
    obtain rfl := Option.some.inj h
    exact G_iret (pc := 24) rfl dX8_brush_24
  · replace h := itn c3 h
    refine G_iload_n (pc := 14) 2 dX8_brush_14 rfl ?_
    refine G_iconst (pc := 15) (2) dX8_brush_15 ci_2 ?_
    obtain ⟨q4, e4, h⟩ := bnd_some h
    refine G_callS2r (pc := 16) dX8_brush_16 ws_X8_104 cd_X8_isIn (S_X8_isIn _ _ _ _ e4) (by decide) (by decide) (Nat.le_of_ble_eq_true rfl) ?_
    refine G_if_ne (pc := 19) 25 dX8_brush_19 (by decide) (fun c5 => ?_) (fun c5 => ?_)
    · replace h := itn c5 h
      refine G_aload_n (pc := 25) 0 dX8_brush_25 rfl ?_
      refine G_iload_n (pc := 26) 1 dX8_brush_26 rfl ?_
      obtain ⟨q6, e6, h⟩ := bnd_some h
      refine G_callV1v (pc := 27) 0 7 dX8_brush_27 wv_X8_172 cd_X8_chooseBrush (S_X8_chooseBrush _ _ _ e6) (by decide) (by decide) rfl (by decide) (fun _ _ => ⟨_, rfl⟩) (Nat.le_of_ble_eq_true rfl) ?_
      refine G_aload_n (pc := 30) 0 dX8_brush_30 rfl ?_
      refine gwC_X8_67_0 (pc := 31) dX8_brush_31 ?_
      refine G_iload_n (pc := 34) 2 dX8_brush_34 rfl ?_
      obtain ⟨q7, e7, h⟩ := bnd_some h
      refine G_callV1r (pc := 35) 34 0 dX8_brush_35 wv_X8_175 cd_X0_tell (S_X0_tell _ _ _ e7) (by decide) (by decide) rfl (by decide) (fun _ _ => ⟨_, rfl⟩) (Nat.le_of_ble_eq_true rfl) ?_
      obtain rfl := Option.some.inj h
      exact G_iret (pc := 38) rfl dX8_brush_38
    · replace h := itp c5 h
      refine G_bipush (pc := 22) (-2) dX8_brush_22 bp_m2 ?_
      obtain rfl := Option.some.inj h
      exact G_iret (pc := 24) rfl dX8_brush_24
def F_X8_chooseRival_67 (K13 : Int32 → Int32 → Mm → Option Mm) (x1 : Int32) (x2 : Int32) (μ : Mm) : Option Mm := K13 x1 (x2 + 1) μ
set_option maxRecDepth 100000 in
set_option maxHeartbeats 4000000 in
theorem B_X8_chooseRival_67 (K13 : Int32 → Int32 → Mm → Option Mm) (hK13 : ∀ (x1 : Int32) (x2 : Int32) (μ : Mm) (q : Mm), K13 x1 x2 μ = some q → G wC RX8 cX8_chooseRival 3 none 4 none q 13 [(0, .ref 0), (1, .int x1), (2, .int x2)] [] μ) (x1 : Int32) (x2 : Int32) (μ : Mm) (q : Mm)  (h : F_X8_chooseRival_67 K13 x1 x2 μ = some q) : G wC RX8 cX8_chooseRival 3 none 4 none q 67 [(0, .ref 0), (1, .int x1), (2, .int x2)] [] μ := by
  unfold F_X8_chooseRival_67 at h
  refine G_iinc (pc := 67) (1) 2 [(2, .int _), (0, .ref _), (1, .int _)] dX8_chooseRival_67 ci_1 rfl (Nat.le_of_ble_eq_true rfl) rfl ?_
  refine G_goto (pc := 70) 13 dX8_chooseRival_70 (by decide) ?_
  refine G_loc [1, 2, 0] [(0, .ref _), (1, .int _), (2, .int _)] rfl ?_
  exact hK13 _ _ _ _ h
def L_X8_chooseRival_13 : Nat → Int32 → Int32 → Mm → Option Mm
  | 0, _, _, _ => none
  | n + 1, x1, x2, μ => if (μ.1 20 1) ≤ x2 then some μ else if x2 = x1 then F_X8_chooseRival_67 (L_X8_chooseRival_13 n) x1 x2 μ else (F_X7_run 12 (wI μ 20 13 x2)).bind (fun q5 => gi x1 10 ((F_X0_offer x2 (q5.1 30 x1.toNatClampNeg) q5).bind (fun q7 => F_X8_chooseRival_67 (L_X8_chooseRival_13 n) x1 x2 q7)))
set_option maxRecDepth 100000 in
set_option maxHeartbeats 4000000 in
theorem L_X8_chooseRival_13_s (n : Nat) (x1 : Int32) (x2 : Int32) (μ : Mm) : L_X8_chooseRival_13  (n + 1) x1 x2 μ = (if (μ.1 20 1) ≤ x2 then some μ else if x2 = x1 then F_X8_chooseRival_67 (L_X8_chooseRival_13 n) x1 x2 μ else (F_X7_run 12 (wI μ 20 13 x2)).bind (fun q5 => gi x1 10 ((F_X0_offer x2 (q5.1 30 x1.toNatClampNeg) q5).bind (fun q7 => F_X8_chooseRival_67 (L_X8_chooseRival_13 n) x1 x2 q7)))) := rfl
set_option maxRecDepth 100000 in
set_option maxHeartbeats 4000000 in
theorem B_X8_chooseRival_13 : ∀ (n : Nat) (x1 : Int32) (x2 : Int32) (μ : Mm) (q : Mm), L_X8_chooseRival_13  n x1 x2 μ = some q → G wC RX8 cX8_chooseRival 3 none 4 none q 13 [(0, .ref 0), (1, .int x1), (2, .int x2)] [] μ := by
  intro n
  induction n with
  | zero =>
    intro x1 x2 μ q  h
    cases h
  | succ n ih =>
    intro x1 x2 μ q  h
    rw [L_X8_chooseRival_13_s] at h
    refine G_iload_n (pc := 13) 2 dX8_chooseRival_13 rfl ?_
    refine G_aload_n (pc := 14) 0 dX8_chooseRival_14 rfl ?_
    refine gwC_X8_53_0 (pc := 15) dX8_chooseRival_15 ?_
    refine gwC_X8_161_20 (pc := 18) dX8_chooseRival_18 ?_
    refine G_icmp_ge (pc := 21) 73 dX8_chooseRival_21 (by decide) (fun c3 => ?_) (fun c3 => ?_)
    · replace h := itp c3 h
      obtain rfl := Option.some.inj h
      exact G_vret (pc := 73) rfl dX8_chooseRival_73
    · replace h := itn c3 h
      refine G_iload_n (pc := 24) 2 dX8_chooseRival_24 rfl ?_
      refine G_iload_n (pc := 25) 1 dX8_chooseRival_25 rfl ?_
      refine G_icmp_eq (pc := 26) 67 dX8_chooseRival_26 (by decide) (fun c4 => ?_) (fun c4 => ?_)
      · replace h := itp c4 h
        exact B_X8_chooseRival_67 _ ih _ _ _ _ h
      · replace h := itn c4 h
        refine G_aload_n (pc := 29) 0 dX8_chooseRival_29 rfl ?_
        refine gwC_X8_53_0 (pc := 30) dX8_chooseRival_30 ?_
        refine G_iload_n (pc := 33) 2 dX8_chooseRival_33 rfl ?_
        refine pwC_X8_341_20 (pc := 34) dX8_chooseRival_34 ?_
        refine G_aload_n (pc := 37) 0 dX8_chooseRival_37 rfl ?_
        refine gwC_X8_60_0 (pc := 38) dX8_chooseRival_38 ?_
        refine G_aload_n (pc := 41) 0 dX8_chooseRival_41 rfl ?_
        refine gwC_X8_53_0 (pc := 42) dX8_chooseRival_42 ?_
        refine G_bipush (pc := 45) (12) dX8_chooseRival_45 bp_12 ?_
        obtain ⟨q5, e5, h⟩ := bnd_some h
        refine G_callV2v (pc := 47) 28 6 dX8_chooseRival_47 wv_X8_201 cd_X7_run (S_X7_run _ _ _ e5) (by decide) (by decide) rfl (by decide) (fun _ _ => ⟨_, rfl⟩) (Nat.le_of_ble_eq_true rfl) ?_
        refine G_aload_n (pc := 50) 0 dX8_chooseRival_50 rfl ?_
        refine gwC_X8_67_0 (pc := 51) dX8_chooseRival_51 ?_
        refine G_iload_n (pc := 54) 2 dX8_chooseRival_54 rfl ?_
        refine G_aload_n (pc := 55) 0 dX8_chooseRival_55 rfl ?_
        refine gwC_X8_60_0 (pc := 56) dX8_chooseRival_56 ?_
        refine gwC_X8_262_28 (pc := 59) dX8_chooseRival_59 ?_
        refine G_iload_n (pc := 62) 1 dX8_chooseRival_62 rfl ?_
        obtain ⟨g6, h⟩ := gi_some h
        refine alwC_30 (pc := 63) dX8_chooseRival_63 g6 ?_
        obtain ⟨q7, e7, h⟩ := bnd_some h
        refine G_callV2v (pc := 64) 34 0 dX8_chooseRival_64 wv_X8_155 cd_X0_offer (S_X0_offer _ _ _ _ e7) (by decide) (by decide) rfl (by decide) (fun _ _ => ⟨_, rfl⟩) (Nat.le_of_ble_eq_true rfl) ?_
        exact B_X8_chooseRival_67 _ ih _ _ _ _ h
def F_X8_chooseRival (x1 : Int32) (μ : Mm) : Option Mm := (F_X8_planAsTold μ).bind (fun q1 => (F_X0_clear q1).bind (fun q2 => L_X8_chooseRival_13 FUEL x1 0 q2))
set_option maxRecDepth 100000 in
set_option maxHeartbeats 4000000 in
theorem S_X8_chooseRival (x1 : Int32)  (μ : Mm) (q : Mm) (h : F_X8_chooseRival x1 μ = some q) : Cn wC yX8_chooseRival cX8_chooseRival 3 none 4 [.ref 0, .int x1] μ none q := by
  refine Cn_of (by decide +kernel) (Nat.le_of_ble_eq_true rfl) ?_
  show G wC RX8 cX8_chooseRival 3 none 4 none q 0 [(0, .ref 0), (1, .int x1)] [] μ
  unfold F_X8_chooseRival at h
  refine G_aload_n (pc := 0) 0 dX8_chooseRival_0 rfl ?_
  obtain ⟨q1, e1, h⟩ := bnd_some h
  refine G_callV0v (pc := 1) 0 7 dX8_chooseRival_1 wv_X8_195 cd_X8_planAsTold (S_X8_planAsTold _ _ e1) (by decide) (by decide) rfl (by decide) (fun _ _ => ⟨_, rfl⟩) (Nat.le_of_ble_eq_true rfl) ?_
  refine G_aload_n (pc := 4) 0 dX8_chooseRival_4 rfl ?_
  refine gwC_X8_67_0 (pc := 5) dX8_chooseRival_5 ?_
  obtain ⟨q2, e2, h⟩ := bnd_some h
  refine G_callV0v (pc := 8) 34 0 dX8_chooseRival_8 wv_X8_152 cd_X0_clear (S_X0_clear _ _ e2) (by decide) (by decide) rfl (by decide) (fun _ _ => ⟨_, rfl⟩) (Nat.le_of_ble_eq_true rfl) ?_
  refine G_iconst (pc := 11) (0) dX8_chooseRival_11 ci_0 ?_
  refine G_istore_n (pc := 12) [(2, .int _), (0, .ref _), (1, .int _)] dX8_chooseRival_12 (Nat.le_of_ble_eq_true rfl) rfl ?_
  refine G_loc [1, 2, 0] [(0, .ref _), (1, .int _), (2, .int _)] rfl ?_
  exact B_X8_chooseRival_13 _ _ _ _ _ h
def F_X8_rival (x1 : Int32) (x2 : Int32) (μ : Mm) : Option (Int32 × Mm) := (F_X3_size_1 μ).bind (fun q1 => (F_X8_isIn x1 q1.1 q1.2).bind (fun q2 => if q2.1 = 0 then some ((-2), q2.2) else (F_X8_isIn x2 2 q2.2).bind (fun q4 => if q4.1 = 0 then some ((-2), q4.2) else (F_X8_chooseRival x1 q4.2).bind (fun q6 => (F_X0_tell x2 q6).bind (fun q7 => some (q7.1, q7.2))))))
set_option maxRecDepth 100000 in
set_option maxHeartbeats 4000000 in
theorem S_X8_rival (x1 : Int32) (x2 : Int32)  (μ : Mm) (q : (Int32 × Mm)) (h : F_X8_rival x1 x2 μ = some q) : Cn wC yX8_rival cX8_rival 3 (some .int) 5 [.ref 0, .int x1, .int x2] μ (some (.int q.1)) q.2 := by
  refine Cn_of (by decide +kernel) (Nat.le_of_ble_eq_true rfl) ?_
  show G wC RX8 cX8_rival 3 (some .int) 5 (some (.int q.1)) q.2 0 [(0, .ref 0), (1, .int x1), (2, .int x2)] [] μ
  unfold F_X8_rival at h
  refine G_iload_n (pc := 0) 1 dX8_rival_0 rfl ?_
  refine G_aload_n (pc := 1) 0 dX8_rival_1 rfl ?_
  refine gwC_X8_14_0 (pc := 2) dX8_rival_2 ?_
  obtain ⟨q1, e1, h⟩ := bnd_some h
  refine G_callV0r (pc := 5) 1 3 dX8_rival_5 wv_X8_100 cd_X3_size (S_X3_size_1 _ _ e1) (by decide) (by decide) rfl (by decide) (fun _ _ => ⟨_, rfl⟩) (Nat.le_of_ble_eq_true rfl) ?_
  obtain ⟨q2, e2, h⟩ := bnd_some h
  refine G_callS2r (pc := 8) dX8_rival_8 ws_X8_104 cd_X8_isIn (S_X8_isIn _ _ _ _ e2) (by decide) (by decide) (Nat.le_of_ble_eq_true rfl) ?_
  refine G_if_eq (pc := 11) 22 dX8_rival_11 (by decide) (fun c3 => ?_) (fun c3 => ?_)
  · replace h := itp c3 h
    refine G_bipush (pc := 22) (-2) dX8_rival_22 bp_m2 ?_
    obtain rfl := Option.some.inj h
    exact G_iret (pc := 24) rfl dX8_rival_24
  · replace h := itn c3 h
    refine G_iload_n (pc := 14) 2 dX8_rival_14 rfl ?_
    refine G_iconst (pc := 15) (2) dX8_rival_15 ci_2 ?_
    obtain ⟨q4, e4, h⟩ := bnd_some h
    refine G_callS2r (pc := 16) dX8_rival_16 ws_X8_104 cd_X8_isIn (S_X8_isIn _ _ _ _ e4) (by decide) (by decide) (Nat.le_of_ble_eq_true rfl) ?_
    refine G_if_ne (pc := 19) 25 dX8_rival_19 (by decide) (fun c5 => ?_) (fun c5 => ?_)
    · replace h := itn c5 h
      refine G_aload_n (pc := 25) 0 dX8_rival_25 rfl ?_
      refine G_iload_n (pc := 26) 1 dX8_rival_26 rfl ?_
      obtain ⟨q6, e6, h⟩ := bnd_some h
      refine G_callV1v (pc := 27) 0 7 dX8_rival_27 wv_X8_178 cd_X8_chooseRival (S_X8_chooseRival _ _ _ e6) (by decide) (by decide) rfl (by decide) (fun _ _ => ⟨_, rfl⟩) (Nat.le_of_ble_eq_true rfl) ?_
      refine G_aload_n (pc := 30) 0 dX8_rival_30 rfl ?_
      refine gwC_X8_67_0 (pc := 31) dX8_rival_31 ?_
      refine G_iload_n (pc := 34) 2 dX8_rival_34 rfl ?_
      obtain ⟨q7, e7, h⟩ := bnd_some h
      refine G_callV1r (pc := 35) 34 0 dX8_rival_35 wv_X8_175 cd_X0_tell (S_X0_tell _ _ _ e7) (by decide) (by decide) rfl (by decide) (fun _ _ => ⟨_, rfl⟩) (Nat.le_of_ble_eq_true rfl) ?_
      obtain rfl := Option.some.inj h
      exact G_iret (pc := 38) rfl dX8_rival_38
    · replace h := itp c5 h
      refine G_bipush (pc := 22) (-2) dX8_rival_22 bp_m2 ?_
      obtain rfl := Option.some.inj h
      exact G_iret (pc := 24) rfl dX8_rival_24
def L_X8_chooseJudge_13 : Nat → Int32 → Int32 → Int32 → Mm → Option Mm
  | 0, _, _, _, _ => none
  | n + 1, x1, x2, x3, μ => if (μ.1 20 5) ≤ x3 then some μ else gi x1 12 ((F_X7_run 12 (wI μ 27 x1.toNatClampNeg x3)).bind (fun q5 => (F_X7_coloursOf x2 q5).bind (fun q6 => (F_X0_offer x3 q6.1 q6.2).bind (fun q7 => L_X8_chooseJudge_13 n x1 x2 (x3 + 1) q7))))
set_option maxRecDepth 100000 in
set_option maxHeartbeats 4000000 in
theorem L_X8_chooseJudge_13_s (n : Nat) (x1 : Int32) (x2 : Int32) (x3 : Int32) (μ : Mm) : L_X8_chooseJudge_13  (n + 1) x1 x2 x3 μ = (if (μ.1 20 5) ≤ x3 then some μ else gi x1 12 ((F_X7_run 12 (wI μ 27 x1.toNatClampNeg x3)).bind (fun q5 => (F_X7_coloursOf x2 q5).bind (fun q6 => (F_X0_offer x3 q6.1 q6.2).bind (fun q7 => L_X8_chooseJudge_13 n x1 x2 (x3 + 1) q7))))) := rfl
set_option maxRecDepth 100000 in
set_option maxHeartbeats 4000000 in
theorem B_X8_chooseJudge_13 : ∀ (n : Nat) (x1 : Int32) (x2 : Int32) (x3 : Int32) (μ : Mm) (q : Mm), L_X8_chooseJudge_13  n x1 x2 x3 μ = some q → G wC RX8 cX8_chooseJudge 4 none 4 none q 13 [(0, .ref 0), (1, .int x1), (2, .int x2), (3, .int x3)] [] μ := by
  intro n
  induction n with
  | zero =>
    intro x1 x2 x3 μ q  h
    cases h
  | succ n ih =>
    intro x1 x2 x3 μ q  h
    rw [L_X8_chooseJudge_13_s] at h
    refine G_iload_n (pc := 13) 3 dX8_chooseJudge_13 rfl ?_
    refine G_aload_n (pc := 14) 0 dX8_chooseJudge_14 rfl ?_
    refine gwC_X8_53_0 (pc := 15) dX8_chooseJudge_15 ?_
    refine gwC_X8_344_20 (pc := 18) dX8_chooseJudge_18 ?_
    refine G_icmp_ge (pc := 21) 73 dX8_chooseJudge_21 (by decide) (fun c3 => ?_) (fun c3 => ?_)
    · replace h := itp c3 h
      obtain rfl := Option.some.inj h
      exact G_vret (pc := 73) rfl dX8_chooseJudge_73
    · replace h := itn c3 h
      refine G_aload_n (pc := 24) 0 dX8_chooseJudge_24 rfl ?_
      refine gwC_X8_53_0 (pc := 25) dX8_chooseJudge_25 ?_
      refine gwC_X8_346_20 (pc := 28) dX8_chooseJudge_28 ?_
      refine G_iload_n (pc := 31) 1 dX8_chooseJudge_31 rfl ?_
      refine G_iload_n (pc := 32) 3 dX8_chooseJudge_32 rfl ?_
      obtain ⟨g4, h⟩ := gi_some h
      refine aswC_27 (pc := 33) dX8_chooseJudge_33 g4 ?_
      refine G_aload_n (pc := 34) 0 dX8_chooseJudge_34 rfl ?_
      refine gwC_X8_60_0 (pc := 35) dX8_chooseJudge_35 ?_
      refine G_aload_n (pc := 38) 0 dX8_chooseJudge_38 rfl ?_
      refine gwC_X8_53_0 (pc := 39) dX8_chooseJudge_39 ?_
      refine G_bipush (pc := 42) (12) dX8_chooseJudge_42 bp_12 ?_
      obtain ⟨q5, e5, h⟩ := bnd_some h
      refine G_callV2v (pc := 44) 28 6 dX8_chooseJudge_44 wv_X8_201 cd_X7_run (S_X7_run _ _ _ e5) (by decide) (by decide) rfl (by decide) (fun _ _ => ⟨_, rfl⟩) (Nat.le_of_ble_eq_true rfl) ?_
      refine G_aload_n (pc := 47) 0 dX8_chooseJudge_47 rfl ?_
      refine gwC_X8_67_0 (pc := 48) dX8_chooseJudge_48 ?_
      refine G_iload_n (pc := 51) 3 dX8_chooseJudge_51 rfl ?_
      refine G_aload_n (pc := 52) 0 dX8_chooseJudge_52 rfl ?_
      refine gwC_X8_60_0 (pc := 53) dX8_chooseJudge_53 ?_
      refine G_aload_n (pc := 56) 0 dX8_chooseJudge_56 rfl ?_
      refine gwC_X8_53_0 (pc := 57) dX8_chooseJudge_57 ?_
      refine G_iload_n (pc := 60) 2 dX8_chooseJudge_60 rfl ?_
      obtain ⟨q6, e6, h⟩ := bnd_some h
      refine G_callV2r (pc := 61) 28 6 dX8_chooseJudge_61 wv_X8_148 cd_X7_coloursOf (S_X7_coloursOf _ _ _ e6) (by decide) (by decide) rfl (by decide) (fun _ _ => ⟨_, rfl⟩) (Nat.le_of_ble_eq_true rfl) ?_
      obtain ⟨q7, e7, h⟩ := bnd_some h
      refine G_callV2v (pc := 64) 34 0 dX8_chooseJudge_64 wv_X8_155 cd_X0_offer (S_X0_offer _ _ _ _ e7) (by decide) (by decide) rfl (by decide) (fun _ _ => ⟨_, rfl⟩) (Nat.le_of_ble_eq_true rfl) ?_
      refine G_iinc (pc := 67) (1) 3 [(3, .int _), (0, .ref _), (1, .int _), (2, .int _)] dX8_chooseJudge_67 ci_1 rfl (Nat.le_of_ble_eq_true rfl) rfl ?_
      refine G_goto (pc := 70) 13 dX8_chooseJudge_70 (by decide) ?_
      refine G_loc [1, 2, 3, 0] [(0, .ref _), (1, .int _), (2, .int _), (3, .int _)] rfl ?_
      exact ih _ _ _ _ _ h
def F_X8_chooseJudge (x1 : Int32) (x2 : Int32) (μ : Mm) : Option Mm := (F_X8_planAsTold μ).bind (fun q1 => (F_X0_clear q1).bind (fun q2 => L_X8_chooseJudge_13 FUEL x1 x2 0 q2))
set_option maxRecDepth 100000 in
set_option maxHeartbeats 4000000 in
theorem S_X8_chooseJudge (x1 : Int32) (x2 : Int32)  (μ : Mm) (q : Mm) (h : F_X8_chooseJudge x1 x2 μ = some q) : Cn wC yX8_chooseJudge cX8_chooseJudge 4 none 4 [.ref 0, .int x1, .int x2] μ none q := by
  refine Cn_of (by decide +kernel) (Nat.le_of_ble_eq_true rfl) ?_
  show G wC RX8 cX8_chooseJudge 4 none 4 none q 0 [(0, .ref 0), (1, .int x1), (2, .int x2)] [] μ
  unfold F_X8_chooseJudge at h
  refine G_aload_n (pc := 0) 0 dX8_chooseJudge_0 rfl ?_
  obtain ⟨q1, e1, h⟩ := bnd_some h
  refine G_callV0v (pc := 1) 0 7 dX8_chooseJudge_1 wv_X8_195 cd_X8_planAsTold (S_X8_planAsTold _ _ e1) (by decide) (by decide) rfl (by decide) (fun _ _ => ⟨_, rfl⟩) (Nat.le_of_ble_eq_true rfl) ?_
  refine G_aload_n (pc := 4) 0 dX8_chooseJudge_4 rfl ?_
  refine gwC_X8_67_0 (pc := 5) dX8_chooseJudge_5 ?_
  obtain ⟨q2, e2, h⟩ := bnd_some h
  refine G_callV0v (pc := 8) 34 0 dX8_chooseJudge_8 wv_X8_152 cd_X0_clear (S_X0_clear _ _ e2) (by decide) (by decide) rfl (by decide) (fun _ _ => ⟨_, rfl⟩) (Nat.le_of_ble_eq_true rfl) ?_
  refine G_iconst (pc := 11) (0) dX8_chooseJudge_11 ci_0 ?_
  refine G_istore_n (pc := 12) [(3, .int _), (0, .ref _), (1, .int _), (2, .int _)] dX8_chooseJudge_12 (Nat.le_of_ble_eq_true rfl) rfl ?_
  refine G_loc [1, 2, 3, 0] [(0, .ref _), (1, .int _), (2, .int _), (3, .int _)] rfl ?_
  exact B_X8_chooseJudge_13 _ _ _ _ _ _ h
def F_X8_send (x1 : Int32) (x2 : Int32) (x3 : Int32) (μ : Mm) : Option (Int32 × Mm) := (F_X8_isIn x1 12 μ).bind (fun q1 => if q1.1 = 0 then some ((-2), q1.2) else (F_X8_isIn x2 6 q1.2).bind (fun q3 => if q3.1 = 0 then some ((-2), q3.2) else (F_X8_isIn x3 2 q3.2).bind (fun q5 => if q5.1 = 0 then some ((-2), q5.2) else (F_X8_chooseJudge x1 x2 q5.2).bind (fun q7 => (F_X0_tell x3 q7).bind (fun q8 => some (q8.1, q8.2))))))
set_option maxRecDepth 100000 in
set_option maxHeartbeats 4000000 in
theorem S_X8_send (x1 : Int32) (x2 : Int32) (x3 : Int32)  (μ : Mm) (q : (Int32 × Mm)) (h : F_X8_send x1 x2 x3 μ = some q) : Cn wC yX8_send cX8_send 4 (some .int) 5 [.ref 0, .int x1, .int x2, .int x3] μ (some (.int q.1)) q.2 := by
  refine Cn_of (by decide +kernel) (Nat.le_of_ble_eq_true rfl) ?_
  show G wC RX8 cX8_send 4 (some .int) 5 (some (.int q.1)) q.2 0 [(0, .ref 0), (1, .int x1), (2, .int x2), (3, .int x3)] [] μ
  unfold F_X8_send at h
  refine G_iload_n (pc := 0) 1 dX8_send_0 rfl ?_
  refine G_bipush (pc := 1) (12) dX8_send_1 bp_12 ?_
  obtain ⟨q1, e1, h⟩ := bnd_some h
  refine G_callS2r (pc := 3) dX8_send_3 ws_X8_104 cd_X8_isIn (S_X8_isIn _ _ _ _ e1) (by decide) (by decide) (Nat.le_of_ble_eq_true rfl) ?_
  refine G_if_eq (pc := 6) 26 dX8_send_6 (by decide) (fun c2 => ?_) (fun c2 => ?_)
  · replace h := itp c2 h
    refine G_bipush (pc := 26) (-2) dX8_send_26 bp_m2 ?_
    obtain rfl := Option.some.inj h
    exact G_iret (pc := 28) rfl dX8_send_28
  · replace h := itn c2 h
    refine G_iload_n (pc := 9) 2 dX8_send_9 rfl ?_
    refine G_bipush (pc := 10) (6) dX8_send_10 bp_6 ?_
    obtain ⟨q3, e3, h⟩ := bnd_some h
    refine G_callS2r (pc := 12) dX8_send_12 ws_X8_104 cd_X8_isIn (S_X8_isIn _ _ _ _ e3) (by decide) (by decide) (Nat.le_of_ble_eq_true rfl) ?_
    refine G_if_eq (pc := 15) 26 dX8_send_15 (by decide) (fun c4 => ?_) (fun c4 => ?_)
    · replace h := itp c4 h
      refine G_bipush (pc := 26) (-2) dX8_send_26 bp_m2 ?_
      obtain rfl := Option.some.inj h
      exact G_iret (pc := 28) rfl dX8_send_28
    · replace h := itn c4 h
      refine G_iload_n (pc := 18) 3 dX8_send_18 rfl ?_
      refine G_iconst (pc := 19) (2) dX8_send_19 ci_2 ?_
      obtain ⟨q5, e5, h⟩ := bnd_some h
      refine G_callS2r (pc := 20) dX8_send_20 ws_X8_104 cd_X8_isIn (S_X8_isIn _ _ _ _ e5) (by decide) (by decide) (Nat.le_of_ble_eq_true rfl) ?_
      refine G_if_ne (pc := 23) 29 dX8_send_23 (by decide) (fun c6 => ?_) (fun c6 => ?_)
      · replace h := itn c6 h
        refine G_aload_n (pc := 29) 0 dX8_send_29 rfl ?_
        refine G_iload_n (pc := 30) 1 dX8_send_30 rfl ?_
        refine G_iload_n (pc := 31) 2 dX8_send_31 rfl ?_
        obtain ⟨q7, e7, h⟩ := bnd_some h
        refine G_callV2v (pc := 32) 0 7 dX8_send_32 wv_X8_181 cd_X8_chooseJudge (S_X8_chooseJudge _ _ _ _ e7) (by decide) (by decide) rfl (by decide) (fun _ _ => ⟨_, rfl⟩) (Nat.le_of_ble_eq_true rfl) ?_
        refine G_aload_n (pc := 35) 0 dX8_send_35 rfl ?_
        refine gwC_X8_67_0 (pc := 36) dX8_send_36 ?_
        refine G_iload_n (pc := 39) 3 dX8_send_39 rfl ?_
        obtain ⟨q8, e8, h⟩ := bnd_some h
        refine G_callV1r (pc := 40) 34 0 dX8_send_40 wv_X8_175 cd_X0_tell (S_X0_tell _ _ _ e8) (by decide) (by decide) rfl (by decide) (fun _ _ => ⟨_, rfl⟩) (Nat.le_of_ble_eq_true rfl) ?_
        obtain rfl := Option.some.inj h
        exact G_iret (pc := 43) rfl dX8_send_43
      · replace h := itp c6 h
        refine G_bipush (pc := 26) (-2) dX8_send_26 bp_m2 ?_
        obtain rfl := Option.some.inj h
        exact G_iret (pc := 28) rfl dX8_send_28
def F_X8_standsWithout (x1 : Int32) (μ : Mm) : Option (Int32 × Mm) := (F_X7_run 12 (wI μ 20 10 x1)).bind (fun q1 => some ((if (q1.1 28 5) = 0 then 1 else 0), q1))
set_option maxRecDepth 100000 in
set_option maxHeartbeats 4000000 in
theorem S_X8_standsWithout (x1 : Int32)  (μ : Mm) (q : (Int32 × Mm)) (h : F_X8_standsWithout x1 μ = some q) : Cn wC yX8_standsWithout cX8_standsWithout 2 (some .boolean) 4 [.ref 0, .int x1] μ (some (.int q.1)) q.2 := by
  refine Cn_of (by decide +kernel) (Nat.le_of_ble_eq_true rfl) ?_
  show G wC RX8 cX8_standsWithout 2 (some .boolean) 4 (some (.int q.1)) q.2 0 [(0, .ref 0), (1, .int x1)] [] μ
  unfold F_X8_standsWithout at h
  refine G_aload_n (pc := 0) 0 dX8_standsWithout_0 rfl ?_
  refine gwC_X8_53_0 (pc := 1) dX8_standsWithout_1 ?_
  refine G_iload_n (pc := 4) 1 dX8_standsWithout_4 rfl ?_
  refine pwC_X8_198_20 (pc := 5) dX8_standsWithout_5 ?_
  refine G_aload_n (pc := 8) 0 dX8_standsWithout_8 rfl ?_
  refine gwC_X8_60_0 (pc := 9) dX8_standsWithout_9 ?_
  refine G_aload_n (pc := 12) 0 dX8_standsWithout_12 rfl ?_
  refine gwC_X8_53_0 (pc := 13) dX8_standsWithout_13 ?_
  refine G_bipush (pc := 16) (12) dX8_standsWithout_16 bp_12 ?_
  obtain ⟨q1, e1, h⟩ := bnd_some h
  refine G_callV2v (pc := 18) 28 6 dX8_standsWithout_18 wv_X8_201 cd_X7_run (S_X7_run _ _ _ e1) (by decide) (by decide) rfl (by decide) (fun _ _ => ⟨_, rfl⟩) (Nat.le_of_ble_eq_true rfl) ?_
  refine G_aload_n (pc := 21) 0 dX8_standsWithout_21 rfl ?_
  refine gwC_X8_60_0 (pc := 22) dX8_standsWithout_22 ?_
  refine gwC_X8_166_28 (pc := 25) dX8_standsWithout_25 ?_
  refine G_if_ne (pc := 28) 35 dX8_standsWithout_28 (by decide) (fun c2 => ?_) (fun c2 => ?_)
  · rw [if_neg c2] at h
    refine G_iconst (pc := 35) (0) dX8_standsWithout_35 ci_0 ?_
    obtain rfl := Option.some.inj h
    exact G_zret (pc := 36) rfl (Or.inl rfl) dX8_standsWithout_36
  · rw [if_pos c2] at h
    refine G_iconst (pc := 31) (1) dX8_standsWithout_31 ci_1 ?_
    refine G_goto (pc := 32) 36 dX8_standsWithout_32 (by decide) ?_
    obtain rfl := Option.some.inj h
    exact G_zret (pc := 36) rfl (Or.inr rfl) dX8_standsWithout_36
def L_X8_sparedEvents_64 (K49 : Int32 → Mm → Option (Int32 × Mm)) : Nat → Int32 → Int32 → Mm → Option (Int32 × Mm)
  | 0, _, _, _ => none
  | n + 1, x1, x2, μ => if (μ.1 7 1) ≤ x2 then K49 (x1 + 1) μ else (F_X8_standsWithout ((1 <<< (x1 &&& 31)) ||| (1 <<< (x2 &&& 31))) μ).bind (fun q7 => if q7.1 = 0 then L_X8_sparedEvents_64 K49 n x1 (x2 + 1) q7.2 else some (((1 <<< (x1 &&& 31)) ||| (1 <<< (x2 &&& 31))), q7.2))
set_option maxRecDepth 100000 in
set_option maxHeartbeats 4000000 in
theorem L_X8_sparedEvents_64_s (K49 : Int32 → Mm → Option (Int32 × Mm)) (n : Nat) (x1 : Int32) (x2 : Int32) (μ : Mm) : L_X8_sparedEvents_64 K49 (n + 1) x1 x2 μ = (if (μ.1 7 1) ≤ x2 then K49 (x1 + 1) μ else (F_X8_standsWithout ((1 <<< (x1 &&& 31)) ||| (1 <<< (x2 &&& 31))) μ).bind (fun q7 => if q7.1 = 0 then L_X8_sparedEvents_64 K49 n x1 (x2 + 1) q7.2 else some (((1 <<< (x1 &&& 31)) ||| (1 <<< (x2 &&& 31))), q7.2))) := rfl
set_option maxRecDepth 100000 in
set_option maxHeartbeats 4000000 in
theorem B_X8_sparedEvents_64 (K49 : Int32 → Mm → Option (Int32 × Mm)) (hK49 : ∀ (x1 : Int32) (μ : Mm) (q : (Int32 × Mm)), K49 x1 μ = some q → G wC RX8 cX8_sparedEvents 3 (some .int) 5 (some (.int q.1)) q.2 49 [(0, .ref 0), (1, .int x1)] [] μ) : ∀ (n : Nat) (x1 : Int32) (x2 : Int32) (μ : Mm) (q : (Int32 × Mm)), L_X8_sparedEvents_64 K49 n x1 x2 μ = some q → G wC RX8 cX8_sparedEvents 3 (some .int) 5 (some (.int q.1)) q.2 64 [(0, .ref 0), (1, .int x1), (2, .int x2)] [] μ := by
  intro n
  induction n with
  | zero =>
    intro x1 x2 μ q  h
    cases h
  | succ n ih =>
    intro x1 x2 μ q  h
    rw [L_X8_sparedEvents_64_s] at h
    refine G_iload_n (pc := 64) 2 dX8_sparedEvents_64 rfl ?_
    refine G_aload_n (pc := 65) 0 dX8_sparedEvents_65 rfl ?_
    refine gwC_X8_31_0 (pc := 66) dX8_sparedEvents_66 ?_
    refine gwC_X8_119_7 (pc := 69) dX8_sparedEvents_69 ?_
    refine G_icmp_ge (pc := 72) 103 dX8_sparedEvents_72 (by decide) (fun c6 => ?_) (fun c6 => ?_)
    · replace h := itp c6 h
      refine G_iinc (pc := 103) (1) 1 [(1, .int _), (0, .ref _), (2, .int _)] dX8_sparedEvents_103 ci_1 rfl (Nat.le_of_ble_eq_true rfl) rfl ?_
      refine G_goto (pc := 106) 49 dX8_sparedEvents_106 (by decide) ?_
      refine G_loc [1, 0] [(0, .ref _), (1, .int _)] rfl ?_
      exact hK49 _ _ _ h
    · replace h := itn c6 h
      refine G_aload_n (pc := 75) 0 dX8_sparedEvents_75 rfl ?_
      refine G_iconst (pc := 76) (1) dX8_sparedEvents_76 ci_1 ?_
      refine G_iload_n (pc := 77) 1 dX8_sparedEvents_77 rfl ?_
      refine G_ishl (pc := 78) dX8_sparedEvents_78 ?_
      refine G_iconst (pc := 79) (1) dX8_sparedEvents_79 ci_1 ?_
      refine G_iload_n (pc := 80) 2 dX8_sparedEvents_80 rfl ?_
      refine G_ishl (pc := 81) dX8_sparedEvents_81 ?_
      refine G_ior (pc := 82) dX8_sparedEvents_82 ?_
      obtain ⟨q7, e7, h⟩ := bnd_some h
      refine G_callV1r (pc := 83) 0 7 dX8_sparedEvents_83 wv_X8_349 cd_X8_standsWithout (S_X8_standsWithout _ _ _ e7) (by decide) (by decide) rfl (by decide) (fun _ _ => ⟨_, rfl⟩) (Nat.le_of_ble_eq_true rfl) ?_
      refine G_if_eq (pc := 86) 97 dX8_sparedEvents_86 (by decide) (fun c8 => ?_) (fun c8 => ?_)
      · replace h := itp c8 h
        refine G_iinc (pc := 97) (1) 2 [(2, .int _), (0, .ref _), (1, .int _)] dX8_sparedEvents_97 ci_1 rfl (Nat.le_of_ble_eq_true rfl) rfl ?_
        refine G_goto (pc := 100) 64 dX8_sparedEvents_100 (by decide) ?_
        refine G_loc [1, 2, 0] [(0, .ref _), (1, .int _), (2, .int _)] rfl ?_
        exact ih _ _ _ _ h
      · replace h := itn c8 h
        refine G_iconst (pc := 89) (1) dX8_sparedEvents_89 ci_1 ?_
        refine G_iload_n (pc := 90) 1 dX8_sparedEvents_90 rfl ?_
        refine G_ishl (pc := 91) dX8_sparedEvents_91 ?_
        refine G_iconst (pc := 92) (1) dX8_sparedEvents_92 ci_1 ?_
        refine G_iload_n (pc := 93) 2 dX8_sparedEvents_93 rfl ?_
        refine G_ishl (pc := 94) dX8_sparedEvents_94 ?_
        refine G_ior (pc := 95) dX8_sparedEvents_95 ?_
        obtain rfl := Option.some.inj h
        exact G_iret (pc := 96) rfl dX8_sparedEvents_96
def L_X8_sparedEvents_49 : Nat → Int32 → Mm → Option (Int32 × Mm)
  | 0, _, _ => none
  | n + 1, x1, μ => if (μ.1 7 1) ≤ x1 then some ((-1), μ) else L_X8_sparedEvents_64 (L_X8_sparedEvents_49 n) FUEL x1 (x1 + 1) μ
set_option maxRecDepth 100000 in
set_option maxHeartbeats 4000000 in
theorem L_X8_sparedEvents_49_s (n : Nat) (x1 : Int32) (μ : Mm) : L_X8_sparedEvents_49  (n + 1) x1 μ = (if (μ.1 7 1) ≤ x1 then some ((-1), μ) else L_X8_sparedEvents_64 (L_X8_sparedEvents_49 n) FUEL x1 (x1 + 1) μ) := rfl
set_option maxRecDepth 100000 in
set_option maxHeartbeats 4000000 in
theorem B_X8_sparedEvents_49 : ∀ (n : Nat) (x1 : Int32) (μ : Mm) (q : (Int32 × Mm)), L_X8_sparedEvents_49  n x1 μ = some q → G wC RX8 cX8_sparedEvents 3 (some .int) 5 (some (.int q.1)) q.2 49 [(0, .ref 0), (1, .int x1)] [] μ := by
  intro n
  induction n with
  | zero =>
    intro x1 μ q  h
    cases h
  | succ n ih =>
    intro x1 μ q  h
    rw [L_X8_sparedEvents_49_s] at h
    refine G_iload_n (pc := 49) 1 dX8_sparedEvents_49 rfl ?_
    refine G_aload_n (pc := 50) 0 dX8_sparedEvents_50 rfl ?_
    refine gwC_X8_31_0 (pc := 51) dX8_sparedEvents_51 ?_
    refine gwC_X8_119_7 (pc := 54) dX8_sparedEvents_54 ?_
    refine G_icmp_ge (pc := 57) 109 dX8_sparedEvents_57 (by decide) (fun c5 => ?_) (fun c5 => ?_)
    · replace h := itp c5 h
      refine G_iconst (pc := 109) (-1) dX8_sparedEvents_109 ci_m1 ?_
      obtain rfl := Option.some.inj h
      exact G_iret (pc := 110) rfl dX8_sparedEvents_110
    · replace h := itn c5 h
      refine G_iload_n (pc := 60) 1 dX8_sparedEvents_60 rfl ?_
      refine G_iconst (pc := 61) (1) dX8_sparedEvents_61 ci_1 ?_
      refine G_iadd (pc := 62) dX8_sparedEvents_62 ?_
      refine G_istore_n (pc := 63) [(2, .int _), (0, .ref _), (1, .int _)] dX8_sparedEvents_63 (Nat.le_of_ble_eq_true rfl) rfl ?_
      refine G_loc [1, 2, 0] [(0, .ref _), (1, .int _), (2, .int _)] rfl ?_
      exact B_X8_sparedEvents_64 _ ih _ _ _ _ _ h
def L_X8_sparedEvents_16 : Nat → Int32 → Mm → Option (Int32 × Mm)
  | 0, _, _ => none
  | n + 1, x1, μ => if (μ.1 7 1) ≤ x1 then L_X8_sparedEvents_49 FUEL 0 μ else (F_X8_standsWithout (1 <<< (x1 &&& 31)) μ).bind (fun q9 => if q9.1 = 0 then L_X8_sparedEvents_16 n (x1 + 1) q9.2 else some ((1 <<< (x1 &&& 31)), q9.2))
set_option maxRecDepth 100000 in
set_option maxHeartbeats 4000000 in
theorem L_X8_sparedEvents_16_s (n : Nat) (x1 : Int32) (μ : Mm) : L_X8_sparedEvents_16  (n + 1) x1 μ = (if (μ.1 7 1) ≤ x1 then L_X8_sparedEvents_49 FUEL 0 μ else (F_X8_standsWithout (1 <<< (x1 &&& 31)) μ).bind (fun q9 => if q9.1 = 0 then L_X8_sparedEvents_16 n (x1 + 1) q9.2 else some ((1 <<< (x1 &&& 31)), q9.2))) := rfl
set_option maxRecDepth 100000 in
set_option maxHeartbeats 4000000 in
theorem B_X8_sparedEvents_16 : ∀ (n : Nat) (x1 : Int32) (μ : Mm) (q : (Int32 × Mm)), L_X8_sparedEvents_16  n x1 μ = some q → G wC RX8 cX8_sparedEvents 3 (some .int) 5 (some (.int q.1)) q.2 16 [(0, .ref 0), (1, .int x1)] [] μ := by
  intro n
  induction n with
  | zero =>
    intro x1 μ q  h
    cases h
  | succ n ih =>
    intro x1 μ q  h
    rw [L_X8_sparedEvents_16_s] at h
    refine G_iload_n (pc := 16) 1 dX8_sparedEvents_16 rfl ?_
    refine G_aload_n (pc := 17) 0 dX8_sparedEvents_17 rfl ?_
    refine gwC_X8_31_0 (pc := 18) dX8_sparedEvents_18 ?_
    refine gwC_X8_119_7 (pc := 21) dX8_sparedEvents_21 ?_
    refine G_icmp_ge (pc := 24) 47 dX8_sparedEvents_24 (by decide) (fun c4 => ?_) (fun c4 => ?_)
    · replace h := itp c4 h
      refine G_iconst (pc := 47) (0) dX8_sparedEvents_47 ci_0 ?_
      refine G_istore_n (pc := 48) [(1, .int _), (0, .ref _)] dX8_sparedEvents_48 (Nat.le_of_ble_eq_true rfl) rfl ?_
      refine G_loc [1, 0] [(0, .ref _), (1, .int _)] rfl ?_
      exact B_X8_sparedEvents_49 _ _ _ _ h
    · replace h := itn c4 h
      refine G_aload_n (pc := 27) 0 dX8_sparedEvents_27 rfl ?_
      refine G_iconst (pc := 28) (1) dX8_sparedEvents_28 ci_1 ?_
      refine G_iload_n (pc := 29) 1 dX8_sparedEvents_29 rfl ?_
      refine G_ishl (pc := 30) dX8_sparedEvents_30 ?_
      obtain ⟨q9, e9, h⟩ := bnd_some h
      refine G_callV1r (pc := 31) 0 7 dX8_sparedEvents_31 wv_X8_349 cd_X8_standsWithout (S_X8_standsWithout _ _ _ e9) (by decide) (by decide) rfl (by decide) (fun _ _ => ⟨_, rfl⟩) (Nat.le_of_ble_eq_true rfl) ?_
      refine G_if_eq (pc := 34) 41 dX8_sparedEvents_34 (by decide) (fun c10 => ?_) (fun c10 => ?_)
      · replace h := itp c10 h
        refine G_iinc (pc := 41) (1) 1 [(1, .int _), (0, .ref _)] dX8_sparedEvents_41 ci_1 rfl (Nat.le_of_ble_eq_true rfl) rfl ?_
        refine G_goto (pc := 44) 16 dX8_sparedEvents_44 (by decide) ?_
        refine G_loc [1, 0] [(0, .ref _), (1, .int _)] rfl ?_
        exact ih _ _ _ h
      · replace h := itn c10 h
        refine G_iconst (pc := 37) (1) dX8_sparedEvents_37 ci_1 ?_
        refine G_iload_n (pc := 38) 1 dX8_sparedEvents_38 rfl ?_
        refine G_ishl (pc := 39) dX8_sparedEvents_39 ?_
        obtain rfl := Option.some.inj h
        exact G_iret (pc := 40) rfl dX8_sparedEvents_40
def F_X8_sparedEvents  (μ : Mm) : Option (Int32 × Mm) := (F_X8_planAsTold μ).bind (fun q1 => (F_X8_standsWithout 0 q1).bind (fun q2 => if q2.1 = 0 then L_X8_sparedEvents_16 FUEL 0 q2.2 else some (0, q2.2)))
set_option maxRecDepth 100000 in
set_option maxHeartbeats 4000000 in
theorem S_X8_sparedEvents   (μ : Mm) (q : (Int32 × Mm)) (h : F_X8_sparedEvents  μ = some q) : Cn wC yX8_sparedEvents cX8_sparedEvents 3 (some .int) 5 [.ref 0] μ (some (.int q.1)) q.2 := by
  refine Cn_of (by decide +kernel) (Nat.le_of_ble_eq_true rfl) ?_
  show G wC RX8 cX8_sparedEvents 3 (some .int) 5 (some (.int q.1)) q.2 0 [(0, .ref 0)] [] μ
  unfold F_X8_sparedEvents at h
  refine G_aload_n (pc := 0) 0 dX8_sparedEvents_0 rfl ?_
  obtain ⟨q1, e1, h⟩ := bnd_some h
  refine G_callV0v (pc := 1) 0 7 dX8_sparedEvents_1 wv_X8_195 cd_X8_planAsTold (S_X8_planAsTold _ _ e1) (by decide) (by decide) rfl (by decide) (fun _ _ => ⟨_, rfl⟩) (Nat.le_of_ble_eq_true rfl) ?_
  refine G_aload_n (pc := 4) 0 dX8_sparedEvents_4 rfl ?_
  refine G_iconst (pc := 5) (0) dX8_sparedEvents_5 ci_0 ?_
  obtain ⟨q2, e2, h⟩ := bnd_some h
  refine G_callV1r (pc := 6) 0 7 dX8_sparedEvents_6 wv_X8_349 cd_X8_standsWithout (S_X8_standsWithout _ _ _ e2) (by decide) (by decide) rfl (by decide) (fun _ _ => ⟨_, rfl⟩) (Nat.le_of_ble_eq_true rfl) ?_
  refine G_if_eq (pc := 9) 14 dX8_sparedEvents_9 (by decide) (fun c3 => ?_) (fun c3 => ?_)
  · replace h := itp c3 h
    refine G_iconst (pc := 14) (0) dX8_sparedEvents_14 ci_0 ?_
    refine G_istore_n (pc := 15) [(1, .int _), (0, .ref _)] dX8_sparedEvents_15 (Nat.le_of_ble_eq_true rfl) rfl ?_
    refine G_loc [1, 0] [(0, .ref _), (1, .int _)] rfl ?_
    exact B_X8_sparedEvents_16 _ _ _ _ h
  · replace h := itn c3 h
    refine G_iconst (pc := 12) (0) dX8_sparedEvents_12 ci_0 ?_
    obtain rfl := Option.some.inj h
    exact G_iret (pc := 13) rfl dX8_sparedEvents_13
def F_X8_numberOfBit_29 (K4 : Int32 → Int32 → Int32 → Int32 → Mm → Option (Int32 × Mm)) (x0 : Int32) (x1 : Int32) (x2 : Int32) (x3 : Int32) (μ : Mm) : Option (Int32 × Mm) := K4 x0 x1 x2 (x3 + 1) μ
set_option maxRecDepth 100000 in
set_option maxHeartbeats 4000000 in
theorem B_X8_numberOfBit_29 (K4 : Int32 → Int32 → Int32 → Int32 → Mm → Option (Int32 × Mm)) (hK4 : ∀ (x0 : Int32) (x1 : Int32) (x2 : Int32) (x3 : Int32) (μ : Mm) (q : (Int32 × Mm)), K4 x0 x1 x2 x3 μ = some q → G wC RX8 cX8_numberOfBit 4 (some .int) 0 (some (.int q.1)) q.2 4 [(0, .int x0), (1, .int x1), (2, .int x2), (3, .int x3)] [] μ) (x0 : Int32) (x1 : Int32) (x2 : Int32) (x3 : Int32) (μ : Mm) (q : (Int32 × Mm))  (h : F_X8_numberOfBit_29 K4 x0 x1 x2 x3 μ = some q) : G wC RX8 cX8_numberOfBit 4 (some .int) 0 (some (.int q.1)) q.2 29 [(0, .int x0), (1, .int x1), (2, .int x2), (3, .int x3)] [] μ := by
  unfold F_X8_numberOfBit_29 at h
  refine G_iinc (pc := 29) (1) 3 [(3, .int _), (0, .int _), (1, .int _), (2, .int _)] dX8_numberOfBit_29 ci_1 rfl (Nat.le_of_ble_eq_true rfl) rfl ?_
  refine G_goto (pc := 32) 4 dX8_numberOfBit_32 (by decide) ?_
  refine G_loc [1, 2, 3, 0] [(0, .int _), (1, .int _), (2, .int _), (3, .int _)] rfl ?_
  exact hK4 _ _ _ _ _ _ h
def L_X8_numberOfBit_4 : Nat → Int32 → Int32 → Int32 → Int32 → Mm → Option (Int32 × Mm)
  | 0, _, _, _, _, _ => none
  | n + 1, x0, x1, x2, x3, μ => if 8 ≤ x3 then some ((-1), μ) else if ((x0 >>> (x3 &&& 31)) &&& 1) = 1 then if x2 = x1 then some (x3, μ) else F_X8_numberOfBit_29 (L_X8_numberOfBit_4 n) x0 x1 (x2 + 1) x3 μ else F_X8_numberOfBit_29 (L_X8_numberOfBit_4 n) x0 x1 x2 x3 μ
set_option maxRecDepth 100000 in
set_option maxHeartbeats 4000000 in
theorem L_X8_numberOfBit_4_s (n : Nat) (x0 : Int32) (x1 : Int32) (x2 : Int32) (x3 : Int32) (μ : Mm) : L_X8_numberOfBit_4  (n + 1) x0 x1 x2 x3 μ = (if 8 ≤ x3 then some ((-1), μ) else if ((x0 >>> (x3 &&& 31)) &&& 1) = 1 then if x2 = x1 then some (x3, μ) else F_X8_numberOfBit_29 (L_X8_numberOfBit_4 n) x0 x1 (x2 + 1) x3 μ else F_X8_numberOfBit_29 (L_X8_numberOfBit_4 n) x0 x1 x2 x3 μ) := rfl
set_option maxRecDepth 100000 in
set_option maxHeartbeats 4000000 in
theorem B_X8_numberOfBit_4 : ∀ (n : Nat) (x0 : Int32) (x1 : Int32) (x2 : Int32) (x3 : Int32) (μ : Mm) (q : (Int32 × Mm)), L_X8_numberOfBit_4  n x0 x1 x2 x3 μ = some q → G wC RX8 cX8_numberOfBit 4 (some .int) 0 (some (.int q.1)) q.2 4 [(0, .int x0), (1, .int x1), (2, .int x2), (3, .int x3)] [] μ := by
  intro n
  induction n with
  | zero =>
    intro x0 x1 x2 x3 μ q  h
    cases h
  | succ n ih =>
    intro x0 x1 x2 x3 μ q  h
    rw [L_X8_numberOfBit_4_s] at h
    refine G_iload_n (pc := 4) 3 dX8_numberOfBit_4 rfl ?_
    refine G_bipush (pc := 5) (8) dX8_numberOfBit_5 bp_8 ?_
    refine G_icmp_ge (pc := 7) 35 dX8_numberOfBit_7 (by decide) (fun c1 => ?_) (fun c1 => ?_)
    · replace h := itp c1 h
      refine G_iconst (pc := 35) (-1) dX8_numberOfBit_35 ci_m1 ?_
      obtain rfl := Option.some.inj h
      exact G_iret (pc := 36) rfl dX8_numberOfBit_36
    · replace h := itn c1 h
      refine G_iload_n (pc := 10) 0 dX8_numberOfBit_10 rfl ?_
      refine G_iload_n (pc := 11) 3 dX8_numberOfBit_11 rfl ?_
      refine G_ishr (pc := 12) dX8_numberOfBit_12 ?_
      refine G_iconst (pc := 13) (1) dX8_numberOfBit_13 ci_1 ?_
      refine G_iand (pc := 14) dX8_numberOfBit_14 ?_
      refine G_iconst (pc := 15) (1) dX8_numberOfBit_15 ci_1 ?_
      refine G_icmp_ne (pc := 16) 29 dX8_numberOfBit_16 (by decide) (fun c2 => ?_) (fun c2 => ?_)
      · replace h := itn c2 h
        exact B_X8_numberOfBit_29 _ ih _ _ _ _ _ _ h
      · replace h := itp c2 h
        refine G_iload_n (pc := 19) 2 dX8_numberOfBit_19 rfl ?_
        refine G_iload_n (pc := 20) 1 dX8_numberOfBit_20 rfl ?_
        refine G_icmp_ne (pc := 21) 26 dX8_numberOfBit_21 (by decide) (fun c3 => ?_) (fun c3 => ?_)
        · replace h := itn c3 h
          refine G_iinc (pc := 26) (1) 2 [(2, .int _), (0, .int _), (1, .int _), (3, .int _)] dX8_numberOfBit_26 ci_1 rfl (Nat.le_of_ble_eq_true rfl) rfl ?_
          refine G_loc [1, 2, 0, 3] [(0, .int _), (1, .int _), (2, .int _), (3, .int _)] rfl ?_
          exact B_X8_numberOfBit_29 _ ih _ _ _ _ _ _ h
        · replace h := itp c3 h
          refine G_iload_n (pc := 24) 3 dX8_numberOfBit_24 rfl ?_
          obtain rfl := Option.some.inj h
          exact G_iret (pc := 25) rfl dX8_numberOfBit_25
def F_X8_numberOfBit (x0 : Int32) (x1 : Int32) (μ : Mm) : Option (Int32 × Mm) := L_X8_numberOfBit_4 FUEL x0 x1 0 0 μ
set_option maxRecDepth 100000 in
set_option maxHeartbeats 4000000 in
theorem S_X8_numberOfBit (x0 : Int32) (x1 : Int32)  (μ : Mm) (q : (Int32 × Mm)) (h : F_X8_numberOfBit x0 x1 μ = some q) : Cn wC yX8_numberOfBit cX8_numberOfBit 4 (some .int) 0 [.int x0, .int x1] μ (some (.int q.1)) q.2 := by
  refine Cn_of (by decide +kernel) (Nat.le_of_ble_eq_true rfl) ?_
  show G wC RX8 cX8_numberOfBit 4 (some .int) 0 (some (.int q.1)) q.2 0 [(0, .int x0), (1, .int x1)] [] μ
  unfold F_X8_numberOfBit at h
  refine G_iconst (pc := 0) (0) dX8_numberOfBit_0 ci_0 ?_
  refine G_istore_n (pc := 1) [(2, .int _), (0, .int _), (1, .int _)] dX8_numberOfBit_1 (Nat.le_of_ble_eq_true rfl) rfl ?_
  refine G_iconst (pc := 2) (0) dX8_numberOfBit_2 ci_0 ?_
  refine G_istore_n (pc := 3) [(3, .int _), (2, .int _), (0, .int _), (1, .int _)] dX8_numberOfBit_3 (Nat.le_of_ble_eq_true rfl) rfl ?_
  refine G_loc [2, 3, 1, 0] [(0, .int _), (1, .int _), (2, .int _), (3, .int _)] rfl ?_
  exact B_X8_numberOfBit_4 _ _ _ _ _ _ _ h
def F_J6_bitCount_0f7a4 (x0 : Int32) (μ : Mm) : Option (Int32 × Mm) := some (((((((((x0 - (((x0.toUInt32 >>> ((1 : Int32).toUInt32 &&& Int32.toUInt32 31)).toInt32) &&& 1431655765)) &&& 858993459) + ((((x0 - (((x0.toUInt32 >>> ((1 : Int32).toUInt32 &&& Int32.toUInt32 31)).toInt32) &&& 1431655765)).toUInt32 >>> ((2 : Int32).toUInt32 &&& Int32.toUInt32 31)).toInt32) &&& 858993459)) + (((((x0 - (((x0.toUInt32 >>> ((1 : Int32).toUInt32 &&& Int32.toUInt32 31)).toInt32) &&& 1431655765)) &&& 858993459) + ((((x0 - (((x0.toUInt32 >>> ((1 : Int32).toUInt32 &&& Int32.toUInt32 31)).toInt32) &&& 1431655765)).toUInt32 >>> ((2 : Int32).toUInt32 &&& Int32.toUInt32 31)).toInt32) &&& 858993459)).toUInt32 >>> ((4 : Int32).toUInt32 &&& Int32.toUInt32 31)).toInt32)) &&& 252645135) + (((((((x0 - (((x0.toUInt32 >>> ((1 : Int32).toUInt32 &&& Int32.toUInt32 31)).toInt32) &&& 1431655765)) &&& 858993459) + ((((x0 - (((x0.toUInt32 >>> ((1 : Int32).toUInt32 &&& Int32.toUInt32 31)).toInt32) &&& 1431655765)).toUInt32 >>> ((2 : Int32).toUInt32 &&& Int32.toUInt32 31)).toInt32) &&& 858993459)) + (((((x0 - (((x0.toUInt32 >>> ((1 : Int32).toUInt32 &&& Int32.toUInt32 31)).toInt32) &&& 1431655765)) &&& 858993459) + ((((x0 - (((x0.toUInt32 >>> ((1 : Int32).toUInt32 &&& Int32.toUInt32 31)).toInt32) &&& 1431655765)).toUInt32 >>> ((2 : Int32).toUInt32 &&& Int32.toUInt32 31)).toInt32) &&& 858993459)).toUInt32 >>> ((4 : Int32).toUInt32 &&& Int32.toUInt32 31)).toInt32)) &&& 252645135).toUInt32 >>> ((8 : Int32).toUInt32 &&& Int32.toUInt32 31)).toInt32)) + ((((((((x0 - (((x0.toUInt32 >>> ((1 : Int32).toUInt32 &&& Int32.toUInt32 31)).toInt32) &&& 1431655765)) &&& 858993459) + ((((x0 - (((x0.toUInt32 >>> ((1 : Int32).toUInt32 &&& Int32.toUInt32 31)).toInt32) &&& 1431655765)).toUInt32 >>> ((2 : Int32).toUInt32 &&& Int32.toUInt32 31)).toInt32) &&& 858993459)) + (((((x0 - (((x0.toUInt32 >>> ((1 : Int32).toUInt32 &&& Int32.toUInt32 31)).toInt32) &&& 1431655765)) &&& 858993459) + ((((x0 - (((x0.toUInt32 >>> ((1 : Int32).toUInt32 &&& Int32.toUInt32 31)).toInt32) &&& 1431655765)).toUInt32 >>> ((2 : Int32).toUInt32 &&& Int32.toUInt32 31)).toInt32) &&& 858993459)).toUInt32 >>> ((4 : Int32).toUInt32 &&& Int32.toUInt32 31)).toInt32)) &&& 252645135) + (((((((x0 - (((x0.toUInt32 >>> ((1 : Int32).toUInt32 &&& Int32.toUInt32 31)).toInt32) &&& 1431655765)) &&& 858993459) + ((((x0 - (((x0.toUInt32 >>> ((1 : Int32).toUInt32 &&& Int32.toUInt32 31)).toInt32) &&& 1431655765)).toUInt32 >>> ((2 : Int32).toUInt32 &&& Int32.toUInt32 31)).toInt32) &&& 858993459)) + (((((x0 - (((x0.toUInt32 >>> ((1 : Int32).toUInt32 &&& Int32.toUInt32 31)).toInt32) &&& 1431655765)) &&& 858993459) + ((((x0 - (((x0.toUInt32 >>> ((1 : Int32).toUInt32 &&& Int32.toUInt32 31)).toInt32) &&& 1431655765)).toUInt32 >>> ((2 : Int32).toUInt32 &&& Int32.toUInt32 31)).toInt32) &&& 858993459)).toUInt32 >>> ((4 : Int32).toUInt32 &&& Int32.toUInt32 31)).toInt32)) &&& 252645135).toUInt32 >>> ((8 : Int32).toUInt32 &&& Int32.toUInt32 31)).toInt32)).toUInt32 >>> ((16 : Int32).toUInt32 &&& Int32.toUInt32 31)).toInt32)) &&& 63), μ)
set_option maxRecDepth 100000 in
set_option maxHeartbeats 4000000 in
theorem S_J6_bitCount_0f7a4 (x0 : Int32)  (μ : Mm) (q : (Int32 × Mm)) (h : F_J6_bitCount_0f7a4 x0 μ = some q) : Cn wC yJ6_bitCount_0f7a4 cJ6_bitCount_0f7a4 1 (some .int) 0 [.int x0] μ (some (.int q.1)) q.2 := by
  refine Cn_of (by decide +kernel) (Nat.le_of_ble_eq_true rfl) ?_
  show G wC RJ6 cJ6_bitCount_0f7a4 1 (some .int) 0 (some (.int q.1)) q.2 0 [(0, .int x0)] [] μ
  unfold F_J6_bitCount_0f7a4 at h
  refine G_iload_n (pc := 0) 0 dJ6_bitCount_0f7a4_0 rfl ?_
  refine G_iload_n (pc := 1) 0 dJ6_bitCount_0f7a4_1 rfl ?_
  refine G_iconst (pc := 2) (1) dJ6_bitCount_0f7a4_2 ci_1 ?_
  refine G_iushr (pc := 3) dJ6_bitCount_0f7a4_3 ?_
  refine G_ldcw (pc := 4) (1431655765) dJ6_bitCount_0f7a4_4 k_J6_265 ?_
  refine G_iand (pc := 7) dJ6_bitCount_0f7a4_7 ?_
  refine G_isub (pc := 8) dJ6_bitCount_0f7a4_8 ?_
  refine G_istore_n (pc := 9) [(0, .int _)] dJ6_bitCount_0f7a4_9 (Nat.le_of_ble_eq_true rfl) rfl ?_
  refine G_iload_n (pc := 10) 0 dJ6_bitCount_0f7a4_10 rfl ?_
  refine G_ldcw (pc := 11) (858993459) dJ6_bitCount_0f7a4_11 k_J6_266 ?_
  refine G_iand (pc := 14) dJ6_bitCount_0f7a4_14 ?_
  refine G_iload_n (pc := 15) 0 dJ6_bitCount_0f7a4_15 rfl ?_
  refine G_iconst (pc := 16) (2) dJ6_bitCount_0f7a4_16 ci_2 ?_
  refine G_iushr (pc := 17) dJ6_bitCount_0f7a4_17 ?_
  refine G_ldcw (pc := 18) (858993459) dJ6_bitCount_0f7a4_18 k_J6_266 ?_
  refine G_iand (pc := 21) dJ6_bitCount_0f7a4_21 ?_
  refine G_iadd (pc := 22) dJ6_bitCount_0f7a4_22 ?_
  refine G_istore_n (pc := 23) [(0, .int _)] dJ6_bitCount_0f7a4_23 (Nat.le_of_ble_eq_true rfl) rfl ?_
  refine G_iload_n (pc := 24) 0 dJ6_bitCount_0f7a4_24 rfl ?_
  refine G_iload_n (pc := 25) 0 dJ6_bitCount_0f7a4_25 rfl ?_
  refine G_iconst (pc := 26) (4) dJ6_bitCount_0f7a4_26 ci_4 ?_
  refine G_iushr (pc := 27) dJ6_bitCount_0f7a4_27 ?_
  refine G_iadd (pc := 28) dJ6_bitCount_0f7a4_28 ?_
  refine G_ldcw (pc := 29) (252645135) dJ6_bitCount_0f7a4_29 k_J6_267 ?_
  refine G_iand (pc := 32) dJ6_bitCount_0f7a4_32 ?_
  refine G_istore_n (pc := 33) [(0, .int _)] dJ6_bitCount_0f7a4_33 (Nat.le_of_ble_eq_true rfl) rfl ?_
  refine G_iload_n (pc := 34) 0 dJ6_bitCount_0f7a4_34 rfl ?_
  refine G_iload_n (pc := 35) 0 dJ6_bitCount_0f7a4_35 rfl ?_
  refine G_bipush (pc := 36) (8) dJ6_bitCount_0f7a4_36 bp_8 ?_
  refine G_iushr (pc := 38) dJ6_bitCount_0f7a4_38 ?_
  refine G_iadd (pc := 39) dJ6_bitCount_0f7a4_39 ?_
  refine G_istore_n (pc := 40) [(0, .int _)] dJ6_bitCount_0f7a4_40 (Nat.le_of_ble_eq_true rfl) rfl ?_
  refine G_iload_n (pc := 41) 0 dJ6_bitCount_0f7a4_41 rfl ?_
  refine G_iload_n (pc := 42) 0 dJ6_bitCount_0f7a4_42 rfl ?_
  refine G_bipush (pc := 43) (16) dJ6_bitCount_0f7a4_43 bp_16 ?_
  refine G_iushr (pc := 45) dJ6_bitCount_0f7a4_45 ?_
  refine G_iadd (pc := 46) dJ6_bitCount_0f7a4_46 ?_
  refine G_istore_n (pc := 47) [(0, .int _)] dJ6_bitCount_0f7a4_47 (Nat.le_of_ble_eq_true rfl) rfl ?_
  refine G_iload_n (pc := 48) 0 dJ6_bitCount_0f7a4_48 rfl ?_
  refine G_bipush (pc := 49) (63) dJ6_bitCount_0f7a4_49 bp_63 ?_
  refine G_iand (pc := 51) dJ6_bitCount_0f7a4_51 ?_
  obtain rfl := Option.some.inj h
  exact G_iret (pc := 52) rfl dJ6_bitCount_0f7a4_52
def F_X8_spare (x1 : Int32) (μ : Mm) : Option (Int32 × Mm) := if x1 < (-1) then some ((-2), μ) else if x1 ≤ 1 then (F_X8_sparedEvents μ).bind (fun q3 => if q3.1 = (-1) then some ((-1), q3.2) else if x1 = (-1) then (F_J6_bitCount_0f7a4 q3.1 q3.2).bind (fun q7 => some (q7.1, q7.2)) else (F_X8_numberOfBit q3.1 x1 q3.2).bind (fun q6 => some (q6.1, q6.2))) else some ((-2), μ)
set_option maxRecDepth 100000 in
set_option maxHeartbeats 4000000 in
theorem S_X8_spare (x1 : Int32)  (μ : Mm) (q : (Int32 × Mm)) (h : F_X8_spare x1 μ = some q) : Cn wC yX8_spare cX8_spare 3 (some .int) 6 [.ref 0, .int x1] μ (some (.int q.1)) q.2 := by
  refine Cn_of (by decide +kernel) (Nat.le_of_ble_eq_true rfl) ?_
  show G wC RX8 cX8_spare 3 (some .int) 6 (some (.int q.1)) q.2 0 [(0, .ref 0), (1, .int x1)] [] μ
  unfold F_X8_spare at h
  refine G_iload_n (pc := 0) 1 dX8_spare_0 rfl ?_
  refine G_iconst (pc := 1) (-1) dX8_spare_1 ci_m1 ?_
  refine G_icmp_lt (pc := 2) 10 dX8_spare_2 (by decide) (fun c1 => ?_) (fun c1 => ?_)
  · replace h := itp c1 h
    refine G_bipush (pc := 10) (-2) dX8_spare_10 bp_m2 ?_
    obtain rfl := Option.some.inj h
    exact G_iret (pc := 12) rfl dX8_spare_12
  · replace h := itn c1 h
    refine G_iload_n (pc := 5) 1 dX8_spare_5 rfl ?_
    refine G_iconst (pc := 6) (1) dX8_spare_6 ci_1 ?_
    refine G_icmp_le (pc := 7) 13 dX8_spare_7 (by decide) (fun c2 => ?_) (fun c2 => ?_)
    · replace h := itp c2 h
      refine G_aload_n (pc := 13) 0 dX8_spare_13 rfl ?_
      obtain ⟨q3, e3, h⟩ := bnd_some h
      refine G_callV0r (pc := 14) 0 7 dX8_spare_14 wv_X8_184 cd_X8_sparedEvents (S_X8_sparedEvents _ _ e3) (by decide) (by decide) rfl (by decide) (fun _ _ => ⟨_, rfl⟩) (Nat.le_of_ble_eq_true rfl) ?_
      refine G_istore_n (pc := 17) [(2, .int _), (0, .ref _), (1, .int _)] dX8_spare_17 (Nat.le_of_ble_eq_true rfl) rfl ?_
      refine G_iload_n (pc := 18) 0 dX8_spare_18 rfl ?_
      refine G_iconst (pc := 19) (-1) dX8_spare_19 ci_m1 ?_
      refine G_icmp_ne (pc := 20) 25 dX8_spare_20 (by decide) (fun c4 => ?_) (fun c4 => ?_)
      · replace h := itn c4 h
        refine G_iload_n (pc := 25) 2 dX8_spare_25 rfl ?_
        refine G_iconst (pc := 26) (-1) dX8_spare_26 ci_m1 ?_
        refine G_icmp_ne (pc := 27) 37 dX8_spare_27 (by decide) (fun c5 => ?_) (fun c5 => ?_)
        · replace h := itn c5 h
          refine G_iload_n (pc := 37) 0 dX8_spare_37 rfl ?_
          refine G_iload_n (pc := 38) 2 dX8_spare_38 rfl ?_
          obtain ⟨q6, e6, h⟩ := bnd_some h
          refine G_callS2r (pc := 39) dX8_spare_39 ws_X8_192 cd_X8_numberOfBit (S_X8_numberOfBit _ _ _ _ e6) (by decide) (by decide) (Nat.le_of_ble_eq_true rfl) ?_
          obtain rfl := Option.some.inj h
          exact G_iret (pc := 42) rfl dX8_spare_42
        · replace h := itp c5 h
          refine G_iload_n (pc := 30) 0 dX8_spare_30 rfl ?_
          obtain ⟨q7, e7, h⟩ := bnd_some h
          refine G_callS1r (pc := 31) dX8_spare_31 ws_X8_187 cd_J6_bitCount_0f7a4 (S_J6_bitCount_0f7a4 _ _ _ e7) (by decide) (by decide) (Nat.le_of_ble_eq_true rfl) ?_
          refine G_goto (pc := 34) 42 dX8_spare_34 (by decide) ?_
          obtain rfl := Option.some.inj h
          exact G_iret (pc := 42) rfl dX8_spare_42
      · replace h := itp c4 h
        refine G_iconst (pc := 23) (-1) dX8_spare_23 ci_m1 ?_
        obtain rfl := Option.some.inj h
        exact G_iret (pc := 24) rfl dX8_spare_24
    · replace h := itn c2 h
      refine G_bipush (pc := 10) (-2) dX8_spare_10 bp_m2 ?_
      obtain rfl := Option.some.inj h
      exact G_iret (pc := 12) rfl dX8_spare_12
def F_X1_add_9 (x1 : Int32) (x2 : Int32) (x3 : Int32) (μ : Mm) : Option (Int32 × Mm) := if (μ.1 9 1) < 8 then gi (3 * (μ.1 9 1)) 24 (gi ((3 * ((wI μ 10 (3 * (μ.1 9 1)).toNatClampNeg x1).1 9 1)) + 1) 24 (gi ((3 * ((wI (wI μ 10 (3 * (μ.1 9 1)).toNatClampNeg x1) 10 ((3 * ((wI μ 10 (3 * (μ.1 9 1)).toNatClampNeg x1).1 9 1)) + 1).toNatClampNeg x2).1 9 1)) + 2) 24 (some (1, (wI (wI (wI (wI μ 10 (3 * (μ.1 9 1)).toNatClampNeg x1) 10 ((3 * ((wI μ 10 (3 * (μ.1 9 1)).toNatClampNeg x1).1 9 1)) + 1).toNatClampNeg x2) 10 ((3 * ((wI (wI μ 10 (3 * (μ.1 9 1)).toNatClampNeg x1) 10 ((3 * ((wI μ 10 (3 * (μ.1 9 1)).toNatClampNeg x1).1 9 1)) + 1).toNatClampNeg x2).1 9 1)) + 2).toNatClampNeg x3) 9 1 (((wI (wI (wI μ 10 (3 * (μ.1 9 1)).toNatClampNeg x1) 10 ((3 * ((wI μ 10 (3 * (μ.1 9 1)).toNatClampNeg x1).1 9 1)) + 1).toNatClampNeg x2) 10 ((3 * ((wI (wI μ 10 (3 * (μ.1 9 1)).toNatClampNeg x1) 10 ((3 * ((wI μ 10 (3 * (μ.1 9 1)).toNatClampNeg x1).1 9 1)) + 1).toNatClampNeg x2).1 9 1)) + 2).toNatClampNeg x3).1 9 1) + 1)))))) else some (0, μ)
set_option maxRecDepth 100000 in
set_option maxHeartbeats 4000000 in
theorem S_X1_add_9 (x1 : Int32) (x2 : Int32) (x3 : Int32)  (μ : Mm) (q : (Int32 × Mm)) (h : F_X1_add_9 x1 x2 x3 μ = some q) : Cn wC yX1_add cX1_add 4 (some .boolean) 0 [.ref 9, .int x1, .int x2, .int x3] μ (some (.int q.1)) q.2 := by
  refine Cn_of (by decide +kernel) (Nat.le_of_ble_eq_true rfl) ?_
  show G wC RX1 cX1_add 4 (some .boolean) 0 (some (.int q.1)) q.2 0 [(0, .ref 9), (1, .int x1), (2, .int x2), (3, .int x3)] [] μ
  unfold F_X1_add_9 at h
  refine G_aload_n (pc := 0) 0 dX1_add_0 rfl ?_
  refine gwC_X1_15_9 (pc := 1) dX1_add_1 ?_
  refine G_bipush (pc := 4) (8) dX1_add_4 bp_8 ?_
  refine G_icmp_lt (pc := 6) 11 dX1_add_6 (by decide) (fun c1 => ?_) (fun c1 => ?_)
  · replace h := itp c1 h
    refine G_aload_n (pc := 11) 0 dX1_add_11 rfl ?_
    refine gwC_X1_9_9 (pc := 12) dX1_add_12 ?_
    refine G_iconst (pc := 15) (3) dX1_add_15 ci_3 ?_
    refine G_aload_n (pc := 16) 0 dX1_add_16 rfl ?_
    refine gwC_X1_15_9 (pc := 17) dX1_add_17 ?_
    refine G_imul (pc := 20) dX1_add_20 ?_
    refine G_iload_n (pc := 21) 1 dX1_add_21 rfl ?_
    obtain ⟨g2, h⟩ := gi_some h
    refine aswC_10 (pc := 22) dX1_add_22 g2 ?_
    refine G_aload_n (pc := 23) 0 dX1_add_23 rfl ?_
    refine gwC_X1_9_9 (pc := 24) dX1_add_24 ?_
    refine G_iconst (pc := 27) (3) dX1_add_27 ci_3 ?_
    refine G_aload_n (pc := 28) 0 dX1_add_28 rfl ?_
    refine gwC_X1_15_9 (pc := 29) dX1_add_29 ?_
    refine G_imul (pc := 32) dX1_add_32 ?_
    refine G_iconst (pc := 33) (1) dX1_add_33 ci_1 ?_
    refine G_iadd (pc := 34) dX1_add_34 ?_
    refine G_iload_n (pc := 35) 2 dX1_add_35 rfl ?_
    obtain ⟨g3, h⟩ := gi_some h
    refine aswC_10 (pc := 36) dX1_add_36 g3 ?_
    refine G_aload_n (pc := 37) 0 dX1_add_37 rfl ?_
    refine gwC_X1_9_9 (pc := 38) dX1_add_38 ?_
    refine G_iconst (pc := 41) (3) dX1_add_41 ci_3 ?_
    refine G_aload_n (pc := 42) 0 dX1_add_42 rfl ?_
    refine gwC_X1_15_9 (pc := 43) dX1_add_43 ?_
    refine G_imul (pc := 46) dX1_add_46 ?_
    refine G_iconst (pc := 47) (2) dX1_add_47 ci_2 ?_
    refine G_iadd (pc := 48) dX1_add_48 ?_
    refine G_iload_n (pc := 49) 3 dX1_add_49 rfl ?_
    obtain ⟨g4, h⟩ := gi_some h
    refine aswC_10 (pc := 50) dX1_add_50 g4 ?_
    refine G_aload_n (pc := 51) 0 dX1_add_51 rfl ?_
    refine G_dup (pc := 52) dX1_add_52 rfl ?_
    refine gwC_X1_15_9 (pc := 53) dX1_add_53 ?_
    refine G_iconst (pc := 56) (1) dX1_add_56 ci_1 ?_
    refine G_iadd (pc := 57) dX1_add_57 ?_
    refine pwC_X1_15_9 (pc := 58) dX1_add_58 ?_
    refine G_iconst (pc := 61) (1) dX1_add_61 ci_1 ?_
    obtain rfl := Option.some.inj h
    exact G_zret (pc := 62) rfl (Or.inr rfl) dX1_add_62
  · replace h := itn c1 h
    refine G_iconst (pc := 9) (0) dX1_add_9 ci_0 ?_
    obtain rfl := Option.some.inj h
    exact G_zret (pc := 10) rfl (Or.inl rfl) dX1_add_10
def F_X8_seen (x1 : Int32) (x2 : Int32) (x3 : Int32) (μ : Mm) : Option (Int32 × Mm) := (F_X8_isIn x1 12 μ).bind (fun q1 => if q1.1 = 0 then some ((-2), q1.2) else (F_X8_isIn x2 10 q1.2).bind (fun q3 => if q3.1 = 0 then some ((-2), q3.2) else (F_X8_isIn x3 4 q3.2).bind (fun q5 => if q5.1 = 0 then some ((-2), q5.2) else (F_X1_add_9 x1 x2 x3 q5.2).bind (fun q7 => some ((if q7.1 = 0 then (-4) else (q7.2.1 9 1)), q7.2)))))
set_option maxRecDepth 100000 in
set_option maxHeartbeats 4000000 in
theorem S_X8_seen (x1 : Int32) (x2 : Int32) (x3 : Int32)  (μ : Mm) (q : (Int32 × Mm)) (h : F_X8_seen x1 x2 x3 μ = some q) : Cn wC yX8_seen cX8_seen 4 (some .int) 1 [.ref 0, .int x1, .int x2, .int x3] μ (some (.int q.1)) q.2 := by
  refine Cn_of (by decide +kernel) (Nat.le_of_ble_eq_true rfl) ?_
  show G wC RX8 cX8_seen 4 (some .int) 1 (some (.int q.1)) q.2 0 [(0, .ref 0), (1, .int x1), (2, .int x2), (3, .int x3)] [] μ
  unfold F_X8_seen at h
  refine G_iload_n (pc := 0) 1 dX8_seen_0 rfl ?_
  refine G_bipush (pc := 1) (12) dX8_seen_1 bp_12 ?_
  obtain ⟨q1, e1, h⟩ := bnd_some h
  refine G_callS2r (pc := 3) dX8_seen_3 ws_X8_104 cd_X8_isIn (S_X8_isIn _ _ _ _ e1) (by decide) (by decide) (Nat.le_of_ble_eq_true rfl) ?_
  refine G_if_eq (pc := 6) 26 dX8_seen_6 (by decide) (fun c2 => ?_) (fun c2 => ?_)
  · replace h := itp c2 h
    refine G_bipush (pc := 26) (-2) dX8_seen_26 bp_m2 ?_
    obtain rfl := Option.some.inj h
    exact G_iret (pc := 28) rfl dX8_seen_28
  · replace h := itn c2 h
    refine G_iload_n (pc := 9) 2 dX8_seen_9 rfl ?_
    refine G_bipush (pc := 10) (10) dX8_seen_10 bp_10 ?_
    obtain ⟨q3, e3, h⟩ := bnd_some h
    refine G_callS2r (pc := 12) dX8_seen_12 ws_X8_104 cd_X8_isIn (S_X8_isIn _ _ _ _ e3) (by decide) (by decide) (Nat.le_of_ble_eq_true rfl) ?_
    refine G_if_eq (pc := 15) 26 dX8_seen_15 (by decide) (fun c4 => ?_) (fun c4 => ?_)
    · replace h := itp c4 h
      refine G_bipush (pc := 26) (-2) dX8_seen_26 bp_m2 ?_
      obtain rfl := Option.some.inj h
      exact G_iret (pc := 28) rfl dX8_seen_28
    · replace h := itn c4 h
      refine G_iload_n (pc := 18) 3 dX8_seen_18 rfl ?_
      refine G_iconst (pc := 19) (4) dX8_seen_19 ci_4 ?_
      obtain ⟨q5, e5, h⟩ := bnd_some h
      refine G_callS2r (pc := 20) dX8_seen_20 ws_X8_104 cd_X8_isIn (S_X8_isIn _ _ _ _ e5) (by decide) (by decide) (Nat.le_of_ble_eq_true rfl) ?_
      refine G_if_ne (pc := 23) 29 dX8_seen_23 (by decide) (fun c6 => ?_) (fun c6 => ?_)
      · replace h := itn c6 h
        refine G_aload_n (pc := 29) 0 dX8_seen_29 rfl ?_
        refine gwC_X8_35_0 (pc := 30) dX8_seen_30 ?_
        refine G_iload_n (pc := 33) 1 dX8_seen_33 rfl ?_
        refine G_iload_n (pc := 34) 2 dX8_seen_34 rfl ?_
        refine G_iload_n (pc := 35) 3 dX8_seen_35 rfl ?_
        obtain ⟨q7, e7, h⟩ := bnd_some h
        refine G_callV3r (pc := 36) 9 1 dX8_seen_36 wv_X8_116 cd_X1_add (S_X1_add_9 _ _ _ _ _ e7) (by decide) (by decide) rfl (by decide) (fun _ _ => ⟨_, rfl⟩) (Nat.le_of_ble_eq_true rfl) ?_
        refine G_if_eq (pc := 39) 52 dX8_seen_39 (by decide) (fun c8 => ?_) (fun c8 => ?_)
        · rw [if_pos c8] at h
          refine G_bipush (pc := 52) (-4) dX8_seen_52 bp_m4 ?_
          obtain rfl := Option.some.inj h
          exact G_iret (pc := 54) rfl dX8_seen_54
        · rw [if_neg c8] at h
          refine G_aload_n (pc := 42) 0 dX8_seen_42 rfl ?_
          refine gwC_X8_35_0 (pc := 43) dX8_seen_43 ?_
          refine gwC_X8_119_9 (pc := 46) dX8_seen_46 ?_
          refine G_goto (pc := 49) 54 dX8_seen_49 (by decide) ?_
          obtain rfl := Option.some.inj h
          exact G_iret (pc := 54) rfl dX8_seen_54
      · replace h := itp c6 h
        refine G_bipush (pc := 26) (-2) dX8_seen_26 bp_m2 ?_
        obtain rfl := Option.some.inj h
        exact G_iret (pc := 28) rfl dX8_seen_28
def F_X8_forget  (μ : Mm) : Option (Int32 × Mm) := some ((μ.1 9 1), (wI μ 9 1 0))
set_option maxRecDepth 100000 in
set_option maxHeartbeats 4000000 in
theorem S_X8_forget   (μ : Mm) (q : (Int32 × Mm)) (h : F_X8_forget  μ = some q) : Cn wC yX8_forget cX8_forget 2 (some .int) 0 [.ref 0] μ (some (.int q.1)) q.2 := by
  refine Cn_of (by decide +kernel) (Nat.le_of_ble_eq_true rfl) ?_
  show G wC RX8 cX8_forget 2 (some .int) 0 (some (.int q.1)) q.2 0 [(0, .ref 0)] [] μ
  unfold F_X8_forget at h
  refine G_aload_n (pc := 0) 0 dX8_forget_0 rfl ?_
  refine gwC_X8_35_0 (pc := 1) dX8_forget_1 ?_
  refine gwC_X8_119_9 (pc := 4) dX8_forget_4 ?_
  refine G_istore_n (pc := 7) [(1, .int _), (0, .ref _)] dX8_forget_7 (Nat.le_of_ble_eq_true rfl) rfl ?_
  refine G_aload_n (pc := 8) 1 dX8_forget_8 rfl ?_
  refine gwC_X8_35_0 (pc := 9) dX8_forget_9 ?_
  refine G_iconst (pc := 12) (0) dX8_forget_12 ci_0 ?_
  refine pwC_X8_119_9 (pc := 13) dX8_forget_13 ?_
  refine G_iload_n (pc := 16) 0 dX8_forget_16 rfl ?_
  obtain rfl := Option.some.inj h
  exact G_iret (pc := 17) rfl dX8_forget_17
def F_X1_part_9 (x1 : Int32) (x2 : Int32) (μ : Mm) : Option (Int32 × Mm) := gi ((3 * x1) + x2) 24 (some ((μ.1 10 ((3 * x1) + x2).toNatClampNeg), μ))
set_option maxRecDepth 100000 in
set_option maxHeartbeats 4000000 in
theorem S_X1_part_9 (x1 : Int32) (x2 : Int32)  (μ : Mm) (q : (Int32 × Mm)) (h : F_X1_part_9 x1 x2 μ = some q) : Cn wC yX1_part cX1_part 3 (some .int) 0 [.ref 9, .int x1, .int x2] μ (some (.int q.1)) q.2 := by
  refine Cn_of (by decide +kernel) (Nat.le_of_ble_eq_true rfl) ?_
  show G wC RX1 cX1_part 3 (some .int) 0 (some (.int q.1)) q.2 0 [(0, .ref 9), (1, .int x1), (2, .int x2)] [] μ
  unfold F_X1_part_9 at h
  refine G_aload_n (pc := 0) 0 dX1_part_0 rfl ?_
  refine gwC_X1_9_9 (pc := 1) dX1_part_1 ?_
  refine G_iconst (pc := 4) (3) dX1_part_4 ci_3 ?_
  refine G_iload_n (pc := 5) 1 dX1_part_5 rfl ?_
  refine G_imul (pc := 6) dX1_part_6 ?_
  refine G_iload_n (pc := 7) 2 dX1_part_7 rfl ?_
  refine G_iadd (pc := 8) dX1_part_8 ?_
  obtain ⟨g1, h⟩ := gi_some h
  refine alwC_10 (pc := 9) dX1_part_9 g1 ?_
  obtain rfl := Option.some.inj h
  exact G_iret (pc := 10) rfl dX1_part_10
def L_X7_placeOf_2 : Nat → Int32 → Int32 → Int32 → Mm → Option (Int32 × Mm)
  | 0, _, _, _, _ => none
  | n + 1, x1, x2, x3, μ => if 3 ≤ x3 then some (3, μ) else (F_X7_placedAt x1 x3 μ).bind (fun q2 => if q2.1 = x2 then some (x3, q2.2) else L_X7_placeOf_2 n x1 x2 (x3 + 1) q2.2)
set_option maxRecDepth 100000 in
set_option maxHeartbeats 4000000 in
theorem L_X7_placeOf_2_s (n : Nat) (x1 : Int32) (x2 : Int32) (x3 : Int32) (μ : Mm) : L_X7_placeOf_2  (n + 1) x1 x2 x3 μ = (if 3 ≤ x3 then some (3, μ) else (F_X7_placedAt x1 x3 μ).bind (fun q2 => if q2.1 = x2 then some (x3, q2.2) else L_X7_placeOf_2 n x1 x2 (x3 + 1) q2.2)) := rfl
set_option maxRecDepth 100000 in
set_option maxHeartbeats 4000000 in
theorem B_X7_placeOf_2 : ∀ (n : Nat) (x1 : Int32) (x2 : Int32) (x3 : Int32) (μ : Mm) (q : (Int32 × Mm)), L_X7_placeOf_2  n x1 x2 x3 μ = some q → G wC RX7 cX7_placeOf 4 (some .int) 1 (some (.int q.1)) q.2 2 [(0, .ref 28), (1, .int x1), (2, .int x2), (3, .int x3)] [] μ := by
  intro n
  induction n with
  | zero =>
    intro x1 x2 x3 μ q  h
    cases h
  | succ n ih =>
    intro x1 x2 x3 μ q  h
    rw [L_X7_placeOf_2_s] at h
    refine G_iload_n (pc := 2) 3 dX7_placeOf_2 rfl ?_
    refine G_iconst (pc := 3) (3) dX7_placeOf_3 ci_3 ?_
    refine G_icmp_ge (pc := 4) 25 dX7_placeOf_4 (by decide) (fun c1 => ?_) (fun c1 => ?_)
    · replace h := itp c1 h
      refine G_iconst (pc := 25) (3) dX7_placeOf_25 ci_3 ?_
      obtain rfl := Option.some.inj h
      exact G_iret (pc := 26) rfl dX7_placeOf_26
    · replace h := itn c1 h
      refine G_aload_n (pc := 7) 0 dX7_placeOf_7 rfl ?_
      refine G_iload_n (pc := 8) 1 dX7_placeOf_8 rfl ?_
      refine G_iload_n (pc := 9) 3 dX7_placeOf_9 rfl ?_
      obtain ⟨q2, e2, h⟩ := bnd_some h
      refine G_callV2r (pc := 10) 28 6 dX7_placeOf_10 wv_X7_128 cd_X7_placedAt (S_X7_placedAt _ _ _ _ e2) (by decide) (by decide) rfl (by decide) (fun _ _ => ⟨_, rfl⟩) (Nat.le_of_ble_eq_true rfl) ?_
      refine G_iload_n (pc := 13) 2 dX7_placeOf_13 rfl ?_
      refine G_icmp_ne (pc := 14) 19 dX7_placeOf_14 (by decide) (fun c3 => ?_) (fun c3 => ?_)
      · replace h := itn c3 h
        refine G_iinc (pc := 19) (1) 3 [(3, .int _), (0, .ref _), (1, .int _), (2, .int _)] dX7_placeOf_19 ci_1 rfl (Nat.le_of_ble_eq_true rfl) rfl ?_
        refine G_goto (pc := 22) 2 dX7_placeOf_22 (by decide) ?_
        refine G_loc [1, 2, 3, 0] [(0, .ref _), (1, .int _), (2, .int _), (3, .int _)] rfl ?_
        exact ih _ _ _ _ _ h
      · replace h := itp c3 h
        refine G_iload_n (pc := 17) 3 dX7_placeOf_17 rfl ?_
        obtain rfl := Option.some.inj h
        exact G_iret (pc := 18) rfl dX7_placeOf_18
def F_X7_placeOf (x1 : Int32) (x2 : Int32) (μ : Mm) : Option (Int32 × Mm) := L_X7_placeOf_2 FUEL x1 x2 0 μ
set_option maxRecDepth 100000 in
set_option maxHeartbeats 4000000 in
theorem S_X7_placeOf (x1 : Int32) (x2 : Int32)  (μ : Mm) (q : (Int32 × Mm)) (h : F_X7_placeOf x1 x2 μ = some q) : Cn wC yX7_placeOf cX7_placeOf 4 (some .int) 1 [.ref 28, .int x1, .int x2] μ (some (.int q.1)) q.2 := by
  refine Cn_of (by decide +kernel) (Nat.le_of_ble_eq_true rfl) ?_
  show G wC RX7 cX7_placeOf 4 (some .int) 1 (some (.int q.1)) q.2 0 [(0, .ref 28), (1, .int x1), (2, .int x2)] [] μ
  unfold F_X7_placeOf at h
  refine G_iconst (pc := 0) (0) dX7_placeOf_0 ci_0 ?_
  refine G_istore_n (pc := 1) [(3, .int _), (0, .ref _), (1, .int _), (2, .int _)] dX7_placeOf_1 (Nat.le_of_ble_eq_true rfl) rfl ?_
  refine G_loc [1, 2, 3, 0] [(0, .ref _), (1, .int _), (2, .int _), (3, .int _)] rfl ?_
  exact B_X7_placeOf_2 _ _ _ _ _ _ h
def L_X7_bearsOut_2 : Nat → Int32 → Int32 → Mm → Option (Int32 × Mm)
  | 0, _, _, _ => none
  | n + 1, x2, x3, μ => if (μ.1 9 1) ≤ x3 then some (1, μ) else (F_X1_part_9 x3 1 μ).bind (fun q2 => if x2 ≤ q2.1 then some (0, q2.2) else (F_X1_part_9 x3 0 q2.2).bind (fun q4 => (F_X7_placeOf q4.1 q2.1 q4.2).bind (fun q5 => (F_X1_part_9 x3 2 q5.2).bind (fun q6 => if q5.1 = q6.1 then L_X7_bearsOut_2 n x2 (x3 + 1) q6.2 else some (0, q6.2)))))
set_option maxRecDepth 100000 in
set_option maxHeartbeats 4000000 in
theorem L_X7_bearsOut_2_s (n : Nat) (x2 : Int32) (x3 : Int32) (μ : Mm) : L_X7_bearsOut_2  (n + 1) x2 x3 μ = (if (μ.1 9 1) ≤ x3 then some (1, μ) else (F_X1_part_9 x3 1 μ).bind (fun q2 => if x2 ≤ q2.1 then some (0, q2.2) else (F_X1_part_9 x3 0 q2.2).bind (fun q4 => (F_X7_placeOf q4.1 q2.1 q4.2).bind (fun q5 => (F_X1_part_9 x3 2 q5.2).bind (fun q6 => if q5.1 = q6.1 then L_X7_bearsOut_2 n x2 (x3 + 1) q6.2 else some (0, q6.2)))))) := rfl
set_option maxRecDepth 100000 in
set_option maxHeartbeats 4000000 in
theorem B_X7_bearsOut_2 : ∀ (n : Nat) (x2 : Int32) (x3 : Int32) (μ : Mm) (q : (Int32 × Mm)), L_X7_bearsOut_2  n x2 x3 μ = some q → G wC RX7 cX7_bearsOut 5 (some .boolean) 2 (some (.int q.1)) q.2 2 [(0, .ref 28), (1, .ref 9), (2, .int x2), (3, .int x3)] [] μ := by
  intro n
  induction n with
  | zero =>
    intro x2 x3 μ q  h
    cases h
  | succ n ih =>
    intro x2 x3 μ q  h
    rw [L_X7_bearsOut_2_s] at h
    refine G_iload_n (pc := 2) 3 dX7_bearsOut_2 rfl ?_
    refine G_aload_n (pc := 3) 1 dX7_bearsOut_3 rfl ?_
    refine gwC_X7_69_9 (pc := 4) dX7_bearsOut_4 ?_
    refine G_icmp_ge (pc := 7) 53 dX7_bearsOut_7 (by decide) (fun c1 => ?_) (fun c1 => ?_)
    · replace h := itp c1 h
      refine G_iconst (pc := 53) (1) dX7_bearsOut_53 ci_1 ?_
      obtain rfl := Option.some.inj h
      exact G_zret (pc := 54) rfl (Or.inr rfl) dX7_bearsOut_54
    · replace h := itn c1 h
      refine G_aload_n (pc := 10) 1 dX7_bearsOut_10 rfl ?_
      refine G_iload_n (pc := 11) 3 dX7_bearsOut_11 rfl ?_
      refine G_iconst (pc := 12) (1) dX7_bearsOut_12 ci_1 ?_
      obtain ⟨q2, e2, h⟩ := bnd_some h
      refine G_callV2r (pc := 13) 9 1 dX7_bearsOut_13 wv_X7_77 cd_X1_part (S_X1_part_9 _ _ _ _ e2) (by decide) (by decide) rfl (by decide) (fun _ _ => ⟨_, rfl⟩) (Nat.le_of_ble_eq_true rfl) ?_
      refine G_istore (pc := 16) [(4, .int _), (0, .ref _), (1, .ref _), (2, .int _), (3, .int _)] dX7_bearsOut_16 (Nat.le_of_ble_eq_true rfl) rfl ?_
      refine G_iload (pc := 18) 0 dX7_bearsOut_18 rfl ?_
      refine G_iload_n (pc := 20) 3 dX7_bearsOut_20 rfl ?_
      refine G_icmp_ge (pc := 21) 45 dX7_bearsOut_21 (by decide) (fun c3 => ?_) (fun c3 => ?_)
      · replace h := itp c3 h
        refine G_iconst (pc := 45) (0) dX7_bearsOut_45 ci_0 ?_
        obtain rfl := Option.some.inj h
        exact G_zret (pc := 46) rfl (Or.inl rfl) dX7_bearsOut_46
      · replace h := itn c3 h
        refine G_aload_n (pc := 24) 1 dX7_bearsOut_24 rfl ?_
        refine G_aload_n (pc := 25) 2 dX7_bearsOut_25 rfl ?_
        refine G_iload_n (pc := 26) 4 dX7_bearsOut_26 rfl ?_
        refine G_iconst (pc := 27) (0) dX7_bearsOut_27 ci_0 ?_
        obtain ⟨q4, e4, h⟩ := bnd_some h
        refine G_callV2r (pc := 28) 9 1 dX7_bearsOut_28 wv_X7_77 cd_X1_part (S_X1_part_9 _ _ _ _ e4) (by decide) (by decide) rfl (by decide) (fun _ _ => ⟨_, rfl⟩) (Nat.le_of_ble_eq_true rfl) ?_
        refine G_iload (pc := 31) 0 dX7_bearsOut_31 rfl ?_
        obtain ⟨q5, e5, h⟩ := bnd_some h
        refine G_callV2r (pc := 33) 28 6 dX7_bearsOut_33 wv_X7_131 cd_X7_placeOf (S_X7_placeOf _ _ _ _ e5) (by decide) (by decide) rfl (by decide) (fun _ _ => ⟨_, rfl⟩) (Nat.le_of_ble_eq_true rfl) ?_
        refine G_aload_n (pc := 36) 2 dX7_bearsOut_36 rfl ?_
        refine G_iload_n (pc := 37) 4 dX7_bearsOut_37 rfl ?_
        refine G_iconst (pc := 38) (2) dX7_bearsOut_38 ci_2 ?_
        obtain ⟨q6, e6, h⟩ := bnd_some h
        refine G_callV2r (pc := 39) 9 1 dX7_bearsOut_39 wv_X7_77 cd_X1_part (S_X1_part_9 _ _ _ _ e6) (by decide) (by decide) rfl (by decide) (fun _ _ => ⟨_, rfl⟩) (Nat.le_of_ble_eq_true rfl) ?_
        refine G_icmp_eq (pc := 42) 47 dX7_bearsOut_42 (by decide) (fun c7 => ?_) (fun c7 => ?_)
        · replace h := itp c7 h
          refine G_iinc (pc := 47) (1) 4 [(3, .int _), (4, .int _), (0, .ref _), (1, .ref _), (2, .int _)] dX7_bearsOut_47 ci_1 rfl (Nat.le_of_ble_eq_true rfl) rfl ?_
          refine G_goto (pc := 50) 2 dX7_bearsOut_50 (by decide) ?_
          refine G_loc [2, 3, 4, 0] [(0, .ref _), (1, .ref _), (2, .int _), (3, .int _)] rfl ?_
          exact ih _ _ _ _ h
        · replace h := itn c7 h
          refine G_iconst (pc := 45) (0) dX7_bearsOut_45 ci_0 ?_
          obtain rfl := Option.some.inj h
          exact G_zret (pc := 46) rfl (Or.inl rfl) dX7_bearsOut_46
def F_X7_bearsOut (x2 : Int32) (μ : Mm) : Option (Int32 × Mm) := L_X7_bearsOut_2 FUEL x2 0 μ
set_option maxRecDepth 100000 in
set_option maxHeartbeats 4000000 in
theorem S_X7_bearsOut (x2 : Int32)  (μ : Mm) (q : (Int32 × Mm)) (h : F_X7_bearsOut x2 μ = some q) : Cn wC yX7_bearsOut cX7_bearsOut 5 (some .boolean) 2 [.ref 28, .ref 9, .int x2] μ (some (.int q.1)) q.2 := by
  refine Cn_of (by decide +kernel) (Nat.le_of_ble_eq_true rfl) ?_
  show G wC RX7 cX7_bearsOut 5 (some .boolean) 2 (some (.int q.1)) q.2 0 [(0, .ref 28), (1, .ref 9), (2, .int x2)] [] μ
  unfold F_X7_bearsOut at h
  refine G_iconst (pc := 0) (0) dX7_bearsOut_0 ci_0 ?_
  refine G_istore_n (pc := 1) [(3, .int _), (0, .ref _), (1, .ref _), (2, .int _)] dX7_bearsOut_1 (Nat.le_of_ble_eq_true rfl) rfl ?_
  refine G_loc [1, 2, 3, 0] [(0, .ref _), (1, .ref _), (2, .int _), (3, .int _)] rfl ?_
  exact B_X7_bearsOut_2 _ _ _ _ _ h
def F_X8_never_69 (K8 : Int32 → Int32 → Mm → Option (Int32 × Mm)) (x1 : Int32) (x2 : Int32) (μ : Mm) : Option (Int32 × Mm) := K8 x1 (x2 + 1) μ
set_option maxRecDepth 100000 in
set_option maxHeartbeats 4000000 in
theorem B_X8_never_69 (K8 : Int32 → Int32 → Mm → Option (Int32 × Mm)) (hK8 : ∀ (x1 : Int32) (x2 : Int32) (μ : Mm) (q : (Int32 × Mm)), K8 x1 x2 μ = some q → G wC RX8 cX8_never 3 (some .int) 4 (some (.int q.1)) q.2 8 [(0, .ref 0), (1, .int x1), (2, .int x2)] [] μ) (x1 : Int32) (x2 : Int32) (μ : Mm) (q : (Int32 × Mm))  (h : F_X8_never_69 K8 x1 x2 μ = some q) : G wC RX8 cX8_never 3 (some .int) 4 (some (.int q.1)) q.2 69 [(0, .ref 0), (1, .int x1), (2, .int x2)] [] μ := by
  unfold F_X8_never_69 at h
  refine G_iinc (pc := 69) (1) 2 [(2, .int _), (0, .ref _), (1, .int _)] dX8_never_69 ci_1 rfl (Nat.le_of_ble_eq_true rfl) rfl ?_
  refine G_goto (pc := 72) 8 dX8_never_72 (by decide) ?_
  refine G_loc [1, 2, 0] [(0, .ref _), (1, .int _), (2, .int _)] rfl ?_
  exact hK8 _ _ _ _ h
def L_X8_never_8 : Nat → Int32 → Int32 → Mm → Option (Int32 × Mm)
  | 0, _, _, _ => none
  | n + 1, x1, x2, μ => if (μ.1 7 1) ≤ x2 then some (x1, μ) else (F_X7_run 12 (wI μ 20 10 (1 <<< (x2 &&& 31)))).bind (fun q3 => (F_X7_bearsOut (q3.1 20 1) q3).bind (fun q4 => F_X8_never_69 (L_X8_never_8 n) (if q4.1 = 0 then x1 else (x1 ||| (1 <<< (x2 &&& 31)))) x2 q4.2))
set_option maxRecDepth 100000 in
set_option maxHeartbeats 4000000 in
theorem L_X8_never_8_s (n : Nat) (x1 : Int32) (x2 : Int32) (μ : Mm) : L_X8_never_8  (n + 1) x1 x2 μ = (if (μ.1 7 1) ≤ x2 then some (x1, μ) else (F_X7_run 12 (wI μ 20 10 (1 <<< (x2 &&& 31)))).bind (fun q3 => (F_X7_bearsOut (q3.1 20 1) q3).bind (fun q4 => F_X8_never_69 (L_X8_never_8 n) (if q4.1 = 0 then x1 else (x1 ||| (1 <<< (x2 &&& 31)))) x2 q4.2))) := rfl
set_option maxRecDepth 100000 in
set_option maxHeartbeats 4000000 in
theorem B_X8_never_8 : ∀ (n : Nat) (x1 : Int32) (x2 : Int32) (μ : Mm) (q : (Int32 × Mm)), L_X8_never_8  n x1 x2 μ = some q → G wC RX8 cX8_never 3 (some .int) 4 (some (.int q.1)) q.2 8 [(0, .ref 0), (1, .int x1), (2, .int x2)] [] μ := by
  intro n
  induction n with
  | zero =>
    intro x1 x2 μ q  h
    cases h
  | succ n ih =>
    intro x1 x2 μ q  h
    rw [L_X8_never_8_s] at h
    refine G_iload_n (pc := 8) 2 dX8_never_8 rfl ?_
    refine G_aload_n (pc := 9) 0 dX8_never_9 rfl ?_
    refine gwC_X8_31_0 (pc := 10) dX8_never_10 ?_
    refine gwC_X8_119_7 (pc := 13) dX8_never_13 ?_
    refine G_icmp_ge (pc := 16) 75 dX8_never_16 (by decide) (fun c2 => ?_) (fun c2 => ?_)
    · replace h := itp c2 h
      refine G_iload_n (pc := 75) 1 dX8_never_75 rfl ?_
      obtain rfl := Option.some.inj h
      exact G_iret (pc := 76) rfl dX8_never_76
    · replace h := itn c2 h
      refine G_aload_n (pc := 19) 0 dX8_never_19 rfl ?_
      refine gwC_X8_53_0 (pc := 20) dX8_never_20 ?_
      refine G_iconst (pc := 23) (1) dX8_never_23 ci_1 ?_
      refine G_iload_n (pc := 24) 2 dX8_never_24 rfl ?_
      refine G_ishl (pc := 25) dX8_never_25 ?_
      refine pwC_X8_198_20 (pc := 26) dX8_never_26 ?_
      refine G_aload_n (pc := 29) 0 dX8_never_29 rfl ?_
      refine gwC_X8_60_0 (pc := 30) dX8_never_30 ?_
      refine G_aload_n (pc := 33) 0 dX8_never_33 rfl ?_
      refine gwC_X8_53_0 (pc := 34) dX8_never_34 ?_
      refine G_bipush (pc := 37) (12) dX8_never_37 bp_12 ?_
      obtain ⟨q3, e3, h⟩ := bnd_some h
      refine G_callV2v (pc := 39) 28 6 dX8_never_39 wv_X8_201 cd_X7_run (S_X7_run _ _ _ e3) (by decide) (by decide) rfl (by decide) (fun _ _ => ⟨_, rfl⟩) (Nat.le_of_ble_eq_true rfl) ?_
      refine G_aload_n (pc := 42) 0 dX8_never_42 rfl ?_
      refine gwC_X8_60_0 (pc := 43) dX8_never_43 ?_
      refine G_aload_n (pc := 46) 0 dX8_never_46 rfl ?_
      refine gwC_X8_35_0 (pc := 47) dX8_never_47 ?_
      refine G_aload_n (pc := 50) 0 dX8_never_50 rfl ?_
      refine gwC_X8_53_0 (pc := 51) dX8_never_51 ?_
      refine gwC_X8_161_20 (pc := 54) dX8_never_54 ?_
      obtain ⟨q4, e4, h⟩ := bnd_some h
      refine G_callV2r (pc := 57) 28 6 dX8_never_57 wv_X8_205 cd_X7_bearsOut (S_X7_bearsOut _ _ _ e4) (by decide) (by decide) rfl (by decide) (fun _ _ => ⟨_, rfl⟩) (Nat.le_of_ble_eq_true rfl) ?_
      refine G_if_eq (pc := 60) 69 dX8_never_60 (by decide) (fun c5 => ?_) (fun c5 => ?_)
      · rw [if_pos c5] at h
        exact B_X8_never_69 _ ih _ _ _ _ h
      · rw [if_neg c5] at h
        refine G_iload_n (pc := 63) 1 dX8_never_63 rfl ?_
        refine G_iconst (pc := 64) (1) dX8_never_64 ci_1 ?_
        refine G_iload_n (pc := 65) 2 dX8_never_65 rfl ?_
        refine G_ishl (pc := 66) dX8_never_66 ?_
        refine G_ior (pc := 67) dX8_never_67 ?_
        refine G_istore_n (pc := 68) [(1, .int _), (0, .ref _), (2, .int _)] dX8_never_68 (Nat.le_of_ble_eq_true rfl) rfl ?_
        refine G_loc [1, 0, 2] [(0, .ref _), (1, .int _), (2, .int _)] rfl ?_
        exact B_X8_never_69 _ ih _ _ _ _ h
def F_X8_never  (μ : Mm) : Option (Int32 × Mm) := (F_X8_planAsTold μ).bind (fun q1 => L_X8_never_8 FUEL 0 0 q1)
set_option maxRecDepth 100000 in
set_option maxHeartbeats 4000000 in
theorem S_X8_never   (μ : Mm) (q : (Int32 × Mm)) (h : F_X8_never  μ = some q) : Cn wC yX8_never cX8_never 3 (some .int) 4 [.ref 0] μ (some (.int q.1)) q.2 := by
  refine Cn_of (by decide +kernel) (Nat.le_of_ble_eq_true rfl) ?_
  show G wC RX8 cX8_never 3 (some .int) 4 (some (.int q.1)) q.2 0 [(0, .ref 0)] [] μ
  unfold F_X8_never at h
  refine G_aload_n (pc := 0) 0 dX8_never_0 rfl ?_
  obtain ⟨q1, e1, h⟩ := bnd_some h
  refine G_callV0v (pc := 1) 0 7 dX8_never_1 wv_X8_195 cd_X8_planAsTold (S_X8_planAsTold _ _ e1) (by decide) (by decide) rfl (by decide) (fun _ _ => ⟨_, rfl⟩) (Nat.le_of_ble_eq_true rfl) ?_
  refine G_iconst (pc := 4) (0) dX8_never_4 ci_0 ?_
  refine G_istore_n (pc := 5) [(1, .int _), (0, .ref _)] dX8_never_5 (Nat.le_of_ble_eq_true rfl) rfl ?_
  refine G_iconst (pc := 6) (0) dX8_never_6 ci_0 ?_
  refine G_istore_n (pc := 7) [(2, .int _), (1, .int _), (0, .ref _)] dX8_never_7 (Nat.le_of_ble_eq_true rfl) rfl ?_
  refine G_loc [2, 1, 0] [(0, .ref _), (1, .int _), (2, .int _)] rfl ?_
  exact B_X8_never_8 _ _ _ _ _ h
def F_X8_looked_81 (K25 : Int32 → Int32 → Int32 → Mm → Option (Int32 × Mm)) (x1 : Int32) (x2 : Int32) (x3 : Int32) (μ : Mm) : Option (Int32 × Mm) := K25 x1 x2 (x3 + 1) μ
set_option maxRecDepth 100000 in
set_option maxHeartbeats 4000000 in
theorem B_X8_looked_81 (K25 : Int32 → Int32 → Int32 → Mm → Option (Int32 × Mm)) (hK25 : ∀ (x1 : Int32) (x2 : Int32) (x3 : Int32) (μ : Mm) (q : (Int32 × Mm)), K25 x1 x2 x3 μ = some q → G wC RX8 cX8_looked 4 (some .int) 4 (some (.int q.1)) q.2 25 [(0, .ref 0), (1, .int x1), (2, .int x2), (3, .int x3)] [] μ) (x1 : Int32) (x2 : Int32) (x3 : Int32) (μ : Mm) (q : (Int32 × Mm))  (h : F_X8_looked_81 K25 x1 x2 x3 μ = some q) : G wC RX8 cX8_looked 4 (some .int) 4 (some (.int q.1)) q.2 81 [(0, .ref 0), (1, .int x1), (2, .int x2), (3, .int x3)] [] μ := by
  unfold F_X8_looked_81 at h
  refine G_iinc (pc := 81) (1) 3 [(3, .int _), (0, .ref _), (1, .int _), (2, .int _)] dX8_looked_81 ci_1 rfl (Nat.le_of_ble_eq_true rfl) rfl ?_
  refine G_goto (pc := 84) 25 dX8_looked_84 (by decide) ?_
  refine G_loc [1, 2, 3, 0] [(0, .ref _), (1, .int _), (2, .int _), (3, .int _)] rfl ?_
  exact hK25 _ _ _ _ _ h
def L_X8_looked_25 : Nat → Int32 → Int32 → Int32 → Mm → Option (Int32 × Mm)
  | 0, _, _, _, _ => none
  | n + 1, x1, x2, x3, μ => if 9 < x3 then some (x2, μ) else gi x1 10 ((F_X7_run 12 (wI μ 22 x1.toNatClampNeg x3)).bind (fun q7 => (F_X7_bearsOut (q7.1 20 1) q7).bind (fun q8 => F_X8_looked_81 (L_X8_looked_25 n) x1 (if q8.1 = 0 then x2 else (x2 ||| (1 <<< (x3 &&& 31)))) x3 q8.2)))
