set_option maxRecDepth 100000 in
set_option maxHeartbeats 4000000 in
theorem L_X8_looked_25_s (n : Nat) (x1 : Int32) (x2 : Int32) (x3 : Int32) (μ : Mm) : L_X8_looked_25  (n + 1) x1 x2 x3 μ = (if 9 < x3 then some (x2, μ) else gi x1 10 ((F_X7_run 12 (wI μ 22 x1.toNatClampNeg x3)).bind (fun q7 => (F_X7_bearsOut (q7.1 20 1) q7).bind (fun q8 => F_X8_looked_81 (L_X8_looked_25 n) x1 (if q8.1 = 0 then x2 else (x2 ||| (1 <<< (x3 &&& 31)))) x3 q8.2)))) := rfl
set_option maxRecDepth 100000 in
set_option maxHeartbeats 4000000 in
theorem B_X8_looked_25 : ∀ (n : Nat) (x1 : Int32) (x2 : Int32) (x3 : Int32) (μ : Mm) (q : (Int32 × Mm)), L_X8_looked_25  n x1 x2 x3 μ = some q → G wC RX8 cX8_looked 4 (some .int) 4 (some (.int q.1)) q.2 25 [(0, .ref 0), (1, .int x1), (2, .int x2), (3, .int x3)] [] μ := by
  intro n
  induction n with
  | zero =>
    intro x1 x2 x3 μ q  h
    cases h
  | succ n ih =>
    intro x1 x2 x3 μ q  h
    rw [L_X8_looked_25_s] at h
    refine G_iload_n (pc := 25) 3 dX8_looked_25 rfl ?_
    refine G_bipush (pc := 26) (9) dX8_looked_26 bp_9 ?_
    refine G_icmp_gt (pc := 28) 87 dX8_looked_28 (by decide) (fun c5 => ?_) (fun c5 => ?_)
    · replace h := itp c5 h
      refine G_iload_n (pc := 87) 2 dX8_looked_87 rfl ?_
      obtain rfl := Option.some.inj h
      exact G_iret (pc := 88) rfl dX8_looked_88
    · replace h := itn c5 h
      refine G_aload_n (pc := 31) 0 dX8_looked_31 rfl ?_
      refine gwC_X8_53_0 (pc := 32) dX8_looked_32 ?_
      refine gwC_X8_209_20 (pc := 35) dX8_looked_35 ?_
      refine G_iload_n (pc := 38) 1 dX8_looked_38 rfl ?_
      refine G_iload_n (pc := 39) 3 dX8_looked_39 rfl ?_
      obtain ⟨g6, h⟩ := gi_some h
      refine aswC_22 (pc := 40) dX8_looked_40 g6 ?_
      refine G_aload_n (pc := 41) 0 dX8_looked_41 rfl ?_
      refine gwC_X8_60_0 (pc := 42) dX8_looked_42 ?_
      refine G_aload_n (pc := 45) 0 dX8_looked_45 rfl ?_
      refine gwC_X8_53_0 (pc := 46) dX8_looked_46 ?_
      refine G_bipush (pc := 49) (12) dX8_looked_49 bp_12 ?_
      obtain ⟨q7, e7, h⟩ := bnd_some h
      refine G_callV2v (pc := 51) 28 6 dX8_looked_51 wv_X8_201 cd_X7_run (S_X7_run _ _ _ e7) (by decide) (by decide) rfl (by decide) (fun _ _ => ⟨_, rfl⟩) (Nat.le_of_ble_eq_true rfl) ?_
      refine G_aload_n (pc := 54) 0 dX8_looked_54 rfl ?_
      refine gwC_X8_60_0 (pc := 55) dX8_looked_55 ?_
      refine G_aload_n (pc := 58) 0 dX8_looked_58 rfl ?_
      refine gwC_X8_35_0 (pc := 59) dX8_looked_59 ?_
      refine G_aload_n (pc := 62) 0 dX8_looked_62 rfl ?_
      refine gwC_X8_53_0 (pc := 63) dX8_looked_63 ?_
      refine gwC_X8_161_20 (pc := 66) dX8_looked_66 ?_
      obtain ⟨q8, e8, h⟩ := bnd_some h
      refine G_callV2r (pc := 69) 28 6 dX8_looked_69 wv_X8_205 cd_X7_bearsOut (S_X7_bearsOut _ _ _ e8) (by decide) (by decide) rfl (by decide) (fun _ _ => ⟨_, rfl⟩) (Nat.le_of_ble_eq_true rfl) ?_
      refine G_if_eq (pc := 72) 81 dX8_looked_72 (by decide) (fun c9 => ?_) (fun c9 => ?_)
      · rw [if_pos c9] at h
        exact B_X8_looked_81 _ ih _ _ _ _ _ h
      · rw [if_neg c9] at h
        refine G_iload_n (pc := 75) 2 dX8_looked_75 rfl ?_
        refine G_iconst (pc := 76) (1) dX8_looked_76 ci_1 ?_
        refine G_iload_n (pc := 77) 3 dX8_looked_77 rfl ?_
        refine G_ishl (pc := 78) dX8_looked_78 ?_
        refine G_ior (pc := 79) dX8_looked_79 ?_
        refine G_istore_n (pc := 80) [(2, .int _), (0, .ref _), (1, .int _), (3, .int _)] dX8_looked_80 (Nat.le_of_ble_eq_true rfl) rfl ?_
        refine G_loc [1, 2, 0, 3] [(0, .ref _), (1, .int _), (2, .int _), (3, .int _)] rfl ?_
        exact B_X8_looked_81 _ ih _ _ _ _ _ h
def F_X8_looked (x1 : Int32) (μ : Mm) : Option (Int32 × Mm) := (F_X3_size_1 μ).bind (fun q1 => (F_X8_isIn x1 q1.1 q1.2).bind (fun q2 => if q2.1 = 0 then some ((-2), q2.2) else (F_X8_planAsTold q2.2).bind (fun q4 => L_X8_looked_25 FUEL x1 0 0 q4)))
set_option maxRecDepth 100000 in
set_option maxHeartbeats 4000000 in
theorem S_X8_looked (x1 : Int32)  (μ : Mm) (q : (Int32 × Mm)) (h : F_X8_looked x1 μ = some q) : Cn wC yX8_looked cX8_looked 4 (some .int) 4 [.ref 0, .int x1] μ (some (.int q.1)) q.2 := by
  refine Cn_of (by decide +kernel) (Nat.le_of_ble_eq_true rfl) ?_
  show G wC RX8 cX8_looked 4 (some .int) 4 (some (.int q.1)) q.2 0 [(0, .ref 0), (1, .int x1)] [] μ
  unfold F_X8_looked at h
  refine G_iload_n (pc := 0) 1 dX8_looked_0 rfl ?_
  refine G_aload_n (pc := 1) 0 dX8_looked_1 rfl ?_
  refine gwC_X8_14_0 (pc := 2) dX8_looked_2 ?_
  obtain ⟨q1, e1, h⟩ := bnd_some h
  refine G_callV0r (pc := 5) 1 3 dX8_looked_5 wv_X8_100 cd_X3_size (S_X3_size_1 _ _ e1) (by decide) (by decide) rfl (by decide) (fun _ _ => ⟨_, rfl⟩) (Nat.le_of_ble_eq_true rfl) ?_
  obtain ⟨q2, e2, h⟩ := bnd_some h
  refine G_callS2r (pc := 8) dX8_looked_8 ws_X8_104 cd_X8_isIn (S_X8_isIn _ _ _ _ e2) (by decide) (by decide) (Nat.le_of_ble_eq_true rfl) ?_
  refine G_if_ne (pc := 11) 17 dX8_looked_11 (by decide) (fun c3 => ?_) (fun c3 => ?_)
  · replace h := itn c3 h
    refine G_aload_n (pc := 17) 0 dX8_looked_17 rfl ?_
    obtain ⟨q4, e4, h⟩ := bnd_some h
    refine G_callV0v (pc := 18) 0 7 dX8_looked_18 wv_X8_195 cd_X8_planAsTold (S_X8_planAsTold _ _ e4) (by decide) (by decide) rfl (by decide) (fun _ _ => ⟨_, rfl⟩) (Nat.le_of_ble_eq_true rfl) ?_
    refine G_iconst (pc := 21) (0) dX8_looked_21 ci_0 ?_
    refine G_istore_n (pc := 22) [(2, .int _), (0, .ref _), (1, .int _)] dX8_looked_22 (Nat.le_of_ble_eq_true rfl) rfl ?_
    refine G_iconst (pc := 23) (0) dX8_looked_23 ci_0 ?_
    refine G_istore_n (pc := 24) [(3, .int _), (2, .int _), (0, .ref _), (1, .int _)] dX8_looked_24 (Nat.le_of_ble_eq_true rfl) rfl ?_
    refine G_loc [2, 3, 1, 0] [(0, .ref _), (1, .int _), (2, .int _), (3, .int _)] rfl ?_
    exact B_X8_looked_25 _ _ _ _ _ _ h
  · replace h := itp c3 h
    refine G_bipush (pc := 14) (-2) dX8_looked_14 bp_m2 ?_
    obtain rfl := Option.some.inj h
    exact G_iret (pc := 16) rfl dX8_looked_16
def F_X8_tastes_80 (K25 : Int32 → Int32 → Int32 → Mm → Option (Int32 × Mm)) (x1 : Int32) (x2 : Int32) (x3 : Int32) (μ : Mm) : Option (Int32 × Mm) := K25 x1 x2 (x3 + 1) μ
set_option maxRecDepth 100000 in
set_option maxHeartbeats 4000000 in
theorem B_X8_tastes_80 (K25 : Int32 → Int32 → Int32 → Mm → Option (Int32 × Mm)) (hK25 : ∀ (x1 : Int32) (x2 : Int32) (x3 : Int32) (μ : Mm) (q : (Int32 × Mm)), K25 x1 x2 x3 μ = some q → G wC RX8 cX8_tastes 4 (some .int) 4 (some (.int q.1)) q.2 25 [(0, .ref 0), (1, .int x1), (2, .int x2), (3, .int x3)] [] μ) (x1 : Int32) (x2 : Int32) (x3 : Int32) (μ : Mm) (q : (Int32 × Mm))  (h : F_X8_tastes_80 K25 x1 x2 x3 μ = some q) : G wC RX8 cX8_tastes 4 (some .int) 4 (some (.int q.1)) q.2 80 [(0, .ref 0), (1, .int x1), (2, .int x2), (3, .int x3)] [] μ := by
  unfold F_X8_tastes_80 at h
  refine G_iinc (pc := 80) (1) 3 [(3, .int _), (0, .ref _), (1, .int _), (2, .int _)] dX8_tastes_80 ci_1 rfl (Nat.le_of_ble_eq_true rfl) rfl ?_
  refine G_goto (pc := 83) 25 dX8_tastes_83 (by decide) ?_
  refine G_loc [1, 2, 3, 0] [(0, .ref _), (1, .int _), (2, .int _), (3, .int _)] rfl ?_
  exact hK25 _ _ _ _ _ h
def L_X8_tastes_25 : Nat → Int32 → Int32 → Int32 → Mm → Option (Int32 × Mm)
  | 0, _, _, _, _ => none
  | n + 1, x1, x2, x3, μ => if 3 ≤ x3 then some (x2, μ) else gi x1 4 ((F_X7_run 12 (wI μ 24 x1.toNatClampNeg x3)).bind (fun q7 => (F_X7_bearsOut (q7.1 20 1) q7).bind (fun q8 => F_X8_tastes_80 (L_X8_tastes_25 n) x1 (if q8.1 = 0 then x2 else (x2 ||| (1 <<< (x3 &&& 31)))) x3 q8.2)))
set_option maxRecDepth 100000 in
set_option maxHeartbeats 4000000 in
theorem L_X8_tastes_25_s (n : Nat) (x1 : Int32) (x2 : Int32) (x3 : Int32) (μ : Mm) : L_X8_tastes_25  (n + 1) x1 x2 x3 μ = (if 3 ≤ x3 then some (x2, μ) else gi x1 4 ((F_X7_run 12 (wI μ 24 x1.toNatClampNeg x3)).bind (fun q7 => (F_X7_bearsOut (q7.1 20 1) q7).bind (fun q8 => F_X8_tastes_80 (L_X8_tastes_25 n) x1 (if q8.1 = 0 then x2 else (x2 ||| (1 <<< (x3 &&& 31)))) x3 q8.2)))) := rfl
set_option maxRecDepth 100000 in
set_option maxHeartbeats 4000000 in
theorem B_X8_tastes_25 : ∀ (n : Nat) (x1 : Int32) (x2 : Int32) (x3 : Int32) (μ : Mm) (q : (Int32 × Mm)), L_X8_tastes_25  n x1 x2 x3 μ = some q → G wC RX8 cX8_tastes 4 (some .int) 4 (some (.int q.1)) q.2 25 [(0, .ref 0), (1, .int x1), (2, .int x2), (3, .int x3)] [] μ := by
  intro n
  induction n with
  | zero =>
    intro x1 x2 x3 μ q  h
    cases h
  | succ n ih =>
    intro x1 x2 x3 μ q  h
    rw [L_X8_tastes_25_s] at h
    refine G_iload_n (pc := 25) 3 dX8_tastes_25 rfl ?_
    refine G_iconst (pc := 26) (3) dX8_tastes_26 ci_3 ?_
    refine G_icmp_ge (pc := 27) 86 dX8_tastes_27 (by decide) (fun c5 => ?_) (fun c5 => ?_)
    · replace h := itp c5 h
      refine G_iload_n (pc := 86) 2 dX8_tastes_86 rfl ?_
      obtain rfl := Option.some.inj h
      exact G_iret (pc := 87) rfl dX8_tastes_87
    · replace h := itn c5 h
      refine G_aload_n (pc := 30) 0 dX8_tastes_30 rfl ?_
      refine gwC_X8_53_0 (pc := 31) dX8_tastes_31 ?_
      refine gwC_X8_212_20 (pc := 34) dX8_tastes_34 ?_
      refine G_iload_n (pc := 37) 1 dX8_tastes_37 rfl ?_
      refine G_iload_n (pc := 38) 3 dX8_tastes_38 rfl ?_
      obtain ⟨g6, h⟩ := gi_some h
      refine aswC_24 (pc := 39) dX8_tastes_39 g6 ?_
      refine G_aload_n (pc := 40) 0 dX8_tastes_40 rfl ?_
      refine gwC_X8_60_0 (pc := 41) dX8_tastes_41 ?_
      refine G_aload_n (pc := 44) 0 dX8_tastes_44 rfl ?_
      refine gwC_X8_53_0 (pc := 45) dX8_tastes_45 ?_
      refine G_bipush (pc := 48) (12) dX8_tastes_48 bp_12 ?_
      obtain ⟨q7, e7, h⟩ := bnd_some h
      refine G_callV2v (pc := 50) 28 6 dX8_tastes_50 wv_X8_201 cd_X7_run (S_X7_run _ _ _ e7) (by decide) (by decide) rfl (by decide) (fun _ _ => ⟨_, rfl⟩) (Nat.le_of_ble_eq_true rfl) ?_
      refine G_aload_n (pc := 53) 0 dX8_tastes_53 rfl ?_
      refine gwC_X8_60_0 (pc := 54) dX8_tastes_54 ?_
      refine G_aload_n (pc := 57) 0 dX8_tastes_57 rfl ?_
      refine gwC_X8_35_0 (pc := 58) dX8_tastes_58 ?_
      refine G_aload_n (pc := 61) 0 dX8_tastes_61 rfl ?_
      refine gwC_X8_53_0 (pc := 62) dX8_tastes_62 ?_
      refine gwC_X8_161_20 (pc := 65) dX8_tastes_65 ?_
      obtain ⟨q8, e8, h⟩ := bnd_some h
      refine G_callV2r (pc := 68) 28 6 dX8_tastes_68 wv_X8_205 cd_X7_bearsOut (S_X7_bearsOut _ _ _ e8) (by decide) (by decide) rfl (by decide) (fun _ _ => ⟨_, rfl⟩) (Nat.le_of_ble_eq_true rfl) ?_
      refine G_if_eq (pc := 71) 80 dX8_tastes_71 (by decide) (fun c9 => ?_) (fun c9 => ?_)
      · rw [if_pos c9] at h
        exact B_X8_tastes_80 _ ih _ _ _ _ _ h
      · rw [if_neg c9] at h
        refine G_iload_n (pc := 74) 2 dX8_tastes_74 rfl ?_
        refine G_iconst (pc := 75) (1) dX8_tastes_75 ci_1 ?_
        refine G_iload_n (pc := 76) 3 dX8_tastes_76 rfl ?_
        refine G_ishl (pc := 77) dX8_tastes_77 ?_
        refine G_ior (pc := 78) dX8_tastes_78 ?_
        refine G_istore_n (pc := 79) [(2, .int _), (0, .ref _), (1, .int _), (3, .int _)] dX8_tastes_79 (Nat.le_of_ble_eq_true rfl) rfl ?_
        refine G_loc [1, 2, 0, 3] [(0, .ref _), (1, .int _), (2, .int _), (3, .int _)] rfl ?_
        exact B_X8_tastes_80 _ ih _ _ _ _ _ h
def F_X8_tastes (x1 : Int32) (μ : Mm) : Option (Int32 × Mm) := (F_X3_size_3 μ).bind (fun q1 => (F_X8_isIn x1 q1.1 q1.2).bind (fun q2 => if q2.1 = 0 then some ((-2), q2.2) else (F_X8_planAsTold q2.2).bind (fun q4 => L_X8_tastes_25 FUEL x1 0 0 q4)))
set_option maxRecDepth 100000 in
set_option maxHeartbeats 4000000 in
theorem S_X8_tastes (x1 : Int32)  (μ : Mm) (q : (Int32 × Mm)) (h : F_X8_tastes x1 μ = some q) : Cn wC yX8_tastes cX8_tastes 4 (some .int) 4 [.ref 0, .int x1] μ (some (.int q.1)) q.2 := by
  refine Cn_of (by decide +kernel) (Nat.le_of_ble_eq_true rfl) ?_
  show G wC RX8 cX8_tastes 4 (some .int) 4 (some (.int q.1)) q.2 0 [(0, .ref 0), (1, .int x1)] [] μ
  unfold F_X8_tastes at h
  refine G_iload_n (pc := 0) 1 dX8_tastes_0 rfl ?_
  refine G_aload_n (pc := 1) 0 dX8_tastes_1 rfl ?_
  refine gwC_X8_18_0 (pc := 2) dX8_tastes_2 ?_
  obtain ⟨q1, e1, h⟩ := bnd_some h
  refine G_callV0r (pc := 5) 3 3 dX8_tastes_5 wv_X8_100 cd_X3_size (S_X3_size_3 _ _ e1) (by decide) (by decide) rfl (by decide) (fun _ _ => ⟨_, rfl⟩) (Nat.le_of_ble_eq_true rfl) ?_
  obtain ⟨q2, e2, h⟩ := bnd_some h
  refine G_callS2r (pc := 8) dX8_tastes_8 ws_X8_104 cd_X8_isIn (S_X8_isIn _ _ _ _ e2) (by decide) (by decide) (Nat.le_of_ble_eq_true rfl) ?_
  refine G_if_ne (pc := 11) 17 dX8_tastes_11 (by decide) (fun c3 => ?_) (fun c3 => ?_)
  · replace h := itn c3 h
    refine G_aload_n (pc := 17) 0 dX8_tastes_17 rfl ?_
    obtain ⟨q4, e4, h⟩ := bnd_some h
    refine G_callV0v (pc := 18) 0 7 dX8_tastes_18 wv_X8_195 cd_X8_planAsTold (S_X8_planAsTold _ _ e4) (by decide) (by decide) rfl (by decide) (fun _ _ => ⟨_, rfl⟩) (Nat.le_of_ble_eq_true rfl) ?_
    refine G_iconst (pc := 21) (0) dX8_tastes_21 ci_0 ?_
    refine G_istore_n (pc := 22) [(2, .int _), (0, .ref _), (1, .int _)] dX8_tastes_22 (Nat.le_of_ble_eq_true rfl) rfl ?_
    refine G_iconst (pc := 23) (0) dX8_tastes_23 ci_0 ?_
    refine G_istore_n (pc := 24) [(3, .int _), (2, .int _), (0, .ref _), (1, .int _)] dX8_tastes_24 (Nat.le_of_ble_eq_true rfl) rfl ?_
    refine G_loc [2, 3, 1, 0] [(0, .ref _), (1, .int _), (2, .int _), (3, .int _)] rfl ?_
    exact B_X8_tastes_25 _ _ _ _ _ _ h
  · replace h := itp c3 h
    refine G_bipush (pc := 14) (-2) dX8_tastes_14 bp_m2 ?_
    obtain rfl := Option.some.inj h
    exact G_iret (pc := 16) rfl dX8_tastes_16
def F_X8_tallyPlaces_116 (K30 : Int32 → Int32 → Mm → Option Mm) (x1 : Int32) (x2 : Int32) (μ : Mm) : Option Mm := K30 x1 (x2 + 1) μ
set_option maxRecDepth 100000 in
set_option maxHeartbeats 4000000 in
theorem B_X8_tallyPlaces_116 (K30 : Int32 → Int32 → Mm → Option Mm) (hK30 : ∀ (x1 : Int32) (x2 : Int32) (μ : Mm) (q : Mm), K30 x1 x2 μ = some q → G wC RX8 cX8_tallyPlaces 4 none 4 none q 30 [(0, .ref 0), (1, .int x1), (2, .int x2)] [] μ) (x1 : Int32) (x2 : Int32) (μ : Mm) (q : Mm)  (h : F_X8_tallyPlaces_116 K30 x1 x2 μ = some q) : G wC RX8 cX8_tallyPlaces 4 none 4 none q 116 [(0, .ref 0), (1, .int x1), (2, .int x2)] [] μ := by
  unfold F_X8_tallyPlaces_116 at h
  refine G_iinc (pc := 116) (1) 2 [(2, .int _), (0, .ref _), (1, .int _)] dX8_tallyPlaces_116 ci_1 rfl (Nat.le_of_ble_eq_true rfl) rfl ?_
  refine G_goto (pc := 119) 30 dX8_tallyPlaces_119 (by decide) ?_
  refine G_loc [1, 2, 0] [(0, .ref _), (1, .int _), (2, .int _)] rfl ?_
  exact hK30 _ _ _ _ h
def L_X8_tallyPlaces_82 (K30 : Int32 → Int32 → Mm → Option Mm) : Nat → Int32 → Int32 → Int32 → Mm → Option Mm
  | 0, _, _, _, _ => none
  | n + 1, x1, x2, x3, μ => if 12 ≤ x3 then F_X8_tallyPlaces_116 K30 x1 x2 μ else (F_X7_placeOf x3 x1 μ).bind (fun q9 => gi ((x3 * 4) + q9.1) 48 (gi ((x3 * 4) + q9.1) 48 (L_X8_tallyPlaces_82 K30 n x1 x2 (x3 + 1) (wI q9.2 36 ((x3 * 4) + q9.1).toNatClampNeg ((q9.2.1 36 ((x3 * 4) + q9.1).toNatClampNeg) + 1)))))
set_option maxRecDepth 100000 in
set_option maxHeartbeats 4000000 in
theorem L_X8_tallyPlaces_82_s (K30 : Int32 → Int32 → Mm → Option Mm) (n : Nat) (x1 : Int32) (x2 : Int32) (x3 : Int32) (μ : Mm) : L_X8_tallyPlaces_82 K30 (n + 1) x1 x2 x3 μ = (if 12 ≤ x3 then F_X8_tallyPlaces_116 K30 x1 x2 μ else (F_X7_placeOf x3 x1 μ).bind (fun q9 => gi ((x3 * 4) + q9.1) 48 (gi ((x3 * 4) + q9.1) 48 (L_X8_tallyPlaces_82 K30 n x1 x2 (x3 + 1) (wI q9.2 36 ((x3 * 4) + q9.1).toNatClampNeg ((q9.2.1 36 ((x3 * 4) + q9.1).toNatClampNeg) + 1)))))) := rfl
set_option maxRecDepth 100000 in
set_option maxHeartbeats 4000000 in
theorem B_X8_tallyPlaces_82 (K30 : Int32 → Int32 → Mm → Option Mm) (hK30 : ∀ (x1 : Int32) (x2 : Int32) (μ : Mm) (q : Mm), K30 x1 x2 μ = some q → G wC RX8 cX8_tallyPlaces 4 none 4 none q 30 [(0, .ref 0), (1, .int x1), (2, .int x2)] [] μ) : ∀ (n : Nat) (x1 : Int32) (x2 : Int32) (x3 : Int32) (μ : Mm) (q : Mm), L_X8_tallyPlaces_82 K30 n x1 x2 x3 μ = some q → G wC RX8 cX8_tallyPlaces 4 none 4 none q 82 [(0, .ref 0), (1, .int x1), (2, .int x2), (3, .int x3)] [] μ := by
  intro n
  induction n with
  | zero =>
    intro x1 x2 x3 μ q  h
    cases h
  | succ n ih =>
    intro x1 x2 x3 μ q  h
    rw [L_X8_tallyPlaces_82_s] at h
    refine G_iload_n (pc := 82) 3 dX8_tallyPlaces_82 rfl ?_
    refine G_bipush (pc := 83) (12) dX8_tallyPlaces_83 bp_12 ?_
    refine G_icmp_ge (pc := 85) 116 dX8_tallyPlaces_85 (by decide) (fun c8 => ?_) (fun c8 => ?_)
    · replace h := itp c8 h
      refine G_loc [0, 1, 2] [(0, .ref _), (1, .int _), (2, .int _)] rfl ?_
      exact B_X8_tallyPlaces_116 _ hK30 _ _ _ _ h
    · replace h := itn c8 h
      refine G_aload_n (pc := 88) 0 dX8_tallyPlaces_88 rfl ?_
      refine gwC_X8_75_0 (pc := 89) dX8_tallyPlaces_89 ?_
      refine G_iload_n (pc := 92) 3 dX8_tallyPlaces_92 rfl ?_
      refine G_iconst (pc := 93) (4) dX8_tallyPlaces_93 ci_4 ?_
      refine G_imul (pc := 94) dX8_tallyPlaces_94 ?_
      refine G_aload_n (pc := 95) 0 dX8_tallyPlaces_95 rfl ?_
      refine gwC_X8_60_0 (pc := 96) dX8_tallyPlaces_96 ?_
      refine G_iload_n (pc := 99) 3 dX8_tallyPlaces_99 rfl ?_
      refine G_iload_n (pc := 100) 1 dX8_tallyPlaces_100 rfl ?_
      obtain ⟨q9, e9, h⟩ := bnd_some h
      refine G_callV2r (pc := 101) 28 6 dX8_tallyPlaces_101 wv_X8_352 cd_X7_placeOf (S_X7_placeOf _ _ _ _ e9) (by decide) (by decide) rfl (by decide) (fun _ _ => ⟨_, rfl⟩) (Nat.le_of_ble_eq_true rfl) ?_
      refine G_iadd (pc := 104) dX8_tallyPlaces_104 ?_
      refine G_dup2 (pc := 105) dX8_tallyPlaces_105 rfl rfl ?_
      obtain ⟨g10, h⟩ := gi_some h
      refine alwC_36 (pc := 106) dX8_tallyPlaces_106 g10 ?_
      refine G_iconst (pc := 107) (1) dX8_tallyPlaces_107 ci_1 ?_
      refine G_iadd (pc := 108) dX8_tallyPlaces_108 ?_
      obtain ⟨g11, h⟩ := gi_some h
      refine aswC_36 (pc := 109) dX8_tallyPlaces_109 g11 ?_
      refine G_iinc (pc := 110) (1) 3 [(3, .int _), (0, .ref _), (1, .int _), (2, .int _)] dX8_tallyPlaces_110 ci_1 rfl (Nat.le_of_ble_eq_true rfl) rfl ?_
      refine G_goto (pc := 113) 82 dX8_tallyPlaces_113 (by decide) ?_
      refine G_loc [1, 2, 3, 0] [(0, .ref _), (1, .int _), (2, .int _), (3, .int _)] rfl ?_
      exact ih _ _ _ _ _ h
def L_X8_tallyPlaces_30 : Nat → Int32 → Int32 → Mm → Option Mm
  | 0, _, _, _ => none
  | n + 1, x1, x2, μ => if 9 < x2 then some μ else gi x1 10 ((F_X7_run 12 (wI μ 22 x1.toNatClampNeg x2)).bind (fun q5 => (F_X7_bearsOut (q5.1 20 1) q5).bind (fun q6 => if q6.1 = 0 then F_X8_tallyPlaces_116 (L_X8_tallyPlaces_30 n) x1 x2 q6.2 else L_X8_tallyPlaces_82 (L_X8_tallyPlaces_30 n) FUEL x1 x2 0 q6.2)))
set_option maxRecDepth 100000 in
set_option maxHeartbeats 4000000 in
theorem L_X8_tallyPlaces_30_s (n : Nat) (x1 : Int32) (x2 : Int32) (μ : Mm) : L_X8_tallyPlaces_30  (n + 1) x1 x2 μ = (if 9 < x2 then some μ else gi x1 10 ((F_X7_run 12 (wI μ 22 x1.toNatClampNeg x2)).bind (fun q5 => (F_X7_bearsOut (q5.1 20 1) q5).bind (fun q6 => if q6.1 = 0 then F_X8_tallyPlaces_116 (L_X8_tallyPlaces_30 n) x1 x2 q6.2 else L_X8_tallyPlaces_82 (L_X8_tallyPlaces_30 n) FUEL x1 x2 0 q6.2)))) := rfl
set_option maxRecDepth 100000 in
set_option maxHeartbeats 4000000 in
theorem B_X8_tallyPlaces_30 : ∀ (n : Nat) (x1 : Int32) (x2 : Int32) (μ : Mm) (q : Mm), L_X8_tallyPlaces_30  n x1 x2 μ = some q → G wC RX8 cX8_tallyPlaces 4 none 4 none q 30 [(0, .ref 0), (1, .int x1), (2, .int x2)] [] μ := by
  intro n
  induction n with
  | zero =>
    intro x1 x2 μ q  h
    cases h
  | succ n ih =>
    intro x1 x2 μ q  h
    rw [L_X8_tallyPlaces_30_s] at h
    refine G_iload_n (pc := 30) 2 dX8_tallyPlaces_30 rfl ?_
    refine G_bipush (pc := 31) (9) dX8_tallyPlaces_31 bp_9 ?_
    refine G_icmp_gt (pc := 33) 122 dX8_tallyPlaces_33 (by decide) (fun c3 => ?_) (fun c3 => ?_)
    · replace h := itp c3 h
      obtain rfl := Option.some.inj h
      exact G_vret (pc := 122) rfl dX8_tallyPlaces_122
    · replace h := itn c3 h
      refine G_aload_n (pc := 36) 0 dX8_tallyPlaces_36 rfl ?_
      refine gwC_X8_53_0 (pc := 37) dX8_tallyPlaces_37 ?_
      refine gwC_X8_209_20 (pc := 40) dX8_tallyPlaces_40 ?_
      refine G_iload_n (pc := 43) 1 dX8_tallyPlaces_43 rfl ?_
      refine G_iload_n (pc := 44) 2 dX8_tallyPlaces_44 rfl ?_
      obtain ⟨g4, h⟩ := gi_some h
      refine aswC_22 (pc := 45) dX8_tallyPlaces_45 g4 ?_
      refine G_aload_n (pc := 46) 0 dX8_tallyPlaces_46 rfl ?_
      refine gwC_X8_60_0 (pc := 47) dX8_tallyPlaces_47 ?_
      refine G_aload_n (pc := 50) 0 dX8_tallyPlaces_50 rfl ?_
      refine gwC_X8_53_0 (pc := 51) dX8_tallyPlaces_51 ?_
      refine G_bipush (pc := 54) (12) dX8_tallyPlaces_54 bp_12 ?_
      obtain ⟨q5, e5, h⟩ := bnd_some h
      refine G_callV2v (pc := 56) 28 6 dX8_tallyPlaces_56 wv_X8_201 cd_X7_run (S_X7_run _ _ _ e5) (by decide) (by decide) rfl (by decide) (fun _ _ => ⟨_, rfl⟩) (Nat.le_of_ble_eq_true rfl) ?_
      refine G_aload_n (pc := 59) 0 dX8_tallyPlaces_59 rfl ?_
      refine gwC_X8_60_0 (pc := 60) dX8_tallyPlaces_60 ?_
      refine G_aload_n (pc := 63) 0 dX8_tallyPlaces_63 rfl ?_
      refine gwC_X8_35_0 (pc := 64) dX8_tallyPlaces_64 ?_
      refine G_aload_n (pc := 67) 0 dX8_tallyPlaces_67 rfl ?_
      refine gwC_X8_53_0 (pc := 68) dX8_tallyPlaces_68 ?_
      refine gwC_X8_161_20 (pc := 71) dX8_tallyPlaces_71 ?_
      obtain ⟨q6, e6, h⟩ := bnd_some h
      refine G_callV2r (pc := 74) 28 6 dX8_tallyPlaces_74 wv_X8_205 cd_X7_bearsOut (S_X7_bearsOut _ _ _ e6) (by decide) (by decide) rfl (by decide) (fun _ _ => ⟨_, rfl⟩) (Nat.le_of_ble_eq_true rfl) ?_
      refine G_if_eq (pc := 77) 116 dX8_tallyPlaces_77 (by decide) (fun c7 => ?_) (fun c7 => ?_)
      · replace h := itp c7 h
        exact B_X8_tallyPlaces_116 _ ih _ _ _ _ h
      · replace h := itn c7 h
        refine G_iconst (pc := 80) (0) dX8_tallyPlaces_80 ci_0 ?_
        refine G_istore_n (pc := 81) [(3, .int _), (0, .ref _), (1, .int _), (2, .int _)] dX8_tallyPlaces_81 (Nat.le_of_ble_eq_true rfl) rfl ?_
        refine G_loc [1, 2, 3, 0] [(0, .ref _), (1, .int _), (2, .int _), (3, .int _)] rfl ?_
        exact B_X8_tallyPlaces_82 _ ih _ _ _ _ _ _ h
def L_X8_tallyPlaces_6 : Nat → Int32 → Int32 → Mm → Option Mm
  | 0, _, _, _ => none
  | n + 1, x1, x2, μ => if 48 ≤ x2 then L_X8_tallyPlaces_30 FUEL x1 0 μ else gi x2 48 (L_X8_tallyPlaces_6 n x1 (x2 + 1) (wI μ 36 x2.toNatClampNeg 0))
set_option maxRecDepth 100000 in
set_option maxHeartbeats 4000000 in
theorem L_X8_tallyPlaces_6_s (n : Nat) (x1 : Int32) (x2 : Int32) (μ : Mm) : L_X8_tallyPlaces_6  (n + 1) x1 x2 μ = (if 48 ≤ x2 then L_X8_tallyPlaces_30 FUEL x1 0 μ else gi x2 48 (L_X8_tallyPlaces_6 n x1 (x2 + 1) (wI μ 36 x2.toNatClampNeg 0))) := rfl
set_option maxRecDepth 100000 in
set_option maxHeartbeats 4000000 in
theorem B_X8_tallyPlaces_6 : ∀ (n : Nat) (x1 : Int32) (x2 : Int32) (μ : Mm) (q : Mm), L_X8_tallyPlaces_6  n x1 x2 μ = some q → G wC RX8 cX8_tallyPlaces 4 none 4 none q 6 [(0, .ref 0), (1, .int x1), (2, .int x2)] [] μ := by
  intro n
  induction n with
  | zero =>
    intro x1 x2 μ q  h
    cases h
  | succ n ih =>
    intro x1 x2 μ q  h
    rw [L_X8_tallyPlaces_6_s] at h
    refine G_iload_n (pc := 6) 2 dX8_tallyPlaces_6 rfl ?_
    refine G_aload_n (pc := 7) 0 dX8_tallyPlaces_7 rfl ?_
    refine gwC_X8_75_0 (pc := 8) dX8_tallyPlaces_8 ?_
    refine G_alen (pc := 11) 36 0 .int _ (48) dX8_tallyPlaces_11 (by decide) (fun _ _ => rfl) (fun _ => rfl) rfl ?_
    refine G_icmp_ge (pc := 12) 28 dX8_tallyPlaces_12 (by decide) (fun c2 => ?_) (fun c2 => ?_)
    · replace h := itp c2 h
      refine G_iconst (pc := 28) (0) dX8_tallyPlaces_28 ci_0 ?_
      refine G_istore_n (pc := 29) [(2, .int _), (0, .ref _), (1, .int _)] dX8_tallyPlaces_29 (Nat.le_of_ble_eq_true rfl) rfl ?_
      refine G_loc [1, 2, 0] [(0, .ref _), (1, .int _), (2, .int _)] rfl ?_
      exact B_X8_tallyPlaces_30 _ _ _ _ _ h
    · replace h := itn c2 h
      refine G_aload_n (pc := 15) 0 dX8_tallyPlaces_15 rfl ?_
      refine gwC_X8_75_0 (pc := 16) dX8_tallyPlaces_16 ?_
      refine G_iload_n (pc := 19) 2 dX8_tallyPlaces_19 rfl ?_
      refine G_iconst (pc := 20) (0) dX8_tallyPlaces_20 ci_0 ?_
      obtain ⟨g12, h⟩ := gi_some h
      refine aswC_36 (pc := 21) dX8_tallyPlaces_21 g12 ?_
      refine G_iinc (pc := 22) (1) 2 [(2, .int _), (0, .ref _), (1, .int _)] dX8_tallyPlaces_22 ci_1 rfl (Nat.le_of_ble_eq_true rfl) rfl ?_
      refine G_goto (pc := 25) 6 dX8_tallyPlaces_25 (by decide) ?_
      refine G_loc [1, 2, 0] [(0, .ref _), (1, .int _), (2, .int _)] rfl ?_
      exact ih _ _ _ _ h
def F_X8_tallyPlaces (x1 : Int32) (μ : Mm) : Option Mm := (F_X8_planAsTold μ).bind (fun q1 => L_X8_tallyPlaces_6 FUEL x1 0 q1)
set_option maxRecDepth 100000 in
set_option maxHeartbeats 4000000 in
theorem S_X8_tallyPlaces (x1 : Int32)  (μ : Mm) (q : Mm) (h : F_X8_tallyPlaces x1 μ = some q) : Cn wC yX8_tallyPlaces cX8_tallyPlaces 4 none 4 [.ref 0, .int x1] μ none q := by
  refine Cn_of (by decide +kernel) (Nat.le_of_ble_eq_true rfl) ?_
  show G wC RX8 cX8_tallyPlaces 4 none 4 none q 0 [(0, .ref 0), (1, .int x1)] [] μ
  unfold F_X8_tallyPlaces at h
  refine G_aload_n (pc := 0) 0 dX8_tallyPlaces_0 rfl ?_
  obtain ⟨q1, e1, h⟩ := bnd_some h
  refine G_callV0v (pc := 1) 0 7 dX8_tallyPlaces_1 wv_X8_195 cd_X8_planAsTold (S_X8_planAsTold _ _ e1) (by decide) (by decide) rfl (by decide) (fun _ _ => ⟨_, rfl⟩) (Nat.le_of_ble_eq_true rfl) ?_
  refine G_iconst (pc := 4) (0) dX8_tallyPlaces_4 ci_0 ?_
  refine G_istore_n (pc := 5) [(2, .int _), (0, .ref _), (1, .int _)] dX8_tallyPlaces_5 (Nat.le_of_ble_eq_true rfl) rfl ?_
  refine G_loc [1, 2, 0] [(0, .ref _), (1, .int _), (2, .int _)] rfl ?_
  exact B_X8_tallyPlaces_6 _ _ _ _ _ h
def L_X8_greatestTally_4 : Nat → Int32 → Int32 → Int32 → Mm → Option (Int32 × Mm)
  | 0, _, _, _, _ => none
  | n + 1, x1, x2, x3, μ => if 3 < x3 then some (x2, μ) else gi ((x1 * 4) + x3) 48 ((F_J9_max_7cf53 x2 (μ.1 36 ((x1 * 4) + x3).toNatClampNeg) μ).bind (fun q3 => L_X8_greatestTally_4 n x1 q3.1 (x3 + 1) q3.2))
set_option maxRecDepth 100000 in
set_option maxHeartbeats 4000000 in
theorem L_X8_greatestTally_4_s (n : Nat) (x1 : Int32) (x2 : Int32) (x3 : Int32) (μ : Mm) : L_X8_greatestTally_4  (n + 1) x1 x2 x3 μ = (if 3 < x3 then some (x2, μ) else gi ((x1 * 4) + x3) 48 ((F_J9_max_7cf53 x2 (μ.1 36 ((x1 * 4) + x3).toNatClampNeg) μ).bind (fun q3 => L_X8_greatestTally_4 n x1 q3.1 (x3 + 1) q3.2))) := rfl
set_option maxRecDepth 100000 in
set_option maxHeartbeats 4000000 in
theorem B_X8_greatestTally_4 : ∀ (n : Nat) (x1 : Int32) (x2 : Int32) (x3 : Int32) (μ : Mm) (q : (Int32 × Mm)), L_X8_greatestTally_4  n x1 x2 x3 μ = some q → G wC RX8 cX8_greatestTally 4 (some .int) 1 (some (.int q.1)) q.2 4 [(0, .ref 0), (1, .int x1), (2, .int x2), (3, .int x3)] [] μ := by
  intro n
  induction n with
  | zero =>
    intro x1 x2 x3 μ q  h
    cases h
  | succ n ih =>
    intro x1 x2 x3 μ q  h
    rw [L_X8_greatestTally_4_s] at h
    refine G_iload_n (pc := 4) 3 dX8_greatestTally_4 rfl ?_
    refine G_iconst (pc := 5) (3) dX8_greatestTally_5 ci_3 ?_
    refine G_icmp_gt (pc := 6) 30 dX8_greatestTally_6 (by decide) (fun c1 => ?_) (fun c1 => ?_)
    · replace h := itp c1 h
      refine G_iload_n (pc := 30) 2 dX8_greatestTally_30 rfl ?_
      obtain rfl := Option.some.inj h
      exact G_iret (pc := 31) rfl dX8_greatestTally_31
    · replace h := itn c1 h
      refine G_iload_n (pc := 9) 2 dX8_greatestTally_9 rfl ?_
      refine G_aload_n (pc := 10) 0 dX8_greatestTally_10 rfl ?_
      refine gwC_X8_75_0 (pc := 11) dX8_greatestTally_11 ?_
      refine G_iload_n (pc := 14) 1 dX8_greatestTally_14 rfl ?_
      refine G_iconst (pc := 15) (4) dX8_greatestTally_15 ci_4 ?_
      refine G_imul (pc := 16) dX8_greatestTally_16 ?_
      refine G_iload_n (pc := 17) 3 dX8_greatestTally_17 rfl ?_
      refine G_iadd (pc := 18) dX8_greatestTally_18 ?_
      obtain ⟨g2, h⟩ := gi_some h
      refine alwC_36 (pc := 19) dX8_greatestTally_19 g2 ?_
      obtain ⟨q3, e3, h⟩ := bnd_some h
      refine G_callS2r (pc := 20) dX8_greatestTally_20 ws_X8_355 cd_J9_max_7cf53 (S_J9_max_7cf53 _ _ _ _ e3) (by decide) (by decide) (Nat.le_of_ble_eq_true rfl) ?_
      refine G_istore_n (pc := 23) [(2, .int _), (0, .ref _), (1, .int _), (3, .int _)] dX8_greatestTally_23 (Nat.le_of_ble_eq_true rfl) rfl ?_
      refine G_iinc (pc := 24) (1) 3 [(3, .int _), (2, .int _), (0, .ref _), (1, .int _)] dX8_greatestTally_24 ci_1 rfl (Nat.le_of_ble_eq_true rfl) rfl ?_
      refine G_goto (pc := 27) 4 dX8_greatestTally_27 (by decide) ?_
      refine G_loc [2, 3, 1, 0] [(0, .ref _), (1, .int _), (2, .int _), (3, .int _)] rfl ?_
      exact ih _ _ _ _ _ h
def F_X8_greatestTally (x1 : Int32) (μ : Mm) : Option (Int32 × Mm) := L_X8_greatestTally_4 FUEL x1 0 0 μ
set_option maxRecDepth 100000 in
set_option maxHeartbeats 4000000 in
theorem S_X8_greatestTally (x1 : Int32)  (μ : Mm) (q : (Int32 × Mm)) (h : F_X8_greatestTally x1 μ = some q) : Cn wC yX8_greatestTally cX8_greatestTally 4 (some .int) 1 [.ref 0, .int x1] μ (some (.int q.1)) q.2 := by
  refine Cn_of (by decide +kernel) (Nat.le_of_ble_eq_true rfl) ?_
  show G wC RX8 cX8_greatestTally 4 (some .int) 1 (some (.int q.1)) q.2 0 [(0, .ref 0), (1, .int x1)] [] μ
  unfold F_X8_greatestTally at h
  refine G_iconst (pc := 0) (0) dX8_greatestTally_0 ci_0 ?_
  refine G_istore_n (pc := 1) [(2, .int _), (0, .ref _), (1, .int _)] dX8_greatestTally_1 (Nat.le_of_ble_eq_true rfl) rfl ?_
  refine G_iconst (pc := 2) (0) dX8_greatestTally_2 ci_0 ?_
  refine G_istore_n (pc := 3) [(3, .int _), (2, .int _), (0, .ref _), (1, .int _)] dX8_greatestTally_3 (Nat.le_of_ble_eq_true rfl) rfl ?_
  refine G_loc [2, 3, 1, 0] [(0, .ref _), (1, .int _), (2, .int _), (3, .int _)] rfl ?_
  exact B_X8_greatestTally_4 _ _ _ _ _ _ h
def L_X8_ask_31 : Nat → Int32 → Mm → Option (Int32 × Mm)
  | 0, _, _ => none
  | n + 1, x2, μ => if 12 ≤ x2 then some ((μ.1 34 0), μ) else (F_X8_greatestTally x2 μ).bind (fun q7 => (F_X0_offer x2 (-q7.1) q7.2).bind (fun q8 => L_X8_ask_31 n (x2 + 1) q8))
set_option maxRecDepth 100000 in
set_option maxHeartbeats 4000000 in
theorem L_X8_ask_31_s (n : Nat) (x2 : Int32) (μ : Mm) : L_X8_ask_31  (n + 1) x2 μ = (if 12 ≤ x2 then some ((μ.1 34 0), μ) else (F_X8_greatestTally x2 μ).bind (fun q7 => (F_X0_offer x2 (-q7.1) q7.2).bind (fun q8 => L_X8_ask_31 n (x2 + 1) q8))) := rfl
set_option maxRecDepth 100000 in
set_option maxHeartbeats 4000000 in
theorem B_X8_ask_31 : ∀ (n : Nat) (x2 : Int32) (μ : Mm) (q : (Int32 × Mm)), L_X8_ask_31  n x2 μ = some q → G wC RX8 cX8_ask 3 (some .int) 5 (some (.int q.1)) q.2 31 [(0, .ref 0), (2, .int x2)] [] μ := by
  intro n
  induction n with
  | zero =>
    intro x2 μ q  h
    cases h
  | succ n ih =>
    intro x2 μ q  h
    rw [L_X8_ask_31_s] at h
    refine G_iload_n (pc := 31) 1 dX8_ask_31 rfl ?_
    refine G_bipush (pc := 32) (12) dX8_ask_32 bp_12 ?_
    refine G_icmp_ge (pc := 34) 57 dX8_ask_34 (by decide) (fun c6 => ?_) (fun c6 => ?_)
    · replace h := itp c6 h
      refine G_aload_n (pc := 57) 0 dX8_ask_57 rfl ?_
      refine gwC_X8_67_0 (pc := 58) dX8_ask_58 ?_
      refine gwC_X8_158_34 (pc := 61) dX8_ask_61 ?_
      obtain rfl := Option.some.inj h
      exact G_iret (pc := 64) rfl dX8_ask_64
    · replace h := itn c6 h
      refine G_aload_n (pc := 37) 0 dX8_ask_37 rfl ?_
      refine gwC_X8_67_0 (pc := 38) dX8_ask_38 ?_
      refine G_iload_n (pc := 41) 1 dX8_ask_41 rfl ?_
      refine G_aload_n (pc := 42) 0 dX8_ask_42 rfl ?_
      refine G_iload_n (pc := 43) 1 dX8_ask_43 rfl ?_
      obtain ⟨q7, e7, h⟩ := bnd_some h
      refine G_callV1r (pc := 44) 0 7 dX8_ask_44 wv_X8_218 cd_X8_greatestTally (S_X8_greatestTally _ _ _ e7) (by decide) (by decide) rfl (by decide) (fun _ _ => ⟨_, rfl⟩) (Nat.le_of_ble_eq_true rfl) ?_
      refine G_ineg (pc := 47) dX8_ask_47 ?_
      obtain ⟨q8, e8, h⟩ := bnd_some h
      refine G_callV2v (pc := 48) 34 0 dX8_ask_48 wv_X8_155 cd_X0_offer (S_X0_offer _ _ _ _ e8) (by decide) (by decide) rfl (by decide) (fun _ _ => ⟨_, rfl⟩) (Nat.le_of_ble_eq_true rfl) ?_
      refine G_iinc (pc := 51) (1) 1 [(2, .int _), (0, .ref _)] dX8_ask_51 ci_1 rfl (Nat.le_of_ble_eq_true rfl) rfl ?_
      refine G_goto (pc := 54) 31 dX8_ask_54 (by decide) ?_
      refine G_loc [1, 0] [(0, .ref _), (2, .int _)] rfl ?_
      exact ih _ _ _ h
def F_X8_ask (x1 : Int32) (μ : Mm) : Option (Int32 × Mm) := (F_X3_size_1 μ).bind (fun q1 => (F_X8_isIn x1 q1.1 q1.2).bind (fun q2 => if q2.1 = 0 then some ((-2), q2.2) else (F_X8_tallyPlaces x1 q2.2).bind (fun q4 => (F_X0_clear q4).bind (fun q5 => L_X8_ask_31 FUEL 0 q5))))
set_option maxRecDepth 100000 in
set_option maxHeartbeats 4000000 in
theorem S_X8_ask (x1 : Int32)  (μ : Mm) (q : (Int32 × Mm)) (h : F_X8_ask x1 μ = some q) : Cn wC yX8_ask cX8_ask 3 (some .int) 5 [.ref 0, .int x1] μ (some (.int q.1)) q.2 := by
  refine Cn_of (by decide +kernel) (Nat.le_of_ble_eq_true rfl) ?_
  show G wC RX8 cX8_ask 3 (some .int) 5 (some (.int q.1)) q.2 0 [(0, .ref 0), (1, .int x1)] [] μ
  unfold F_X8_ask at h
  refine G_iload_n (pc := 0) 1 dX8_ask_0 rfl ?_
  refine G_aload_n (pc := 1) 0 dX8_ask_1 rfl ?_
  refine gwC_X8_14_0 (pc := 2) dX8_ask_2 ?_
  obtain ⟨q1, e1, h⟩ := bnd_some h
  refine G_callV0r (pc := 5) 1 3 dX8_ask_5 wv_X8_100 cd_X3_size (S_X3_size_1 _ _ e1) (by decide) (by decide) rfl (by decide) (fun _ _ => ⟨_, rfl⟩) (Nat.le_of_ble_eq_true rfl) ?_
  obtain ⟨q2, e2, h⟩ := bnd_some h
  refine G_callS2r (pc := 8) dX8_ask_8 ws_X8_104 cd_X8_isIn (S_X8_isIn _ _ _ _ e2) (by decide) (by decide) (Nat.le_of_ble_eq_true rfl) ?_
  refine G_if_ne (pc := 11) 17 dX8_ask_11 (by decide) (fun c3 => ?_) (fun c3 => ?_)
  · replace h := itn c3 h
    refine G_aload_n (pc := 17) 0 dX8_ask_17 rfl ?_
    refine G_iload_n (pc := 18) 1 dX8_ask_18 rfl ?_
    obtain ⟨q4, e4, h⟩ := bnd_some h
    refine G_callV1v (pc := 19) 0 7 dX8_ask_19 wv_X8_215 cd_X8_tallyPlaces (S_X8_tallyPlaces _ _ _ e4) (by decide) (by decide) rfl (by decide) (fun _ _ => ⟨_, rfl⟩) (Nat.le_of_ble_eq_true rfl) ?_
    refine G_aload_n (pc := 22) 0 dX8_ask_22 rfl ?_
    refine gwC_X8_67_0 (pc := 23) dX8_ask_23 ?_
    obtain ⟨q5, e5, h⟩ := bnd_some h
    refine G_callV0v (pc := 26) 34 0 dX8_ask_26 wv_X8_152 cd_X0_clear (S_X0_clear _ _ e5) (by decide) (by decide) rfl (by decide) (fun _ _ => ⟨_, rfl⟩) (Nat.le_of_ble_eq_true rfl) ?_
    refine G_iconst (pc := 29) (0) dX8_ask_29 ci_0 ?_
    refine G_istore_n (pc := 30) [(2, .int _), (0, .ref _), (1, .int _)] dX8_ask_30 (Nat.le_of_ble_eq_true rfl) rfl ?_
    refine G_loc [1, 0] [(0, .ref _), (2, .int _)] rfl ?_
    exact B_X8_ask_31 _ _ _ _ h
  · replace h := itp c3 h
    refine G_bipush (pc := 14) (-2) dX8_ask_14 bp_m2 ?_
    obtain rfl := Option.some.inj h
    exact G_iret (pc := 16) rfl dX8_ask_16
def F_X8_weightWithout_37 (K5 : Int32 → Int32 → Int64 → Int32 → Mm → Option (Int64 × Mm)) (x1 : Int32) (x2 : Int32) (x5 : Int32) (y0 : Int64) (y1 : Int64) (μ : Mm) : Option (Int64 × Mm) := K5 x1 x2 (y1 * y0) (x5 + 1) μ
set_option maxRecDepth 100000 in
set_option maxHeartbeats 4000000 in
theorem B_X8_weightWithout_37 (K5 : Int32 → Int32 → Int64 → Int32 → Mm → Option (Int64 × Mm)) (hK5 : ∀ (x1 : Int32) (x2 : Int32) (x3 : Int64) (x5 : Int32) (μ : Mm) (q : (Int64 × Mm)), K5 x1 x2 x3 x5 μ = some q → G wC RX8 cX8_weightWithout 6 (some .long) 0 (some (.long q.1)) q.2 5 [(0, .ref 0), (1, .int x1), (2, .int x2), (3, .long x3), (5, .int x5)] [] μ) (x1 : Int32) (x2 : Int32) (x5 : Int32) (y0 : Int64) (y1 : Int64) (μ : Mm) (q : (Int64 × Mm))  (h : F_X8_weightWithout_37 K5 x1 x2 x5 y0 y1 μ = some q) : G wC RX8 cX8_weightWithout 6 (some .long) 0 (some (.long q.1)) q.2 37 [(0, .ref 0), (1, .int x1), (2, .int x2), (5, .int x5)] [.long y0, .long y1] μ := by
  unfold F_X8_weightWithout_37 at h
  refine G_lmul (pc := 37) dX8_weightWithout_37 ?_
  refine G_lstore_n (pc := 38) [(3, .long _), (0, .ref _), (1, .int _), (2, .int _), (5, .int _)] dX8_weightWithout_38 (Nat.le_of_ble_eq_true rfl) rfl ?_
  refine G_iinc (pc := 39) (1) 4 [(5, .int _), (3, .long _), (0, .ref _), (1, .int _), (2, .int _)] dX8_weightWithout_39 ci_1 rfl (Nat.le_of_ble_eq_true rfl) rfl ?_
  refine G_goto (pc := 42) 5 dX8_weightWithout_42 (by decide) ?_
  refine G_loc [2, 3, 4, 1, 0] [(0, .ref _), (1, .int _), (2, .int _), (3, .long _), (5, .int _)] rfl ?_
  exact hK5 _ _ _ _ _ _ h
def L_X8_weightWithout_5 : Nat → Int32 → Int32 → Int64 → Int32 → Mm → Option (Int64 × Mm)
  | 0, _, _, _, _, _ => none
  | n + 1, x1, x2, x3, x5, μ => if (μ.1 7 1) ≤ x5 then some (x3, μ) else F_X8_weightWithout_37 (L_X8_weightWithout_5 n) x1 x2 x5 (if ((x1 >>> (x5 &&& 31)) &&& 1) = 0 then x2.toInt64 else (16 - x2).toInt64) x3 μ
set_option maxRecDepth 100000 in
set_option maxHeartbeats 4000000 in
theorem L_X8_weightWithout_5_s (n : Nat) (x1 : Int32) (x2 : Int32) (x3 : Int64) (x5 : Int32) (μ : Mm) : L_X8_weightWithout_5  (n + 1) x1 x2 x3 x5 μ = (if (μ.1 7 1) ≤ x5 then some (x3, μ) else F_X8_weightWithout_37 (L_X8_weightWithout_5 n) x1 x2 x5 (if ((x1 >>> (x5 &&& 31)) &&& 1) = 0 then x2.toInt64 else (16 - x2).toInt64) x3 μ) := rfl
set_option maxRecDepth 100000 in
set_option maxHeartbeats 4000000 in
theorem B_X8_weightWithout_5 : ∀ (n : Nat) (x1 : Int32) (x2 : Int32) (x3 : Int64) (x5 : Int32) (μ : Mm) (q : (Int64 × Mm)), L_X8_weightWithout_5  n x1 x2 x3 x5 μ = some q → G wC RX8 cX8_weightWithout 6 (some .long) 0 (some (.long q.1)) q.2 5 [(0, .ref 0), (1, .int x1), (2, .int x2), (3, .long x3), (5, .int x5)] [] μ := by
  intro n
  induction n with
  | zero =>
    intro x1 x2 x3 x5 μ q  h
    cases h
  | succ n ih =>
    intro x1 x2 x3 x5 μ q  h
    rw [L_X8_weightWithout_5_s] at h
    refine G_iload (pc := 5) 4 dX8_weightWithout_5 rfl ?_
    refine G_aload_n (pc := 7) 0 dX8_weightWithout_7 rfl ?_
    refine gwC_X8_31_0 (pc := 8) dX8_weightWithout_8 ?_
    refine gwC_X8_119_7 (pc := 11) dX8_weightWithout_11 ?_
    refine G_icmp_ge (pc := 14) 45 dX8_weightWithout_14 (by decide) (fun c1 => ?_) (fun c1 => ?_)
    · replace h := itp c1 h
      refine G_lload_n (pc := 45) 3 dX8_weightWithout_45 rfl ?_
      obtain rfl := Option.some.inj h
      exact G_lret (pc := 46) rfl dX8_weightWithout_46
    · replace h := itn c1 h
      refine G_lload_n (pc := 17) 3 dX8_weightWithout_17 rfl ?_
      refine G_iload_n (pc := 18) 1 dX8_weightWithout_18 rfl ?_
      refine G_iload (pc := 19) 4 dX8_weightWithout_19 rfl ?_
      refine G_ishr (pc := 21) dX8_weightWithout_21 ?_
      refine G_iconst (pc := 22) (1) dX8_weightWithout_22 ci_1 ?_
      refine G_iand (pc := 23) dX8_weightWithout_23 ?_
      refine G_if_ne (pc := 24) 32 dX8_weightWithout_24 (by decide) (fun c2 => ?_) (fun c2 => ?_)
      · rw [if_neg c2] at h
        refine G_bipush (pc := 32) (16) dX8_weightWithout_32 bp_16 ?_
        refine G_iload_n (pc := 34) 2 dX8_weightWithout_34 rfl ?_
        refine G_isub (pc := 35) dX8_weightWithout_35 ?_
        refine G_i2l (pc := 36) dX8_weightWithout_36 ?_
        refine G_loc [0, 1, 2, 4] [(0, .ref _), (1, .int _), (2, .int _), (5, .int _)] rfl ?_
        exact B_X8_weightWithout_37 _ ih _ _ _ _ _ _ _ h
      · rw [if_pos c2] at h
        refine G_iload_n (pc := 27) 2 dX8_weightWithout_27 rfl ?_
        refine G_i2l (pc := 28) dX8_weightWithout_28 ?_
        refine G_goto (pc := 29) 37 dX8_weightWithout_29 (by decide) ?_
        refine G_loc [0, 1, 2, 4] [(0, .ref _), (1, .int _), (2, .int _), (5, .int _)] rfl ?_
        exact B_X8_weightWithout_37 _ ih _ _ _ _ _ _ _ h
def F_X8_weightWithout (x1 : Int32) (x2 : Int32) (μ : Mm) : Option (Int64 × Mm) := L_X8_weightWithout_5 FUEL x1 x2 1 0 μ
set_option maxRecDepth 100000 in
set_option maxHeartbeats 4000000 in
theorem S_X8_weightWithout (x1 : Int32) (x2 : Int32)  (μ : Mm) (q : (Int64 × Mm)) (h : F_X8_weightWithout x1 x2 μ = some q) : Cn wC yX8_weightWithout cX8_weightWithout 6 (some .long) 0 [.ref 0, .int x1, .int x2] μ (some (.long q.1)) q.2 := by
  refine Cn_of (by decide +kernel) (Nat.le_of_ble_eq_true rfl) ?_
  show G wC RX8 cX8_weightWithout 6 (some .long) 0 (some (.long q.1)) q.2 0 [(0, .ref 0), (1, .int x1), (2, .int x2)] [] μ
  unfold F_X8_weightWithout at h
  refine G_lconst (pc := 0) (1) dX8_weightWithout_0 lc_1 ?_
  refine G_lstore_n (pc := 1) [(3, .long _), (0, .ref _), (1, .int _), (2, .int _)] dX8_weightWithout_1 (Nat.le_of_ble_eq_true rfl) rfl ?_
  refine G_iconst (pc := 2) (0) dX8_weightWithout_2 ci_0 ?_
  refine G_istore (pc := 3) [(5, .int _), (3, .long _), (0, .ref _), (1, .int _), (2, .int _)] dX8_weightWithout_3 (Nat.le_of_ble_eq_true rfl) rfl ?_
  refine G_loc [2, 3, 4, 1, 0] [(0, .ref _), (1, .int _), (2, .int _), (3, .long _), (5, .int _)] rfl ?_
  exact B_X8_weightWithout_5 _ _ _ _ _ _ _ h
def F_X8_weighBests_110 (K27 : Int32 → Int32 → Mm → Option Mm) (x1 : Int32) (x2 : Int32) (μ : Mm) : Option Mm := K27 x1 (x2 + 1) μ
set_option maxRecDepth 100000 in
set_option maxHeartbeats 4000000 in
theorem B_X8_weighBests_110 (K27 : Int32 → Int32 → Mm → Option Mm) (hK27 : ∀ (x1 : Int32) (x2 : Int32) (μ : Mm) (q : Mm), K27 x1 x2 μ = some q → G wC RX8 cX8_weighBests 6 none 4 none q 27 [(0, .ref 0), (1, .int x1), (2, .int x2)] [] μ) (x1 : Int32) (x2 : Int32) (μ : Mm) (q : Mm)  (h : F_X8_weighBests_110 K27 x1 x2 μ = some q) : G wC RX8 cX8_weighBests 6 none 4 none q 110 [(0, .ref 0), (1, .int x1), (2, .int x2)] [] μ := by
  unfold F_X8_weighBests_110 at h
  refine G_iinc (pc := 110) (1) 2 [(2, .int _), (0, .ref _), (1, .int _)] dX8_weighBests_110 ci_1 rfl (Nat.le_of_ble_eq_true rfl) rfl ?_
  refine G_goto (pc := 113) 27 dX8_weighBests_113 (by decide) ?_
  refine G_loc [1, 2, 0] [(0, .ref _), (1, .int _), (2, .int _)] rfl ?_
  exact hK27 _ _ _ _ h
def L_X8_weighBests_27 : Nat → Int32 → Int32 → Mm → Option Mm
  | 0, _, _, _ => none
  | n + 1, x1, x2, μ => if (1 <<< ((μ.1 7 1) &&& 31)) ≤ x2 then some μ else (F_X8_weightWithout x2 x1 μ).bind (fun q4 => if (lg_cmp q4.1 0) = 0 then F_X8_weighBests_110 (L_X8_weighBests_27 n) x1 x2 q4.2 else (F_X7_run 12 (wI q4.2 20 10 x2)).bind (fun q6 => (F_X7_mostColoured (q6.1 20 1) q6).bind (fun q7 => if q7.1 = (-1) then F_X8_weighBests_110 (L_X8_weighBests_27 n) x1 x2 q7.2 else gi q7.1 10 (gi q7.1 10 (F_X8_weighBests_110 (L_X8_weighBests_27 n) x1 x2 (wL q7.2 35 q7.1.toNatClampNeg ((q7.2.2 35 q7.1.toNatClampNeg) + q4.1)))))))
set_option maxRecDepth 100000 in
set_option maxHeartbeats 4000000 in
theorem L_X8_weighBests_27_s (n : Nat) (x1 : Int32) (x2 : Int32) (μ : Mm) : L_X8_weighBests_27  (n + 1) x1 x2 μ = (if (1 <<< ((μ.1 7 1) &&& 31)) ≤ x2 then some μ else (F_X8_weightWithout x2 x1 μ).bind (fun q4 => if (lg_cmp q4.1 0) = 0 then F_X8_weighBests_110 (L_X8_weighBests_27 n) x1 x2 q4.2 else (F_X7_run 12 (wI q4.2 20 10 x2)).bind (fun q6 => (F_X7_mostColoured (q6.1 20 1) q6).bind (fun q7 => if q7.1 = (-1) then F_X8_weighBests_110 (L_X8_weighBests_27 n) x1 x2 q7.2 else gi q7.1 10 (gi q7.1 10 (F_X8_weighBests_110 (L_X8_weighBests_27 n) x1 x2 (wL q7.2 35 q7.1.toNatClampNeg ((q7.2.2 35 q7.1.toNatClampNeg) + q4.1)))))))) := rfl
set_option maxRecDepth 100000 in
set_option maxHeartbeats 4000000 in
theorem B_X8_weighBests_27 : ∀ (n : Nat) (x1 : Int32) (x2 : Int32) (μ : Mm) (q : Mm), L_X8_weighBests_27  n x1 x2 μ = some q → G wC RX8 cX8_weighBests 6 none 4 none q 27 [(0, .ref 0), (1, .int x1), (2, .int x2)] [] μ := by
  intro n
  induction n with
  | zero =>
    intro x1 x2 μ q  h
    cases h
  | succ n ih =>
    intro x1 x2 μ q  h
    rw [L_X8_weighBests_27_s] at h
    refine G_iload_n (pc := 27) 2 dX8_weighBests_27 rfl ?_
    refine G_iconst (pc := 28) (1) dX8_weighBests_28 ci_1 ?_
    refine G_aload_n (pc := 29) 0 dX8_weighBests_29 rfl ?_
    refine gwC_X8_31_0 (pc := 30) dX8_weighBests_30 ?_
    refine gwC_X8_119_7 (pc := 33) dX8_weighBests_33 ?_
    refine G_ishl (pc := 36) dX8_weighBests_36 ?_
    refine G_icmp_ge (pc := 37) 116 dX8_weighBests_37 (by decide) (fun c3 => ?_) (fun c3 => ?_)
    · replace h := itp c3 h
      obtain rfl := Option.some.inj h
      exact G_vret (pc := 116) rfl dX8_weighBests_116
    · replace h := itn c3 h
      refine G_aload_n (pc := 40) 0 dX8_weighBests_40 rfl ?_
      refine G_iload_n (pc := 41) 2 dX8_weighBests_41 rfl ?_
      refine G_iload_n (pc := 42) 1 dX8_weighBests_42 rfl ?_
      obtain ⟨q4, e4, h⟩ := bnd_some h
      refine G_callV2r (pc := 43) 0 7 dX8_weighBests_43 wv_X8_358 cd_X8_weightWithout (S_X8_weightWithout _ _ _ _ e4) (by decide) (by decide) rfl (by decide) (fun _ _ => ⟨_, rfl⟩) (Nat.le_of_ble_eq_true rfl) ?_
      refine G_lstore_n (pc := 46) [(3, .long _), (0, .ref _), (1, .int _), (2, .int _)] dX8_weighBests_46 (Nat.le_of_ble_eq_true rfl) rfl ?_
      refine G_lload_n (pc := 47) 0 dX8_weighBests_47 rfl ?_
      refine G_lconst (pc := 48) (0) dX8_weighBests_48 lc_0 ?_
      refine G_lcmp (pc := 49) dX8_weighBests_49 ?_
      refine G_if_ne (pc := 50) 56 dX8_weighBests_50 (by decide) (fun c5 => ?_) (fun c5 => ?_)
      · replace h := itn c5 h
        refine G_aload_n (pc := 56) 1 dX8_weighBests_56 rfl ?_
        refine gwC_X8_53_0 (pc := 57) dX8_weighBests_57 ?_
        refine G_iload_n (pc := 60) 3 dX8_weighBests_60 rfl ?_
        refine pwC_X8_198_20 (pc := 61) dX8_weighBests_61 ?_
        refine G_aload_n (pc := 64) 1 dX8_weighBests_64 rfl ?_
        refine gwC_X8_60_0 (pc := 65) dX8_weighBests_65 ?_
        refine G_aload_n (pc := 68) 1 dX8_weighBests_68 rfl ?_
        refine gwC_X8_53_0 (pc := 69) dX8_weighBests_69 ?_
        refine G_bipush (pc := 72) (12) dX8_weighBests_72 bp_12 ?_
        obtain ⟨q6, e6, h⟩ := bnd_some h
        refine G_callV2v (pc := 74) 28 6 dX8_weighBests_74 wv_X8_201 cd_X7_run (S_X7_run _ _ _ e6) (by decide) (by decide) rfl (by decide) (fun _ _ => ⟨_, rfl⟩) (Nat.le_of_ble_eq_true rfl) ?_
        refine G_aload_n (pc := 77) 1 dX8_weighBests_77 rfl ?_
        refine gwC_X8_60_0 (pc := 78) dX8_weighBests_78 ?_
        refine G_aload_n (pc := 81) 1 dX8_weighBests_81 rfl ?_
        refine gwC_X8_53_0 (pc := 82) dX8_weighBests_82 ?_
        refine gwC_X8_161_20 (pc := 85) dX8_weighBests_85 ?_
        obtain ⟨q7, e7, h⟩ := bnd_some h
        refine G_callV1r (pc := 88) 28 6 dX8_weighBests_88 wv_X8_163 cd_X7_mostColoured (S_X7_mostColoured _ _ _ e7) (by decide) (by decide) rfl (by decide) (fun _ _ => ⟨_, rfl⟩) (Nat.le_of_ble_eq_true rfl) ?_
        refine G_istore (pc := 91) [(5, .int _), (3, .long _), (0, .ref _), (1, .int _), (2, .int _)] dX8_weighBests_91 (Nat.le_of_ble_eq_true rfl) rfl ?_
        refine G_iload (pc := 93) 0 dX8_weighBests_93 rfl ?_
        refine G_iconst (pc := 95) (-1) dX8_weighBests_95 ci_m1 ?_
        refine G_icmp_eq (pc := 96) 110 dX8_weighBests_96 (by decide) (fun c8 => ?_) (fun c8 => ?_)
        · replace h := itp c8 h
          refine G_loc [2, 3, 4] [(0, .ref _), (1, .int _), (2, .int _)] rfl ?_
          exact B_X8_weighBests_110 _ ih _ _ _ _ h
        · replace h := itn c8 h
          refine G_aload_n (pc := 99) 2 dX8_weighBests_99 rfl ?_
          refine gwC_X8_71_0 (pc := 100) dX8_weighBests_100 ?_
          refine G_iload (pc := 103) 0 dX8_weighBests_103 rfl ?_
          refine G_dup2 (pc := 105) dX8_weighBests_105 rfl rfl ?_
          obtain ⟨g9, h⟩ := gi_some h
          refine alwC_35 (pc := 106) dX8_weighBests_106 g9 ?_
          refine G_lload_n (pc := 107) 1 dX8_weighBests_107 rfl ?_
          refine G_ladd (pc := 108) dX8_weighBests_108 ?_
          obtain ⟨g10, h⟩ := gi_some h
          refine aswC_35 (pc := 109) dX8_weighBests_109 g10 ?_
          refine G_loc [2, 3, 4] [(0, .ref _), (1, .int _), (2, .int _)] rfl ?_
          exact B_X8_weighBests_110 _ ih _ _ _ _ h
      · replace h := itp c5 h
        refine G_goto (pc := 53) 110 dX8_weighBests_53 (by decide) ?_
        refine G_loc [1, 2, 3] [(0, .ref _), (1, .int _), (2, .int _)] rfl ?_
        exact B_X8_weighBests_110 _ ih _ _ _ _ h
def L_X8_weighBests_6 : Nat → Int32 → Int32 → Mm → Option Mm
  | 0, _, _, _ => none
  | n + 1, x1, x2, μ => if 10 ≤ x2 then L_X8_weighBests_27 FUEL x1 0 μ else gi x2 10 (L_X8_weighBests_6 n x1 (x2 + 1) (wL μ 35 x2.toNatClampNeg 0))
set_option maxRecDepth 100000 in
set_option maxHeartbeats 4000000 in
theorem L_X8_weighBests_6_s (n : Nat) (x1 : Int32) (x2 : Int32) (μ : Mm) : L_X8_weighBests_6  (n + 1) x1 x2 μ = (if 10 ≤ x2 then L_X8_weighBests_27 FUEL x1 0 μ else gi x2 10 (L_X8_weighBests_6 n x1 (x2 + 1) (wL μ 35 x2.toNatClampNeg 0))) := rfl
set_option maxRecDepth 100000 in
set_option maxHeartbeats 4000000 in
theorem B_X8_weighBests_6 : ∀ (n : Nat) (x1 : Int32) (x2 : Int32) (μ : Mm) (q : Mm), L_X8_weighBests_6  n x1 x2 μ = some q → G wC RX8 cX8_weighBests 6 none 4 none q 6 [(0, .ref 0), (1, .int x1), (2, .int x2)] [] μ := by
  intro n
  induction n with
  | zero =>
    intro x1 x2 μ q  h
    cases h
  | succ n ih =>
    intro x1 x2 μ q  h
    rw [L_X8_weighBests_6_s] at h
    refine G_iload_n (pc := 6) 2 dX8_weighBests_6 rfl ?_
    refine G_bipush (pc := 7) (10) dX8_weighBests_7 bp_10 ?_
    refine G_icmp_ge (pc := 9) 25 dX8_weighBests_9 (by decide) (fun c2 => ?_) (fun c2 => ?_)
    · replace h := itp c2 h
      refine G_iconst (pc := 25) (0) dX8_weighBests_25 ci_0 ?_
      refine G_istore_n (pc := 26) [(2, .int _), (0, .ref _), (1, .int _)] dX8_weighBests_26 (Nat.le_of_ble_eq_true rfl) rfl ?_
      refine G_loc [1, 2, 0] [(0, .ref _), (1, .int _), (2, .int _)] rfl ?_
      exact B_X8_weighBests_27 _ _ _ _ _ h
    · replace h := itn c2 h
      refine G_aload_n (pc := 12) 0 dX8_weighBests_12 rfl ?_
      refine gwC_X8_71_0 (pc := 13) dX8_weighBests_13 ?_
      refine G_iload_n (pc := 16) 2 dX8_weighBests_16 rfl ?_
      refine G_lconst (pc := 17) (0) dX8_weighBests_17 lc_0 ?_
      obtain ⟨g11, h⟩ := gi_some h
      refine aswC_35 (pc := 18) dX8_weighBests_18 g11 ?_
      refine G_iinc (pc := 19) (1) 2 [(2, .int _), (0, .ref _), (1, .int _)] dX8_weighBests_19 ci_1 rfl (Nat.le_of_ble_eq_true rfl) rfl ?_
      refine G_goto (pc := 22) 6 dX8_weighBests_22 (by decide) ?_
      refine G_loc [1, 2, 0] [(0, .ref _), (1, .int _), (2, .int _)] rfl ?_
      exact ih _ _ _ _ h
def F_X8_weighBests (x1 : Int32) (μ : Mm) : Option Mm := (F_X8_planAsTold μ).bind (fun q1 => L_X8_weighBests_6 FUEL x1 0 q1)
set_option maxRecDepth 100000 in
set_option maxHeartbeats 4000000 in
theorem S_X8_weighBests (x1 : Int32)  (μ : Mm) (q : Mm) (h : F_X8_weighBests x1 μ = some q) : Cn wC yX8_weighBests cX8_weighBests 6 none 4 [.ref 0, .int x1] μ none q := by
  refine Cn_of (by decide +kernel) (Nat.le_of_ble_eq_true rfl) ?_
  show G wC RX8 cX8_weighBests 6 none 4 none q 0 [(0, .ref 0), (1, .int x1)] [] μ
  unfold F_X8_weighBests at h
  refine G_aload_n (pc := 0) 0 dX8_weighBests_0 rfl ?_
  obtain ⟨q1, e1, h⟩ := bnd_some h
  refine G_callV0v (pc := 1) 0 7 dX8_weighBests_1 wv_X8_195 cd_X8_planAsTold (S_X8_planAsTold _ _ e1) (by decide) (by decide) rfl (by decide) (fun _ _ => ⟨_, rfl⟩) (Nat.le_of_ble_eq_true rfl) ?_
  refine G_iconst (pc := 4) (0) dX8_weighBests_4 ci_0 ?_
  refine G_istore_n (pc := 5) [(2, .int _), (0, .ref _), (1, .int _)] dX8_weighBests_5 (Nat.le_of_ble_eq_true rfl) rfl ?_
  refine G_loc [1, 2, 0] [(0, .ref _), (1, .int _), (2, .int _)] rfl ?_
  exact B_X8_weighBests_6 _ _ _ _ _ h
def F_X8_partOfFraction_57 (x3 : Int32) (x5 : Int64) (x7 : Int64) (μ : Mm) : Option (Int64 × Mm) := some ((if x3 = 0 then x5 else x7), μ)
set_option maxRecDepth 100000 in
set_option maxHeartbeats 4000000 in
theorem B_X8_partOfFraction_57 (x3 : Int32) (x5 : Int64) (x7 : Int64) (μ : Mm) (q : (Int64 × Mm))  (h : F_X8_partOfFraction_57  x3 x5 x7 μ = some q) : G wC RX8 cX8_partOfFraction 10 (some .long) 0 (some (.long q.1)) q.2 57 [(3, .int x3), (5, .long x5), (7, .long x7)] [] μ := by
  unfold F_X8_partOfFraction_57 at h
  refine G_iload_n (pc := 57) 0 dX8_partOfFraction_57 rfl ?_
  refine G_if_ne (pc := 58) 66 dX8_partOfFraction_58 (by decide) (fun c2 => ?_) (fun c2 => ?_)
  · rw [if_neg c2] at h
    refine G_lload (pc := 66) 2 dX8_partOfFraction_66 rfl ?_
    obtain rfl := Option.some.inj h
    exact G_lret (pc := 68) rfl dX8_partOfFraction_68
  · rw [if_pos c2] at h
    refine G_lload (pc := 61) 1 dX8_partOfFraction_61 rfl ?_
    refine G_goto (pc := 63) 68 dX8_partOfFraction_63 (by decide) ?_
    obtain rfl := Option.some.inj h
    exact G_lret (pc := 68) rfl dX8_partOfFraction_68
def L_X8_partOfFraction_23 : Nat → Int32 → Int32 → Int64 → Int64 → Int32 → Mm → Option (Int64 × Mm)
  | 0, _, _, _, _, _, _ => none
  | n + 1, x3, x4, x5, x7, x9, μ => if x4 ≤ x9 then F_X8_partOfFraction_57 x3 x5 x7 μ else if (lg_cmp (x5 &&& 1) 0) = 0 then L_X8_partOfFraction_23 n x3 x4 (x5 >>> ((1 : Int32).toInt64 &&& 63)) (x7 >>> ((1 : Int32).toInt64 &&& 63)) (x9 + 1) μ else F_X8_partOfFraction_57 x3 x5 x7 μ
set_option maxRecDepth 100000 in
set_option maxHeartbeats 4000000 in
theorem L_X8_partOfFraction_23_s (n : Nat) (x3 : Int32) (x4 : Int32) (x5 : Int64) (x7 : Int64) (x9 : Int32) (μ : Mm) : L_X8_partOfFraction_23  (n + 1) x3 x4 x5 x7 x9 μ = (if x4 ≤ x9 then F_X8_partOfFraction_57 x3 x5 x7 μ else if (lg_cmp (x5 &&& 1) 0) = 0 then L_X8_partOfFraction_23 n x3 x4 (x5 >>> ((1 : Int32).toInt64 &&& 63)) (x7 >>> ((1 : Int32).toInt64 &&& 63)) (x9 + 1) μ else F_X8_partOfFraction_57 x3 x5 x7 μ) := rfl
set_option maxRecDepth 100000 in
set_option maxHeartbeats 4000000 in
theorem B_X8_partOfFraction_23 : ∀ (n : Nat) (x3 : Int32) (x4 : Int32) (x5 : Int64) (x7 : Int64) (x9 : Int32) (μ : Mm) (q : (Int64 × Mm)), L_X8_partOfFraction_23  n x3 x4 x5 x7 x9 μ = some q → G wC RX8 cX8_partOfFraction 10 (some .long) 0 (some (.long q.1)) q.2 23 [(3, .int x3), (4, .int x4), (5, .long x5), (7, .long x7), (9, .int x9)] [] μ := by
  intro n
  induction n with
  | zero =>
    intro x3 x4 x5 x7 x9 μ q  h
    cases h
  | succ n ih =>
    intro x3 x4 x5 x7 x9 μ q  h
    rw [L_X8_partOfFraction_23_s] at h
    refine G_iload (pc := 23) 4 dX8_partOfFraction_23 rfl ?_
    refine G_iload (pc := 25) 1 dX8_partOfFraction_25 rfl ?_
    refine G_icmp_ge (pc := 27) 57 dX8_partOfFraction_27 (by decide) (fun c1 => ?_) (fun c1 => ?_)
    · replace h := itp c1 h
      refine G_loc [0, 2, 3] [(3, .int _), (5, .long _), (7, .long _)] rfl ?_
      exact B_X8_partOfFraction_57 _ _ _ _ _ h
    · replace h := itn c1 h
      refine G_lload (pc := 30) 2 dX8_partOfFraction_30 rfl ?_
      refine G_lconst (pc := 32) (1) dX8_partOfFraction_32 lc_1 ?_
      refine G_land (pc := 33) dX8_partOfFraction_33 ?_
      refine G_lconst (pc := 34) (0) dX8_partOfFraction_34 lc_0 ?_
      refine G_lcmp (pc := 35) dX8_partOfFraction_35 ?_
      refine G_if_ne (pc := 36) 57 dX8_partOfFraction_36 (by decide) (fun c3 => ?_) (fun c3 => ?_)
      · replace h := itn c3 h
        refine G_loc [0, 2, 3] [(3, .int _), (5, .long _), (7, .long _)] rfl ?_
        exact B_X8_partOfFraction_57 _ _ _ _ _ h
      · replace h := itp c3 h
        refine G_lload (pc := 39) 2 dX8_partOfFraction_39 rfl ?_
        refine G_iconst (pc := 41) (1) dX8_partOfFraction_41 ci_1 ?_
        refine G_lshr (pc := 42) dX8_partOfFraction_42 ?_
        refine G_lstore (pc := 43) [(5, .long _), (3, .int _), (4, .int _), (7, .long _), (9, .int _)] dX8_partOfFraction_43 (Nat.le_of_ble_eq_true rfl) rfl ?_
        refine G_lload (pc := 45) 3 dX8_partOfFraction_45 rfl ?_
        refine G_iconst (pc := 47) (1) dX8_partOfFraction_47 ci_1 ?_
        refine G_lshr (pc := 48) dX8_partOfFraction_48 ?_
        refine G_lstore (pc := 49) [(7, .long _), (5, .long _), (3, .int _), (4, .int _), (9, .int _)] dX8_partOfFraction_49 (Nat.le_of_ble_eq_true rfl) rfl ?_
        refine G_iinc (pc := 51) (1) 4 [(9, .int _), (7, .long _), (5, .long _), (3, .int _), (4, .int _)] dX8_partOfFraction_51 ci_1 rfl (Nat.le_of_ble_eq_true rfl) rfl ?_
        refine G_goto (pc := 54) 23 dX8_partOfFraction_54 (by decide) ?_
        refine G_loc [3, 4, 2, 1, 0] [(3, .int _), (4, .int _), (5, .long _), (7, .long _), (9, .int _)] rfl ?_
        exact ih _ _ _ _ _ _ _ h
def F_X8_partOfFraction (x1 : Int64) (x3 : Int32) (μ : Mm) : Option (Int64 × Mm) := L_X8_partOfFraction_23 FUEL x3 (4 * (μ.1 7 1)) x1 (1 <<< ((4 * (μ.1 7 1)).toInt64 &&& 63)) 0 μ
set_option maxRecDepth 100000 in
set_option maxHeartbeats 4000000 in
theorem S_X8_partOfFraction (x1 : Int64) (x3 : Int32)  (μ : Mm) (q : (Int64 × Mm)) (h : F_X8_partOfFraction x1 x3 μ = some q) : Cn wC yX8_partOfFraction cX8_partOfFraction 10 (some .long) 0 [.ref 0, .long x1, .int x3] μ (some (.long q.1)) q.2 := by
  refine Cn_of (by decide +kernel) (Nat.le_of_ble_eq_true rfl) ?_
  show G wC RX8 cX8_partOfFraction 10 (some .long) 0 (some (.long q.1)) q.2 0 [(0, .ref 0), (1, .long x1), (3, .int x3)] [] μ
  unfold F_X8_partOfFraction at h
  refine G_iconst (pc := 0) (4) dX8_partOfFraction_0 ci_4 ?_
  refine G_aload_n (pc := 1) 0 dX8_partOfFraction_1 rfl ?_
  refine gwC_X8_31_0 (pc := 2) dX8_partOfFraction_2 ?_
  refine gwC_X8_119_7 (pc := 5) dX8_partOfFraction_5 ?_
  refine G_imul (pc := 8) dX8_partOfFraction_8 ?_
  refine G_istore (pc := 9) [(4, .int _), (0, .ref _), (1, .long _), (3, .int _)] dX8_partOfFraction_9 (Nat.le_of_ble_eq_true rfl) rfl ?_
  refine G_lload_n (pc := 11) 2 dX8_partOfFraction_11 rfl ?_
  refine G_lstore (pc := 12) [(5, .long _), (4, .int _), (0, .ref _), (1, .long _), (3, .int _)] dX8_partOfFraction_12 (Nat.le_of_ble_eq_true rfl) rfl ?_
  refine G_lconst (pc := 14) (1) dX8_partOfFraction_14 lc_1 ?_
  refine G_iload (pc := 15) 1 dX8_partOfFraction_15 rfl ?_
  refine G_lshl (pc := 17) dX8_partOfFraction_17 ?_
  refine G_lstore (pc := 18) [(7, .long _), (5, .long _), (4, .int _), (0, .ref _), (1, .long _), (3, .int _)] dX8_partOfFraction_18 (Nat.le_of_ble_eq_true rfl) rfl ?_
  refine G_iconst (pc := 20) (0) dX8_partOfFraction_20 ci_0 ?_
  refine G_istore (pc := 21) [(9, .int _), (7, .long _), (5, .long _), (4, .int _), (0, .ref _), (1, .long _), (3, .int _)] dX8_partOfFraction_21 (Nat.le_of_ble_eq_true rfl) rfl ?_
  refine G_loc [6, 3, 2, 1, 0] [(3, .int _), (4, .int _), (5, .long _), (7, .long _), (9, .int _)] rfl ?_
  exact B_X8_partOfFraction_23 _ _ _ _ _ _ _ _ h
def F_X8_chance (x1 : Int32) (x2 : Int32) (x3 : Int32) (μ : Mm) : Option (Int64 × Mm) := if x1 < 0 then some ((-9223372036854775806), μ) else if 16 < x1 then some ((-9223372036854775806), μ) else (F_X3_size_1 μ).bind (fun q3 => (F_X8_isIn x2 q3.1 q3.2).bind (fun q4 => if q4.1 = 0 then some ((-9223372036854775806), q4.2) else (F_X8_isIn x3 2 q4.2).bind (fun q6 => if q6.1 = 0 then some ((-9223372036854775806), q6.2) else (F_X8_weighBests x1 q6.2).bind (fun q8 => gi x2 10 ((F_X8_partOfFraction (q8.2 35 x2.toNatClampNeg) x3 q8).bind (fun q10 => some (q10.1, q10.2)))))))
set_option maxRecDepth 100000 in
set_option maxHeartbeats 4000000 in
theorem S_X8_chance (x1 : Int32) (x2 : Int32) (x3 : Int32)  (μ : Mm) (q : (Int64 × Mm)) (h : F_X8_chance x1 x2 x3 μ = some q) : Cn wC yX8_chance cX8_chance 4 (some .long) 5 [.ref 0, .int x1, .int x2, .int x3] μ (some (.long q.1)) q.2 := by
  refine Cn_of (by decide +kernel) (Nat.le_of_ble_eq_true rfl) ?_
  show G wC RX8 cX8_chance 4 (some .long) 5 (some (.long q.1)) q.2 0 [(0, .ref 0), (1, .int x1), (2, .int x2), (3, .int x3)] [] μ
  unfold F_X8_chance at h
  refine G_iload_n (pc := 0) 1 dX8_chance_0 rfl ?_
  refine G_if_lt (pc := 1) 32 dX8_chance_1 (by decide) (fun c1 => ?_) (fun c1 => ?_)
  · replace h := itp c1 h
    refine G_ldc2 (pc := 32) (-9223372036854775806) dX8_chance_32 kl_X8_223 ?_
    obtain rfl := Option.some.inj h
    exact G_lret (pc := 35) rfl dX8_chance_35
  · replace h := itn c1 h
    refine G_iload_n (pc := 4) 1 dX8_chance_4 rfl ?_
    refine G_bipush (pc := 5) (16) dX8_chance_5 bp_16 ?_
    refine G_icmp_gt (pc := 7) 32 dX8_chance_7 (by decide) (fun c2 => ?_) (fun c2 => ?_)
    · replace h := itp c2 h
      refine G_ldc2 (pc := 32) (-9223372036854775806) dX8_chance_32 kl_X8_223 ?_
      obtain rfl := Option.some.inj h
      exact G_lret (pc := 35) rfl dX8_chance_35
    · replace h := itn c2 h
      refine G_iload_n (pc := 10) 2 dX8_chance_10 rfl ?_
      refine G_aload_n (pc := 11) 0 dX8_chance_11 rfl ?_
      refine gwC_X8_14_0 (pc := 12) dX8_chance_12 ?_
      obtain ⟨q3, e3, h⟩ := bnd_some h
      refine G_callV0r (pc := 15) 1 3 dX8_chance_15 wv_X8_100 cd_X3_size (S_X3_size_1 _ _ e3) (by decide) (by decide) rfl (by decide) (fun _ _ => ⟨_, rfl⟩) (Nat.le_of_ble_eq_true rfl) ?_
      obtain ⟨q4, e4, h⟩ := bnd_some h
      refine G_callS2r (pc := 18) dX8_chance_18 ws_X8_104 cd_X8_isIn (S_X8_isIn _ _ _ _ e4) (by decide) (by decide) (Nat.le_of_ble_eq_true rfl) ?_
      refine G_if_eq (pc := 21) 32 dX8_chance_21 (by decide) (fun c5 => ?_) (fun c5 => ?_)
      · replace h := itp c5 h
        refine G_ldc2 (pc := 32) (-9223372036854775806) dX8_chance_32 kl_X8_223 ?_
        obtain rfl := Option.some.inj h
        exact G_lret (pc := 35) rfl dX8_chance_35
      · replace h := itn c5 h
        refine G_iload_n (pc := 24) 3 dX8_chance_24 rfl ?_
        refine G_iconst (pc := 25) (2) dX8_chance_25 ci_2 ?_
        obtain ⟨q6, e6, h⟩ := bnd_some h
        refine G_callS2r (pc := 26) dX8_chance_26 ws_X8_104 cd_X8_isIn (S_X8_isIn _ _ _ _ e6) (by decide) (by decide) (Nat.le_of_ble_eq_true rfl) ?_
        refine G_if_ne (pc := 29) 36 dX8_chance_29 (by decide) (fun c7 => ?_) (fun c7 => ?_)
        · replace h := itn c7 h
          refine G_aload_n (pc := 36) 0 dX8_chance_36 rfl ?_
          refine G_iload_n (pc := 37) 1 dX8_chance_37 rfl ?_
          obtain ⟨q8, e8, h⟩ := bnd_some h
          refine G_callV1v (pc := 38) 0 7 dX8_chance_38 wv_X8_225 cd_X8_weighBests (S_X8_weighBests _ _ _ e8) (by decide) (by decide) rfl (by decide) (fun _ _ => ⟨_, rfl⟩) (Nat.le_of_ble_eq_true rfl) ?_
          refine G_aload_n (pc := 41) 0 dX8_chance_41 rfl ?_
          refine G_aload_n (pc := 42) 0 dX8_chance_42 rfl ?_
          refine gwC_X8_71_0 (pc := 43) dX8_chance_43 ?_
          refine G_iload_n (pc := 46) 2 dX8_chance_46 rfl ?_
          obtain ⟨g9, h⟩ := gi_some h
          refine alwC_35 (pc := 47) dX8_chance_47 g9 ?_
          refine G_iload_n (pc := 48) 3 dX8_chance_48 rfl ?_
          obtain ⟨q10, e10, h⟩ := bnd_some h
          refine G_callV2r (pc := 49) 0 7 dX8_chance_49 wv_X8_228 cd_X8_partOfFraction (S_X8_partOfFraction _ _ _ _ e10) (by decide) (by decide) rfl (by decide) (fun _ _ => ⟨_, rfl⟩) (Nat.le_of_ble_eq_true rfl) ?_
          obtain rfl := Option.some.inj h
          exact G_lret (pc := 52) rfl dX8_chance_52
        · replace h := itp c7 h
          refine G_ldc2 (pc := 32) (-9223372036854775806) dX8_chance_32 kl_X8_223 ?_
          obtain rfl := Option.some.inj h
          exact G_lret (pc := 35) rfl dX8_chance_35
def F_X8_drawBox_58 (K5 : Int32 → Int32 → Int32 → Mm → Option Mm) (x2 : Int32) (x3 : Int32) (x4 : Int32) (μ : Mm) : Option Mm := K5 x2 x3 (x4 + 1) μ
set_option maxRecDepth 100000 in
set_option maxHeartbeats 4000000 in
theorem B_X8_drawBox_58 (K5 : Int32 → Int32 → Int32 → Mm → Option Mm) (hK5 : ∀ (x2 : Int32) (x3 : Int32) (x4 : Int32) (μ : Mm) (q : Mm), K5 x2 x3 x4 μ = some q → G wC RX8 cX8_drawBox 5 none 0 none q 5 [(0, .ref 0), (2, .int x2), (3, .int x3), (4, .int x4)] [] μ) (x2 : Int32) (x3 : Int32) (x4 : Int32) (μ : Mm) (q : Mm)  (h : F_X8_drawBox_58 K5 x2 x3 x4 μ = some q) : G wC RX8 cX8_drawBox 5 none 0 none q 58 [(0, .ref 0), (2, .int x2), (3, .int x3), (4, .int x4)] [] μ := by
  unfold F_X8_drawBox_58 at h
  refine G_iinc (pc := 58) (1) 3 [(4, .int _), (0, .ref _), (2, .int _), (3, .int _)] dX8_drawBox_58 ci_1 rfl (Nat.le_of_ble_eq_true rfl) rfl ?_
  refine G_goto (pc := 61) 5 dX8_drawBox_61 (by decide) ?_
  refine G_loc [1, 2, 3, 0] [(0, .ref _), (2, .int _), (3, .int _), (4, .int _)] rfl ?_
  exact hK5 _ _ _ _ _ h
def L_X8_drawBox_5 : Nat → Int32 → Int32 → Int32 → Mm → Option Mm
  | 0, _, _, _, _ => none
  | n + 1, x2, x3, x4, μ => if 12 ≤ x4 then some μ else if x2 ≤ x4 then gi x4 12 (F_X8_drawBox_58 (L_X8_drawBox_5 n) x2 x3 x4 (wI μ 27 x4.toNatClampNeg 0)) else gi x4 12 (F_X8_drawBox_58 (L_X8_drawBox_5 n) x2 ((1103515245 * x3) + 12345) x4 (wI μ 27 x4.toNatClampNeg (((((1103515245 * x3) + 12345).toUInt32 >>> ((16 : Int32).toUInt32 &&& Int32.toUInt32 31)).toInt32) - ((((1103515245 * x3) + 12345).toUInt32 >>> ((16 : Int32).toUInt32 &&& Int32.toUInt32 31)).toInt32) / 4 * 4)))
set_option maxRecDepth 100000 in
set_option maxHeartbeats 4000000 in
theorem L_X8_drawBox_5_s (n : Nat) (x2 : Int32) (x3 : Int32) (x4 : Int32) (μ : Mm) : L_X8_drawBox_5  (n + 1) x2 x3 x4 μ = (if 12 ≤ x4 then some μ else if x2 ≤ x4 then gi x4 12 (F_X8_drawBox_58 (L_X8_drawBox_5 n) x2 x3 x4 (wI μ 27 x4.toNatClampNeg 0)) else gi x4 12 (F_X8_drawBox_58 (L_X8_drawBox_5 n) x2 ((1103515245 * x3) + 12345) x4 (wI μ 27 x4.toNatClampNeg (((((1103515245 * x3) + 12345).toUInt32 >>> ((16 : Int32).toUInt32 &&& Int32.toUInt32 31)).toInt32) - ((((1103515245 * x3) + 12345).toUInt32 >>> ((16 : Int32).toUInt32 &&& Int32.toUInt32 31)).toInt32) / 4 * 4)))) := rfl
set_option maxRecDepth 100000 in
set_option maxHeartbeats 4000000 in
theorem B_X8_drawBox_5 : ∀ (n : Nat) (x2 : Int32) (x3 : Int32) (x4 : Int32) (μ : Mm) (q : Mm), L_X8_drawBox_5  n x2 x3 x4 μ = some q → G wC RX8 cX8_drawBox 5 none 0 none q 5 [(0, .ref 0), (2, .int x2), (3, .int x3), (4, .int x4)] [] μ := by
  intro n
  induction n with
  | zero =>
    intro x2 x3 x4 μ q  h
    cases h
  | succ n ih =>
    intro x2 x3 x4 μ q  h
    rw [L_X8_drawBox_5_s] at h
    refine G_iload (pc := 5) 3 dX8_drawBox_5 rfl ?_
    refine G_bipush (pc := 7) (12) dX8_drawBox_7 bp_12 ?_
    refine G_icmp_ge (pc := 9) 64 dX8_drawBox_9 (by decide) (fun c1 => ?_) (fun c1 => ?_)
    · replace h := itp c1 h
      obtain rfl := Option.some.inj h
      exact G_vret (pc := 64) rfl dX8_drawBox_64
    · replace h := itn c1 h
      refine G_iload (pc := 12) 3 dX8_drawBox_12 rfl ?_
      refine G_iload_n (pc := 14) 1 dX8_drawBox_14 rfl ?_
      refine G_icmp_ge (pc := 15) 47 dX8_drawBox_15 (by decide) (fun c2 => ?_) (fun c2 => ?_)
      · replace h := itp c2 h
        refine G_aload_n (pc := 47) 0 dX8_drawBox_47 rfl ?_
        refine gwC_X8_53_0 (pc := 48) dX8_drawBox_48 ?_
        refine gwC_X8_346_20 (pc := 51) dX8_drawBox_51 ?_
        refine G_iload (pc := 54) 3 dX8_drawBox_54 rfl ?_
        refine G_iconst (pc := 56) (0) dX8_drawBox_56 ci_0 ?_
        obtain ⟨g3, h⟩ := gi_some h
        refine aswC_27 (pc := 57) dX8_drawBox_57 g3 ?_
        exact B_X8_drawBox_58 _ ih _ _ _ _ _ h
      · replace h := itn c2 h
        refine G_ldcw (pc := 18) (1103515245) dX8_drawBox_18 k_X8_362 ?_
        refine G_iload_n (pc := 21) 2 dX8_drawBox_21 rfl ?_
        refine G_imul (pc := 22) dX8_drawBox_22 ?_
        refine G_sipush (pc := 23) (12345) dX8_drawBox_23 sp_12345 ?_
        refine G_iadd (pc := 26) dX8_drawBox_26 ?_
        refine G_istore_n (pc := 27) [(3, .int _), (0, .ref _), (2, .int _), (4, .int _)] dX8_drawBox_27 (Nat.le_of_ble_eq_true rfl) rfl ?_
        refine G_aload_n (pc := 28) 1 dX8_drawBox_28 rfl ?_
        refine gwC_X8_53_0 (pc := 29) dX8_drawBox_29 ?_
        refine gwC_X8_346_20 (pc := 32) dX8_drawBox_32 ?_
        refine G_iload (pc := 35) 3 dX8_drawBox_35 rfl ?_
        refine G_iload_n (pc := 37) 0 dX8_drawBox_37 rfl ?_
        refine G_bipush (pc := 38) (16) dX8_drawBox_38 bp_16 ?_
        refine G_iushr (pc := 40) dX8_drawBox_40 ?_
        refine G_iconst (pc := 41) (4) dX8_drawBox_41 ci_4 ?_
        refine G_irem (pc := 42) dX8_drawBox_42 (by decide) ?_
        obtain ⟨g4, h⟩ := gi_some h
        refine aswC_27 (pc := 43) dX8_drawBox_43 g4 ?_
        refine G_goto (pc := 44) 58 dX8_drawBox_44 (by decide) ?_
        refine G_loc [1, 2, 0, 3] [(0, .ref _), (2, .int _), (3, .int _), (4, .int _)] rfl ?_
        exact B_X8_drawBox_58 _ ih _ _ _ _ _ h
def F_X8_drawBox (x1 : Int32) (x2 : Int32) (μ : Mm) : Option Mm := L_X8_drawBox_5 FUEL x2 x1 0 μ
set_option maxRecDepth 100000 in
set_option maxHeartbeats 4000000 in
theorem S_X8_drawBox (x1 : Int32) (x2 : Int32)  (μ : Mm) (q : Mm) (h : F_X8_drawBox x1 x2 μ = some q) : Cn wC yX8_drawBox cX8_drawBox 5 none 0 [.ref 0, .int x1, .int x2] μ none q := by
  refine Cn_of (by decide +kernel) (Nat.le_of_ble_eq_true rfl) ?_
  show G wC RX8 cX8_drawBox 5 none 0 none q 0 [(0, .ref 0), (1, .int x1), (2, .int x2)] [] μ
  unfold F_X8_drawBox at h
  refine G_iload_n (pc := 0) 1 dX8_drawBox_0 rfl ?_
  refine G_istore_n (pc := 1) [(3, .int _), (0, .ref _), (1, .int _), (2, .int _)] dX8_drawBox_1 (Nat.le_of_ble_eq_true rfl) rfl ?_
  refine G_iconst (pc := 2) (0) dX8_drawBox_2 ci_0 ?_
  refine G_istore (pc := 3) [(4, .int _), (3, .int _), (0, .ref _), (1, .int _), (2, .int _)] dX8_drawBox_3 (Nat.le_of_ble_eq_true rfl) rfl ?_
  refine G_loc [2, 4, 1, 0] [(0, .ref _), (2, .int _), (3, .int _), (4, .int _)] rfl ?_
  exact B_X8_drawBox_5 _ _ _ _ _ _ h
def F_X8_years (x1 : Int32) (x2 : Int32) (x3 : Int32) (μ : Mm) : Option (Int32 × Mm) := (F_X8_isIn x2 13 μ).bind (fun q1 => if q1.1 = 0 then some ((-2), q1.2) else (F_X8_isIn x3 2 q1.2).bind (fun q3 => if q3.1 = 0 then some ((-2), q3.2) else (F_X8_planAsTold q3.2).bind (fun q5 => (F_X8_drawBox x1 x2 q5).bind (fun q6 => (F_X7_run 12 q6).bind (fun q7 => if x3 = 0 then (F_X7_mostColoured (q7.1 20 1) q7).bind (fun q10 => some (q10.1, q10.2)) else (F_J6_bitCount_0f7a4 (q7.1 28 5) q7).bind (fun q9 => some (q9.1, q9.2)))))))
set_option maxRecDepth 100000 in
set_option maxHeartbeats 4000000 in
theorem S_X8_years (x1 : Int32) (x2 : Int32) (x3 : Int32)  (μ : Mm) (q : (Int32 × Mm)) (h : F_X8_years x1 x2 x3 μ = some q) : Cn wC yX8_years cX8_years 4 (some .int) 4 [.ref 0, .int x1, .int x2, .int x3] μ (some (.int q.1)) q.2 := by
  refine Cn_of (by decide +kernel) (Nat.le_of_ble_eq_true rfl) ?_
  show G wC RX8 cX8_years 4 (some .int) 4 (some (.int q.1)) q.2 0 [(0, .ref 0), (1, .int x1), (2, .int x2), (3, .int x3)] [] μ
  unfold F_X8_years at h
  refine G_iload_n (pc := 0) 2 dX8_years_0 rfl ?_
  refine G_bipush (pc := 1) (13) dX8_years_1 bp_13 ?_
  obtain ⟨q1, e1, h⟩ := bnd_some h
  refine G_callS2r (pc := 3) dX8_years_3 ws_X8_104 cd_X8_isIn (S_X8_isIn _ _ _ _ e1) (by decide) (by decide) (Nat.le_of_ble_eq_true rfl) ?_
  refine G_if_eq (pc := 6) 17 dX8_years_6 (by decide) (fun c2 => ?_) (fun c2 => ?_)
  · replace h := itp c2 h
    refine G_bipush (pc := 17) (-2) dX8_years_17 bp_m2 ?_
    obtain rfl := Option.some.inj h
    exact G_iret (pc := 19) rfl dX8_years_19
  · replace h := itn c2 h
    refine G_iload_n (pc := 9) 3 dX8_years_9 rfl ?_
    refine G_iconst (pc := 10) (2) dX8_years_10 ci_2 ?_
    obtain ⟨q3, e3, h⟩ := bnd_some h
    refine G_callS2r (pc := 11) dX8_years_11 ws_X8_104 cd_X8_isIn (S_X8_isIn _ _ _ _ e3) (by decide) (by decide) (Nat.le_of_ble_eq_true rfl) ?_
    refine G_if_ne (pc := 14) 20 dX8_years_14 (by decide) (fun c4 => ?_) (fun c4 => ?_)
    · replace h := itn c4 h
      refine G_aload_n (pc := 20) 0 dX8_years_20 rfl ?_
      obtain ⟨q5, e5, h⟩ := bnd_some h
      refine G_callV0v (pc := 21) 0 7 dX8_years_21 wv_X8_195 cd_X8_planAsTold (S_X8_planAsTold _ _ e5) (by decide) (by decide) rfl (by decide) (fun _ _ => ⟨_, rfl⟩) (Nat.le_of_ble_eq_true rfl) ?_
      refine G_aload_n (pc := 24) 0 dX8_years_24 rfl ?_
      refine G_iload_n (pc := 25) 1 dX8_years_25 rfl ?_
      refine G_iload_n (pc := 26) 2 dX8_years_26 rfl ?_
      obtain ⟨q6, e6, h⟩ := bnd_some h
      refine G_callV2v (pc := 27) 0 7 dX8_years_27 wv_X8_232 cd_X8_drawBox (S_X8_drawBox _ _ _ _ e6) (by decide) (by decide) rfl (by decide) (fun _ _ => ⟨_, rfl⟩) (Nat.le_of_ble_eq_true rfl) ?_
      refine G_aload_n (pc := 30) 0 dX8_years_30 rfl ?_
      refine gwC_X8_60_0 (pc := 31) dX8_years_31 ?_
      refine G_aload_n (pc := 34) 0 dX8_years_34 rfl ?_
      refine gwC_X8_53_0 (pc := 35) dX8_years_35 ?_
      refine G_bipush (pc := 38) (12) dX8_years_38 bp_12 ?_
      obtain ⟨q7, e7, h⟩ := bnd_some h
      refine G_callV2v (pc := 40) 28 6 dX8_years_40 wv_X8_201 cd_X7_run (S_X7_run _ _ _ e7) (by decide) (by decide) rfl (by decide) (fun _ _ => ⟨_, rfl⟩) (Nat.le_of_ble_eq_true rfl) ?_
      refine G_iload_n (pc := 43) 3 dX8_years_43 rfl ?_
      refine G_if_ne (pc := 44) 64 dX8_years_44 (by decide) (fun c8 => ?_) (fun c8 => ?_)
      · replace h := itn c8 h
        refine G_aload_n (pc := 64) 0 dX8_years_64 rfl ?_
        refine gwC_X8_60_0 (pc := 65) dX8_years_65 ?_
        refine gwC_X8_166_28 (pc := 68) dX8_years_68 ?_
        obtain ⟨q9, e9, h⟩ := bnd_some h
        refine G_callS1r (pc := 71) dX8_years_71 ws_X8_187 cd_J6_bitCount_0f7a4 (S_J6_bitCount_0f7a4 _ _ _ e9) (by decide) (by decide) (Nat.le_of_ble_eq_true rfl) ?_
        obtain rfl := Option.some.inj h
        exact G_iret (pc := 74) rfl dX8_years_74
      · replace h := itp c8 h
        refine G_aload_n (pc := 47) 0 dX8_years_47 rfl ?_
        refine gwC_X8_60_0 (pc := 48) dX8_years_48 ?_
        refine G_aload_n (pc := 51) 0 dX8_years_51 rfl ?_
        refine gwC_X8_53_0 (pc := 52) dX8_years_52 ?_
        refine gwC_X8_161_20 (pc := 55) dX8_years_55 ?_
        obtain ⟨q10, e10, h⟩ := bnd_some h
        refine G_callV1r (pc := 58) 28 6 dX8_years_58 wv_X8_163 cd_X7_mostColoured (S_X7_mostColoured _ _ _ e10) (by decide) (by decide) rfl (by decide) (fun _ _ => ⟨_, rfl⟩) (Nat.le_of_ble_eq_true rfl) ?_
        refine G_goto (pc := 61) 74 dX8_years_61 (by decide) ?_
        obtain rfl := Option.some.inj h
        exact G_iret (pc := 74) rfl dX8_years_74
    · replace h := itp c4 h
      refine G_bipush (pc := 17) (-2) dX8_years_17 bp_m2 ?_
      obtain rfl := Option.some.inj h
      exact G_iret (pc := 19) rfl dX8_years_19
def L_X4_renew_12 : Nat → Nat → Int32 → Mm → Option Mm
  | 0, _, _, _ => none
  | n + 1, s0, x3, μ => if 60 ≤ x3 then some μ else gi x3 60 (L_X4_renew_12 n s0 (x3 + 1) (wI μ (13 + 2 * s0) x3.toNatClampNeg 0))
set_option maxRecDepth 100000 in
set_option maxHeartbeats 4000000 in
theorem L_X4_renew_12_s (n : Nat) (s0 : Nat) (x3 : Int32) (μ : Mm) : L_X4_renew_12  (n + 1) s0 x3 μ = (if 60 ≤ x3 then some μ else gi x3 60 (L_X4_renew_12 n s0 (x3 + 1) (wI μ (13 + 2 * s0) x3.toNatClampNeg 0))) := rfl
set_option maxRecDepth 100000 in
set_option maxHeartbeats 4000000 in
theorem B_X4_renew_12 : ∀ (n : Nat) (s0 : Nat) (x3 : Int32) (μ : Mm) (q : Mm), s0 < 4 → L_X4_renew_12  n s0 x3 μ = some q → G wC RX4 cX4_renew 4 none 0 none q 12 [(0, .ref (12 + 2 * s0)), (3, .int x3)] [] μ := by
  intro n
  induction n with
  | zero =>
    intro s0 x3 μ q hs0 h
    cases h
  | succ n ih =>
    intro s0 x3 μ q hs0 h
    rw [L_X4_renew_12_s] at h
    refine G_iload_n (pc := 12) 1 dX4_renew_12 rfl ?_
    refine G_bipush (pc := 13) (60) dX4_renew_13 bp_60 ?_
    refine G_icmp_ge (pc := 15) 31 dX4_renew_15 (by decide) (fun c1 => ?_) (fun c1 => ?_)
    · replace h := itp c1 h
      obtain rfl := Option.some.inj h
      exact G_vret (pc := 31) rfl dX4_renew_31
    · replace h := itn c1 h
      refine G_aload_n (pc := 18) 0 dX4_renew_18 rfl ?_
      refine G_getS (pc := 19) hs0 0 (.ref (13 + 2 * s0)) dX4_renew_19 fl_X4_9_X4 (by decide) (fun _ => rfl) ?_
      refine G_iload_n (pc := 22) 1 dX4_renew_22 rfl ?_
      refine G_iconst (pc := 23) (0) dX4_renew_23 ci_0 ?_
      obtain ⟨g2, h⟩ := gi_some h
      refine G_iastS (pc := 24) hs0 dX4_renew_24 g2 ?_
      refine G_iinc (pc := 25) (1) 1 [(3, .int _), (0, .ref _)] dX4_renew_25 ci_1 rfl (Nat.le_of_ble_eq_true rfl) rfl ?_
      refine G_goto (pc := 28) 12 dX4_renew_28 (by decide) ?_
      refine G_loc [1, 0] [(0, .ref _), (3, .int _)] rfl ?_
      exact ih _ _ _ _ hs0 h
def F_X4_renew (s0 : Nat) (x1 : Int32) (x2 : Int32) (μ : Mm) : Option Mm := L_X4_renew_12 FUEL s0 0 (wI (wI μ (12 + 2 * s0) 1 x1) (12 + 2 * s0) 2 x2)
set_option maxRecDepth 100000 in
set_option maxHeartbeats 4000000 in
theorem S_X4_renew (s0 : Nat) (x1 : Int32) (x2 : Int32) (hs0 : s0 < 4) (μ : Mm) (q : Mm) (h : F_X4_renew s0 x1 x2 μ = some q) : Cn wC yX4_renew cX4_renew 4 none 0 [.ref (12 + 2 * s0), .int x1, .int x2] μ none q := by
  refine Cn_of (by decide +kernel) (Nat.le_of_ble_eq_true rfl) ?_
  show G wC RX4 cX4_renew 4 none 0 none q 0 [(0, .ref (12 + 2 * s0)), (1, .int x1), (2, .int x2)] [] μ
  unfold F_X4_renew at h
  refine G_aload_n (pc := 0) 0 dX4_renew_0 rfl ?_
  refine G_iload_n (pc := 1) 1 dX4_renew_1 rfl ?_
  refine G_putS (pc := 2) hs0 1 dX4_renew_2 fl_X4_15_X4 (by decide) ?_
  refine G_aload_n (pc := 5) 0 dX4_renew_5 rfl ?_
  refine G_iload_n (pc := 6) 2 dX4_renew_6 rfl ?_
  refine G_putS (pc := 7) hs0 2 dX4_renew_7 fl_X4_19_X4 (by decide) ?_
  refine G_iconst (pc := 10) (0) dX4_renew_10 ci_0 ?_
  refine G_istore_n (pc := 11) [(3, .int _), (0, .ref _), (1, .int _), (2, .int _)] dX4_renew_11 (Nat.le_of_ble_eq_true rfl) rfl ?_
  refine G_loc [1, 0] [(0, .ref _), (3, .int _)] rfl ?_
  exact B_X4_renew_12 _ _ _ _ _ hs0 h
def F_X8_sheet (x1 : Int32) (x2 : Int32) (x3 : Int32) (μ : Mm) : Option (Int32 × Mm) := (F_X8_isIn x1 4 μ).bind (fun q1 => if q1.1 = 0 then some ((-2), q1.2) else (F_X8_isIn x2 3 q1.2).bind (fun q3 => if q3.1 = 0 then some ((-2), q3.2) else if x3 ≤ 60 then if 0 ≤ x3 then gi x1 4 ((F_X4_renew x1.toNatClampNeg x2 x3 q3.2).bind (fun q8 => some (x3, q8))) else (F_X8_found 5 q3.2).bind (fun q9 => some (q9.1, q9.2)) else some ((-2), q3.2)))
set_option maxRecDepth 100000 in
set_option maxHeartbeats 4000000 in
theorem S_X8_sheet (x1 : Int32) (x2 : Int32) (x3 : Int32)  (μ : Mm) (q : (Int32 × Mm)) (h : F_X8_sheet x1 x2 x3 μ = some q) : Cn wC yX8_sheet cX8_sheet 4 (some .int) 1 [.ref 0, .int x1, .int x2, .int x3] μ (some (.int q.1)) q.2 := by
  refine Cn_of (by decide +kernel) (Nat.le_of_ble_eq_true rfl) ?_
  show G wC RX8 cX8_sheet 4 (some .int) 1 (some (.int q.1)) q.2 0 [(0, .ref 0), (1, .int x1), (2, .int x2), (3, .int x3)] [] μ
  unfold F_X8_sheet at h
  refine G_iload_n (pc := 0) 1 dX8_sheet_0 rfl ?_
  refine G_iconst (pc := 1) (4) dX8_sheet_1 ci_4 ?_
  obtain ⟨q1, e1, h⟩ := bnd_some h
  refine G_callS2r (pc := 2) dX8_sheet_2 ws_X8_104 cd_X8_isIn (S_X8_isIn _ _ _ _ e1) (by decide) (by decide) (Nat.le_of_ble_eq_true rfl) ?_
  refine G_if_eq (pc := 5) 22 dX8_sheet_5 (by decide) (fun c2 => ?_) (fun c2 => ?_)
  · replace h := itp c2 h
    refine G_bipush (pc := 22) (-2) dX8_sheet_22 bp_m2 ?_
    obtain rfl := Option.some.inj h
    exact G_iret (pc := 24) rfl dX8_sheet_24
  · replace h := itn c2 h
    refine G_iload_n (pc := 8) 2 dX8_sheet_8 rfl ?_
    refine G_iconst (pc := 9) (3) dX8_sheet_9 ci_3 ?_
    obtain ⟨q3, e3, h⟩ := bnd_some h
    refine G_callS2r (pc := 10) dX8_sheet_10 ws_X8_104 cd_X8_isIn (S_X8_isIn _ _ _ _ e3) (by decide) (by decide) (Nat.le_of_ble_eq_true rfl) ?_
    refine G_if_eq (pc := 13) 22 dX8_sheet_13 (by decide) (fun c4 => ?_) (fun c4 => ?_)
    · replace h := itp c4 h
      refine G_bipush (pc := 22) (-2) dX8_sheet_22 bp_m2 ?_
      obtain rfl := Option.some.inj h
      exact G_iret (pc := 24) rfl dX8_sheet_24
    · replace h := itn c4 h
      refine G_iload_n (pc := 16) 3 dX8_sheet_16 rfl ?_
      refine G_bipush (pc := 17) (60) dX8_sheet_17 bp_60 ?_
      refine G_icmp_le (pc := 19) 25 dX8_sheet_19 (by decide) (fun c5 => ?_) (fun c5 => ?_)
      · replace h := itp c5 h
        refine G_iload_n (pc := 25) 3 dX8_sheet_25 rfl ?_
        refine G_if_ge (pc := 26) 35 dX8_sheet_26 (by decide) (fun c6 => ?_) (fun c6 => ?_)
        · replace h := itp c6 h
          refine G_aload_n (pc := 35) 0 dX8_sheet_35 rfl ?_
          refine gwC_X8_40_0 (pc := 36) dX8_sheet_36 ?_
          refine G_iload_n (pc := 39) 1 dX8_sheet_39 rfl ?_
          obtain ⟨g7, h⟩ := gi_some h
          refine G_aaldS (pc := 40) dX8_sheet_40 g7 ?_
          refine G_iload_n (pc := 41) 2 dX8_sheet_41 rfl ?_
          refine G_iload_n (pc := 42) 3 dX8_sheet_42 rfl ?_
          obtain ⟨q8, e8, h⟩ := bnd_some h
          refine G_callV2v (pc := 43) (12 + 2 * x1.toNatClampNeg) 4 dX8_sheet_43 wv_X8_235 cd_X4_renew (S_X4_renew _ _ _ (vp_lt g7) _ _ e8) (by decide) (by decide) rfl (S_lt (vp_lt g7)) (G_cellS (vp_lt g7) _) (Nat.le_of_ble_eq_true rfl) ?_
          refine G_iload_n (pc := 46) 3 dX8_sheet_46 rfl ?_
          obtain rfl := Option.some.inj h
          exact G_iret (pc := 47) rfl dX8_sheet_47
        · replace h := itn c6 h
          refine G_aload_n (pc := 29) 0 dX8_sheet_29 rfl ?_
          refine G_iconst (pc := 30) (5) dX8_sheet_30 ci_5 ?_
          obtain ⟨q9, e9, h⟩ := bnd_some h
          refine G_callV1r (pc := 31) 0 7 dX8_sheet_31 wv_X8_125 cd_X8_found (S_X8_found _ _ _ e9) (by decide) (by decide) rfl (by decide) (fun _ _ => ⟨_, rfl⟩) (Nat.le_of_ble_eq_true rfl) ?_
          obtain rfl := Option.some.inj h
          exact G_iret (pc := 34) rfl dX8_sheet_34
      · replace h := itn c5 h
        refine G_bipush (pc := 22) (-2) dX8_sheet_22 bp_m2 ?_
        obtain rfl := Option.some.inj h
        exact G_iret (pc := 24) rfl dX8_sheet_24
def F_X8_lose (x1 : Int32) (μ : Mm) : Option (Int32 × Mm) := (F_X8_isIn x1 4 μ).bind (fun q1 => if q1.1 = 0 then some ((-2), q1.2) else gi x1 4 ((F_X4_isLost x1.toNatClampNeg q1.2).bind (fun q4 => if q4.1 = 0 then gi x1 4 (gi x1 4 (some (((wI q4.2 (12 + 2 * x1.toNatClampNeg) 1 (-1)).1 (12 + 2 * x1.toNatClampNeg) 2), (wI q4.2 (12 + 2 * x1.toNatClampNeg) 1 (-1))))) else (F_X8_found 1 q4.2).bind (fun q8 => some (q8.1, q8.2)))))
set_option maxRecDepth 100000 in
set_option maxHeartbeats 4000000 in
theorem S_X8_lose (x1 : Int32)  (μ : Mm) (q : (Int32 × Mm)) (h : F_X8_lose x1 μ = some q) : Cn wC yX8_lose cX8_lose 2 (some .int) 1 [.ref 0, .int x1] μ (some (.int q.1)) q.2 := by
  refine Cn_of (by decide +kernel) (Nat.le_of_ble_eq_true rfl) ?_
  show G wC RX8 cX8_lose 2 (some .int) 1 (some (.int q.1)) q.2 0 [(0, .ref 0), (1, .int x1)] [] μ
  unfold F_X8_lose at h
  refine G_iload_n (pc := 0) 1 dX8_lose_0 rfl ?_
  refine G_iconst (pc := 1) (4) dX8_lose_1 ci_4 ?_
  obtain ⟨q1, e1, h⟩ := bnd_some h
  refine G_callS2r (pc := 2) dX8_lose_2 ws_X8_104 cd_X8_isIn (S_X8_isIn _ _ _ _ e1) (by decide) (by decide) (Nat.le_of_ble_eq_true rfl) ?_
  refine G_if_ne (pc := 5) 11 dX8_lose_5 (by decide) (fun c2 => ?_) (fun c2 => ?_)
  · replace h := itn c2 h
    refine G_aload_n (pc := 11) 0 dX8_lose_11 rfl ?_
    refine gwC_X8_40_0 (pc := 12) dX8_lose_12 ?_
    refine G_iload_n (pc := 15) 1 dX8_lose_15 rfl ?_
    obtain ⟨g3, h⟩ := gi_some h
    refine G_aaldS (pc := 16) dX8_lose_16 g3 ?_
    obtain ⟨q4, e4, h⟩ := bnd_some h
    refine G_callV0r (pc := 17) (12 + 2 * x1.toNatClampNeg) 4 dX8_lose_17 wv_X8_121 cd_X4_isLost (S_X4_isLost _ (vp_lt g3) _ _ e4) (by decide) (by decide) rfl (S_lt (vp_lt g3)) (G_cellS (vp_lt g3) _) (Nat.le_of_ble_eq_true rfl) ?_
    refine G_if_eq (pc := 20) 29 dX8_lose_20 (by decide) (fun c5 => ?_) (fun c5 => ?_)
    · replace h := itp c5 h
      refine G_aload_n (pc := 29) 0 dX8_lose_29 rfl ?_
      refine gwC_X8_40_0 (pc := 30) dX8_lose_30 ?_
      refine G_iload_n (pc := 33) 1 dX8_lose_33 rfl ?_
      obtain ⟨g6, h⟩ := gi_some h
      refine G_aaldS (pc := 34) dX8_lose_34 g6 ?_
      refine G_iconst (pc := 35) (-1) dX8_lose_35 ci_m1 ?_
      refine G_putS (pc := 36) (vp_lt g6) 1 dX8_lose_36 fl_X8_238_X4 (by decide) ?_
      refine G_aload_n (pc := 39) 0 dX8_lose_39 rfl ?_
      refine gwC_X8_40_0 (pc := 40) dX8_lose_40 ?_
      refine G_iload_n (pc := 43) 1 dX8_lose_43 rfl ?_
      obtain ⟨g7, h⟩ := gi_some h
      refine G_aaldS (pc := 44) dX8_lose_44 g7 ?_
      refine G_getS (pc := 45) (vp_lt g7) 2 (.int _) dX8_lose_45 fl_X8_129_X4 (by decide) (fun _ => rfl) ?_
      obtain rfl := Option.some.inj h
      exact G_iret (pc := 48) rfl dX8_lose_48
    · replace h := itn c5 h
      refine G_aload_n (pc := 23) 0 dX8_lose_23 rfl ?_
      refine G_iconst (pc := 24) (1) dX8_lose_24 ci_1 ?_
      obtain ⟨q8, e8, h⟩ := bnd_some h
      refine G_callV1r (pc := 25) 0 7 dX8_lose_25 wv_X8_125 cd_X8_found (S_X8_found _ _ _ e8) (by decide) (by decide) rfl (by decide) (fun _ _ => ⟨_, rfl⟩) (Nat.le_of_ble_eq_true rfl) ?_
      obtain rfl := Option.some.inj h
      exact G_iret (pc := 28) rfl dX8_lose_28
  · replace h := itp c2 h
    refine G_bipush (pc := 8) (-2) dX8_lose_8 bp_m2 ?_
    obtain rfl := Option.some.inj h
    exact G_iret (pc := 10) rfl dX8_lose_10
def F_X4_findingAt (s0 : Nat) (x1 : Int32) (x2 : Int32) (μ : Mm) : Option (Int32 × Mm) := (F_X4_isLost s0 μ).bind (fun q1 => if q1.1 = 0 then if (q1.2.1 (12 + 2 * s0) 1) = x1 then (F_X8_isIn x2 (q1.2.1 (12 + 2 * s0) 2) q1.2).bind (fun q4 => some ((if q4.1 = 0 then 2 else 0), q4.2)) else some (3, q1.2) else some (1, q1.2))
set_option maxRecDepth 100000 in
set_option maxHeartbeats 4000000 in
theorem S_X4_findingAt (s0 : Nat) (x1 : Int32) (x2 : Int32) (hs0 : s0 < 4) (μ : Mm) (q : (Int32 × Mm)) (h : F_X4_findingAt s0 x1 x2 μ = some q) : Cn wC yX4_findingAt cX4_findingAt 3 (some .int) 1 [.ref (12 + 2 * s0), .int x1, .int x2] μ (some (.int q.1)) q.2 := by
  refine Cn_of (by decide +kernel) (Nat.le_of_ble_eq_true rfl) ?_
  show G wC RX4 cX4_findingAt 3 (some .int) 1 (some (.int q.1)) q.2 0 [(0, .ref (12 + 2 * s0)), (1, .int x1), (2, .int x2)] [] μ
  unfold F_X4_findingAt at h
  refine G_aload_n (pc := 0) 0 dX4_findingAt_0 rfl ?_
  obtain ⟨q1, e1, h⟩ := bnd_some h
  refine G_callV0r (pc := 1) (12 + 2 * s0) 4 dX4_findingAt_1 wv_X4_22 cd_X4_isLost (S_X4_isLost _ hs0 _ _ e1) (by decide) (by decide) rfl (S_lt hs0) (G_cellS hs0 _) (Nat.le_of_ble_eq_true rfl) ?_
  refine G_if_eq (pc := 4) 9 dX4_findingAt_4 (by decide) (fun c2 => ?_) (fun c2 => ?_)
  · replace h := itp c2 h
    refine G_aload_n (pc := 9) 0 dX4_findingAt_9 rfl ?_
    refine G_getS (pc := 10) hs0 1 (.int _) dX4_findingAt_10 fl_X4_15_X4 (by decide) (fun _ => rfl) ?_
    refine G_iload_n (pc := 13) 1 dX4_findingAt_13 rfl ?_
    refine G_icmp_eq (pc := 14) 19 dX4_findingAt_14 (by decide) (fun c3 => ?_) (fun c3 => ?_)
    · replace h := itp c3 h
      refine G_iload_n (pc := 19) 2 dX4_findingAt_19 rfl ?_
      refine G_aload_n (pc := 20) 0 dX4_findingAt_20 rfl ?_
      refine G_getS (pc := 21) hs0 2 (.int _) dX4_findingAt_21 fl_X4_19_X4 (by decide) (fun _ => rfl) ?_
      obtain ⟨q4, e4, h⟩ := bnd_some h
      refine G_callN2r (pc := 24) dX4_findingAt_24 wn_X4_26 (fun _ h => h.2.2) cd_X8_isIn (S_X8_isIn _ _ _ _ e4) (by decide) (by decide) (Nat.le_of_ble_eq_true rfl) ?_
      refine G_if_eq (pc := 27) 34 dX4_findingAt_27 (by decide) (fun c5 => ?_) (fun c5 => ?_)
      · rw [if_pos c5] at h
        refine G_iconst (pc := 34) (2) dX4_findingAt_34 ci_2 ?_
        obtain rfl := Option.some.inj h
        exact G_iret (pc := 35) rfl dX4_findingAt_35
      · rw [if_neg c5] at h
        refine G_iconst (pc := 30) (0) dX4_findingAt_30 ci_0 ?_
        refine G_goto (pc := 31) 35 dX4_findingAt_31 (by decide) ?_
        obtain rfl := Option.some.inj h
        exact G_iret (pc := 35) rfl dX4_findingAt_35
    · replace h := itn c3 h
      refine G_iconst (pc := 17) (3) dX4_findingAt_17 ci_3 ?_
      obtain rfl := Option.some.inj h
      exact G_iret (pc := 18) rfl dX4_findingAt_18
  · replace h := itn c2 h
    refine G_iconst (pc := 7) (1) dX4_findingAt_7 ci_1 ?_
    obtain rfl := Option.some.inj h
    exact G_iret (pc := 8) rfl dX4_findingAt_8
def F_X4_put (s0 : Nat) (x1 : Int32) (x2 : Int32) (μ : Mm) : Option Mm := if (μ.1 (12 + 2 * s0) 1) = 0 then gi x1 60 (some (wI μ (13 + 2 * s0) x1.toNatClampNeg x2.toInt8.toInt32)) else if (μ.1 (12 + 2 * s0) 1) = 1 then gi x1 60 (some (wI μ (13 + 2 * s0) x1.toNatClampNeg x2.toInt16.toInt32)) else gi x1 60 (some (wI μ (13 + 2 * s0) x1.toNatClampNeg x2))
set_option maxRecDepth 100000 in
set_option maxHeartbeats 4000000 in
theorem S_X4_put (s0 : Nat) (x1 : Int32) (x2 : Int32) (hs0 : s0 < 4) (μ : Mm) (q : Mm) (h : F_X4_put s0 x1 x2 μ = some q) : Cn wC yX4_put cX4_put 3 none 0 [.ref (12 + 2 * s0), .int x1, .int x2] μ none q := by
  refine Cn_of (by decide +kernel) (Nat.le_of_ble_eq_true rfl) ?_
  show G wC RX4 cX4_put 3 none 0 none q 0 [(0, .ref (12 + 2 * s0)), (1, .int x1), (2, .int x2)] [] μ
  unfold F_X4_put at h
  refine G_aload_n (pc := 0) 0 dX4_put_0 rfl ?_
  refine G_getS (pc := 1) hs0 1 (.int _) dX4_put_1 fl_X4_15_X4 (by decide) (fun _ => rfl) ?_
  refine G_if_ne (pc := 4) 18 dX4_put_4 (by decide) (fun c1 => ?_) (fun c1 => ?_)
  · replace h := itn c1 h
    refine G_aload_n (pc := 18) 0 dX4_put_18 rfl ?_
    refine G_getS (pc := 19) hs0 1 (.int _) dX4_put_19 fl_X4_15_X4 (by decide) (fun _ => rfl) ?_
    refine G_iconst (pc := 22) (1) dX4_put_22 ci_1 ?_
    refine G_icmp_ne (pc := 23) 37 dX4_put_23 (by decide) (fun c2 => ?_) (fun c2 => ?_)
    · replace h := itn c2 h
      refine G_aload_n (pc := 37) 0 dX4_put_37 rfl ?_
      refine G_getS (pc := 38) hs0 0 (.ref (13 + 2 * s0)) dX4_put_38 fl_X4_9_X4 (by decide) (fun _ => rfl) ?_
      refine G_iload_n (pc := 41) 1 dX4_put_41 rfl ?_
      refine G_iload_n (pc := 42) 2 dX4_put_42 rfl ?_
      obtain ⟨g3, h⟩ := gi_some h
      refine G_iastS (pc := 43) hs0 dX4_put_43 g3 ?_
      obtain rfl := Option.some.inj h
      exact G_vret (pc := 44) rfl dX4_put_44
    · replace h := itp c2 h
      refine G_aload_n (pc := 26) 0 dX4_put_26 rfl ?_
      refine G_getS (pc := 27) hs0 0 (.ref (13 + 2 * s0)) dX4_put_27 fl_X4_9_X4 (by decide) (fun _ => rfl) ?_
      refine G_iload_n (pc := 30) 1 dX4_put_30 rfl ?_
      refine G_iload_n (pc := 31) 2 dX4_put_31 rfl ?_
      refine G_i2s (pc := 32) dX4_put_32 ?_
      obtain ⟨g4, h⟩ := gi_some h
      refine G_iastS (pc := 33) hs0 dX4_put_33 g4 ?_
      refine G_goto (pc := 34) 44 dX4_put_34 (by decide) ?_
      obtain rfl := Option.some.inj h
      exact G_vret (pc := 44) rfl dX4_put_44
  · replace h := itp c1 h
    refine G_aload_n (pc := 7) 0 dX4_put_7 rfl ?_
    refine G_getS (pc := 8) hs0 0 (.ref (13 + 2 * s0)) dX4_put_8 fl_X4_9_X4 (by decide) (fun _ => rfl) ?_
    refine G_iload_n (pc := 11) 1 dX4_put_11 rfl ?_
    refine G_iload_n (pc := 12) 2 dX4_put_12 rfl ?_
    refine G_i2b (pc := 13) dX4_put_13 ?_
    obtain ⟨g5, h⟩ := gi_some h
    refine G_iastS (pc := 14) hs0 dX4_put_14 g5 ?_
    refine G_goto (pc := 15) 44 dX4_put_15 (by decide) ?_
    obtain rfl := Option.some.inj h
    exact G_vret (pc := 44) rfl dX4_put_44
def F_X8_lay (x1 : Int32) (x2 : Int32) (x3 : Int32) (x4 : Int32) (μ : Mm) : Option (Int32 × Mm) := (F_X8_isIn x1 4 μ).bind (fun q1 => if q1.1 = 0 then some ((-2), q1.2) else (F_X8_isIn x2 3 q1.2).bind (fun q3 => if q3.1 = 0 then some ((-2), q3.2) else gi x1 4 ((F_X4_findingAt x1.toNatClampNeg x2 x3 q3.2).bind (fun q6 => if q6.1 = 0 then gi x1 4 ((F_X4_put x1.toNatClampNeg x3 x4 q6.2).bind (fun q9 => some (1, q9))) else (F_X8_found q6.1 q6.2).bind (fun q10 => some (q10.1, q10.2))))))
set_option maxRecDepth 100000 in
set_option maxHeartbeats 4000000 in
theorem S_X8_lay (x1 : Int32) (x2 : Int32) (x3 : Int32) (x4 : Int32)  (μ : Mm) (q : (Int32 × Mm)) (h : F_X8_lay x1 x2 x3 x4 μ = some q) : Cn wC yX8_lay cX8_lay 6 (some .int) 2 [.ref 0, .int x1, .int x2, .int x3, .int x4] μ (some (.int q.1)) q.2 := by
  refine Cn_of (by decide +kernel) (Nat.le_of_ble_eq_true rfl) ?_
  show G wC RX8 cX8_lay 6 (some .int) 2 (some (.int q.1)) q.2 0 [(0, .ref 0), (1, .int x1), (2, .int x2), (3, .int x3), (4, .int x4)] [] μ
  unfold F_X8_lay at h
  refine G_iload_n (pc := 0) 1 dX8_lay_0 rfl ?_
  refine G_iconst (pc := 1) (4) dX8_lay_1 ci_4 ?_
  obtain ⟨q1, e1, h⟩ := bnd_some h
  refine G_callS2r (pc := 2) dX8_lay_2 ws_X8_104 cd_X8_isIn (S_X8_isIn _ _ _ _ e1) (by decide) (by decide) (Nat.le_of_ble_eq_true rfl) ?_
  refine G_if_eq (pc := 5) 16 dX8_lay_5 (by decide) (fun c2 => ?_) (fun c2 => ?_)
  · replace h := itp c2 h
    refine G_bipush (pc := 16) (-2) dX8_lay_16 bp_m2 ?_
    obtain rfl := Option.some.inj h
    exact G_iret (pc := 18) rfl dX8_lay_18
  · replace h := itn c2 h
    refine G_iload_n (pc := 8) 2 dX8_lay_8 rfl ?_
    refine G_iconst (pc := 9) (3) dX8_lay_9 ci_3 ?_
    obtain ⟨q3, e3, h⟩ := bnd_some h
    refine G_callS2r (pc := 10) dX8_lay_10 ws_X8_104 cd_X8_isIn (S_X8_isIn _ _ _ _ e3) (by decide) (by decide) (Nat.le_of_ble_eq_true rfl) ?_
    refine G_if_ne (pc := 13) 19 dX8_lay_13 (by decide) (fun c4 => ?_) (fun c4 => ?_)
    · replace h := itn c4 h
      refine G_aload_n (pc := 19) 0 dX8_lay_19 rfl ?_
      refine gwC_X8_40_0 (pc := 20) dX8_lay_20 ?_
      refine G_iload_n (pc := 23) 1 dX8_lay_23 rfl ?_
      obtain ⟨g5, h⟩ := gi_some h
      refine G_aaldS (pc := 24) dX8_lay_24 g5 ?_
      refine G_iload_n (pc := 25) 2 dX8_lay_25 rfl ?_
      refine G_iload_n (pc := 26) 3 dX8_lay_26 rfl ?_
      obtain ⟨q6, e6, h⟩ := bnd_some h
      refine G_callV2r (pc := 27) (12 + 2 * x1.toNatClampNeg) 4 dX8_lay_27 wv_X8_241 cd_X4_findingAt (S_X4_findingAt _ _ _ (vp_lt g5) _ _ e6) (by decide) (by decide) rfl (S_lt (vp_lt g5)) (G_cellS (vp_lt g5) _) (Nat.le_of_ble_eq_true rfl) ?_
      refine G_istore (pc := 30) [(5, .int _), (0, .ref _), (1, .int _), (2, .int _), (3, .int _), (4, .int _)] dX8_lay_30 (Nat.le_of_ble_eq_true rfl) rfl ?_
      refine G_iload (pc := 32) 0 dX8_lay_32 rfl ?_
      refine G_if_eq (pc := 34) 44 dX8_lay_34 (by decide) (fun c7 => ?_) (fun c7 => ?_)
      · replace h := itp c7 h
        refine G_aload_n (pc := 44) 1 dX8_lay_44 rfl ?_
        refine gwC_X8_40_0 (pc := 45) dX8_lay_45 ?_
        refine G_iload_n (pc := 48) 2 dX8_lay_48 rfl ?_
        obtain ⟨g8, h⟩ := gi_some h
        refine G_aaldS (pc := 49) dX8_lay_49 g8 ?_
        refine G_iload_n (pc := 50) 4 dX8_lay_50 rfl ?_
        refine G_iload (pc := 51) 5 dX8_lay_51 rfl ?_
        obtain ⟨q9, e9, h⟩ := bnd_some h
        refine G_callV2v (pc := 53) (12 + 2 * x1.toNatClampNeg) 4 dX8_lay_53 wv_X8_244 cd_X4_put (S_X4_put _ _ _ (vp_lt g8) _ _ e9) (by decide) (by decide) rfl (S_lt (vp_lt g8)) (G_cellS (vp_lt g8) _) (Nat.le_of_ble_eq_true rfl) ?_
        refine G_iconst (pc := 56) (1) dX8_lay_56 ci_1 ?_
        obtain rfl := Option.some.inj h
        exact G_iret (pc := 57) rfl dX8_lay_57
      · replace h := itn c7 h
        refine G_aload_n (pc := 37) 1 dX8_lay_37 rfl ?_
        refine G_iload (pc := 38) 0 dX8_lay_38 rfl ?_
        obtain ⟨q10, e10, h⟩ := bnd_some h
        refine G_callV1r (pc := 40) 0 7 dX8_lay_40 wv_X8_125 cd_X8_found (S_X8_found _ _ _ e10) (by decide) (by decide) rfl (by decide) (fun _ _ => ⟨_, rfl⟩) (Nat.le_of_ble_eq_true rfl) ?_
        obtain rfl := Option.some.inj h
        exact G_iret (pc := 43) rfl dX8_lay_43
    · replace h := itp c4 h
      refine G_bipush (pc := 16) (-2) dX8_lay_16 bp_m2 ?_
      obtain rfl := Option.some.inj h
      exact G_iret (pc := 18) rfl dX8_lay_18
def F_X8_get (x1 : Int32) (x2 : Int32) (x3 : Int32) (μ : Mm) : Option (Int32 × Mm) := (F_X8_isIn x1 4 μ).bind (fun q1 => if q1.1 = 0 then some ((-2147483648), q1.2) else (F_X8_isIn x2 3 q1.2).bind (fun q3 => if q3.1 = 0 then some ((-2147483648), q3.2) else gi x1 4 ((F_X4_findingAt x1.toNatClampNeg x2 x3 q3.2).bind (fun q6 => if q6.1 = 0 then gi x1 4 (gi x3 60 (some ((q6.2.1 (13 + 2 * x1.toNatClampNeg) x3.toNatClampNeg), q6.2))) else (F_X8_found q6.1 q6.2).bind (fun q10 => some ((-2147483648), q10.2))))))
set_option maxRecDepth 100000 in
set_option maxHeartbeats 4000000 in
theorem S_X8_get (x1 : Int32) (x2 : Int32) (x3 : Int32)  (μ : Mm) (q : (Int32 × Mm)) (h : F_X8_get x1 x2 x3 μ = some q) : Cn wC yX8_get cX8_get 5 (some .int) 2 [.ref 0, .int x1, .int x2, .int x3] μ (some (.int q.1)) q.2 := by
  refine Cn_of (by decide +kernel) (Nat.le_of_ble_eq_true rfl) ?_
  show G wC RX8 cX8_get 5 (some .int) 2 (some (.int q.1)) q.2 0 [(0, .ref 0), (1, .int x1), (2, .int x2), (3, .int x3)] [] μ
  unfold F_X8_get at h
  refine G_iload_n (pc := 0) 1 dX8_get_0 rfl ?_
  refine G_iconst (pc := 1) (4) dX8_get_1 ci_4 ?_
  obtain ⟨q1, e1, h⟩ := bnd_some h
  refine G_callS2r (pc := 2) dX8_get_2 ws_X8_104 cd_X8_isIn (S_X8_isIn _ _ _ _ e1) (by decide) (by decide) (Nat.le_of_ble_eq_true rfl) ?_
  refine G_if_eq (pc := 5) 16 dX8_get_5 (by decide) (fun c2 => ?_) (fun c2 => ?_)
  · replace h := itp c2 h
    refine G_ldc (pc := 16) (-2147483648) dX8_get_16 k_X8_247 ?_
    obtain rfl := Option.some.inj h
    exact G_iret (pc := 18) rfl dX8_get_18
  · replace h := itn c2 h
    refine G_iload_n (pc := 8) 2 dX8_get_8 rfl ?_
    refine G_iconst (pc := 9) (3) dX8_get_9 ci_3 ?_
    obtain ⟨q3, e3, h⟩ := bnd_some h
    refine G_callS2r (pc := 10) dX8_get_10 ws_X8_104 cd_X8_isIn (S_X8_isIn _ _ _ _ e3) (by decide) (by decide) (Nat.le_of_ble_eq_true rfl) ?_
    refine G_if_ne (pc := 13) 19 dX8_get_13 (by decide) (fun c4 => ?_) (fun c4 => ?_)
    · replace h := itn c4 h
      refine G_aload_n (pc := 19) 0 dX8_get_19 rfl ?_
      refine gwC_X8_40_0 (pc := 20) dX8_get_20 ?_
      refine G_iload_n (pc := 23) 1 dX8_get_23 rfl ?_
      obtain ⟨g5, h⟩ := gi_some h
      refine G_aaldS (pc := 24) dX8_get_24 g5 ?_
      refine G_iload_n (pc := 25) 2 dX8_get_25 rfl ?_
      refine G_iload_n (pc := 26) 3 dX8_get_26 rfl ?_
      obtain ⟨q6, e6, h⟩ := bnd_some h
      refine G_callV2r (pc := 27) (12 + 2 * x1.toNatClampNeg) 4 dX8_get_27 wv_X8_241 cd_X4_findingAt (S_X4_findingAt _ _ _ (vp_lt g5) _ _ e6) (by decide) (by decide) rfl (S_lt (vp_lt g5)) (G_cellS (vp_lt g5) _) (Nat.le_of_ble_eq_true rfl) ?_
      refine G_istore (pc := 30) [(4, .int _), (0, .ref _), (1, .int _), (2, .int _), (3, .int _)] dX8_get_30 (Nat.le_of_ble_eq_true rfl) rfl ?_
      refine G_iload (pc := 32) 0 dX8_get_32 rfl ?_
      refine G_if_eq (pc := 34) 47 dX8_get_34 (by decide) (fun c7 => ?_) (fun c7 => ?_)
      · replace h := itp c7 h
        refine G_aload_n (pc := 47) 1 dX8_get_47 rfl ?_
        refine gwC_X8_40_0 (pc := 48) dX8_get_48 ?_
        refine G_iload_n (pc := 51) 2 dX8_get_51 rfl ?_
        obtain ⟨g8, h⟩ := gi_some h
        refine G_aaldS (pc := 52) dX8_get_52 g8 ?_
        refine G_getS (pc := 53) (vp_lt g8) 0 (.ref (13 + 2 * x1.toNatClampNeg)) dX8_get_53 fl_X8_130_X4 (by decide) (fun _ => rfl) ?_
        refine G_iload_n (pc := 56) 4 dX8_get_56 rfl ?_
        obtain ⟨g9, h⟩ := gi_some h
        refine G_ialdS (pc := 57) (vp_lt g8) dX8_get_57 g9 ?_
        obtain rfl := Option.some.inj h
        exact G_iret (pc := 58) rfl dX8_get_58
      · replace h := itn c7 h
        refine G_aload_n (pc := 37) 1 dX8_get_37 rfl ?_
        refine G_iload (pc := 38) 0 dX8_get_38 rfl ?_
        obtain ⟨q10, e10, h⟩ := bnd_some h
        refine G_callV1r (pc := 40) 0 7 dX8_get_40 wv_X8_125 cd_X8_found (S_X8_found _ _ _ e10) (by decide) (by decide) rfl (by decide) (fun _ _ => ⟨_, rfl⟩) (Nat.le_of_ble_eq_true rfl) ?_
        refine G_pop (pc := 43) dX8_get_43 rfl ?_
        refine G_ldc (pc := 44) (-2147483648) dX8_get_44 k_X8_247 ?_
        obtain rfl := Option.some.inj h
        exact G_iret (pc := 46) rfl dX8_get_46
    · replace h := itp c4 h
      refine G_ldc (pc := 16) (-2147483648) dX8_get_16 k_X8_247 ?_
      obtain rfl := Option.some.inj h
      exact G_iret (pc := 18) rfl dX8_get_18
def F_X4_hasSpan (s0 : Nat) (x1 : Int32) (x2 : Int32) (μ : Mm) : Option (Int32 × Mm) := some ((if x1 < 0 then 0 else (if x2 < 0 then 0 else (if (μ.1 (12 + 2 * s0) 2) < x1 then 0 else (if ((μ.1 (12 + 2 * s0) 2) - x1) < x2 then 0 else 1)))), μ)
set_option maxRecDepth 100000 in
set_option maxHeartbeats 4000000 in
theorem S_X4_hasSpan (s0 : Nat) (x1 : Int32) (x2 : Int32) (hs0 : s0 < 4) (μ : Mm) (q : (Int32 × Mm)) (h : F_X4_hasSpan s0 x1 x2 μ = some q) : Cn wC yX4_hasSpan cX4_hasSpan 3 (some .boolean) 0 [.ref (12 + 2 * s0), .int x1, .int x2] μ (some (.int q.1)) q.2 := by
  refine Cn_of (by decide +kernel) (Nat.le_of_ble_eq_true rfl) ?_
  show G wC RX4 cX4_hasSpan 3 (some .boolean) 0 (some (.int q.1)) q.2 0 [(0, .ref (12 + 2 * s0)), (1, .int x1), (2, .int x2)] [] μ
  unfold F_X4_hasSpan at h
  refine G_iload_n (pc := 0) 1 dX4_hasSpan_0 rfl ?_
  refine G_if_lt (pc := 1) 30 dX4_hasSpan_1 (by decide) (fun c1 => ?_) (fun c1 => ?_)
  · rw [if_pos c1] at h
    refine G_iconst (pc := 30) (0) dX4_hasSpan_30 ci_0 ?_
    obtain rfl := Option.some.inj h
    exact G_zret (pc := 31) rfl (Or.inl rfl) dX4_hasSpan_31
  · rw [if_neg c1] at h
    refine G_iload_n (pc := 4) 2 dX4_hasSpan_4 rfl ?_
    refine G_if_lt (pc := 5) 30 dX4_hasSpan_5 (by decide) (fun c2 => ?_) (fun c2 => ?_)
    · rw [if_pos c2] at h
      refine G_iconst (pc := 30) (0) dX4_hasSpan_30 ci_0 ?_
      obtain rfl := Option.some.inj h
      exact G_zret (pc := 31) rfl (Or.inl rfl) dX4_hasSpan_31
    · rw [if_neg c2] at h
      refine G_iload_n (pc := 8) 1 dX4_hasSpan_8 rfl ?_
      refine G_aload_n (pc := 9) 0 dX4_hasSpan_9 rfl ?_
      refine G_getS (pc := 10) hs0 2 (.int _) dX4_hasSpan_10 fl_X4_19_X4 (by decide) (fun _ => rfl) ?_
      refine G_icmp_gt (pc := 13) 30 dX4_hasSpan_13 (by decide) (fun c3 => ?_) (fun c3 => ?_)
      · rw [if_pos c3] at h
        refine G_iconst (pc := 30) (0) dX4_hasSpan_30 ci_0 ?_
        obtain rfl := Option.some.inj h
        exact G_zret (pc := 31) rfl (Or.inl rfl) dX4_hasSpan_31
      · rw [if_neg c3] at h
        refine G_iload_n (pc := 16) 2 dX4_hasSpan_16 rfl ?_
        refine G_aload_n (pc := 17) 0 dX4_hasSpan_17 rfl ?_
        refine G_getS (pc := 18) hs0 2 (.int _) dX4_hasSpan_18 fl_X4_19_X4 (by decide) (fun _ => rfl) ?_
        refine G_iload_n (pc := 21) 1 dX4_hasSpan_21 rfl ?_
        refine G_isub (pc := 22) dX4_hasSpan_22 ?_
        refine G_icmp_gt (pc := 23) 30 dX4_hasSpan_23 (by decide) (fun c4 => ?_) (fun c4 => ?_)
        · rw [if_pos c4] at h
          refine G_iconst (pc := 30) (0) dX4_hasSpan_30 ci_0 ?_
          obtain rfl := Option.some.inj h
          exact G_zret (pc := 31) rfl (Or.inl rfl) dX4_hasSpan_31
        · rw [if_neg c4] at h
          refine G_iconst (pc := 26) (1) dX4_hasSpan_26 ci_1 ?_
          refine G_goto (pc := 27) 31 dX4_hasSpan_27 (by decide) ?_
          obtain rfl := Option.some.inj h
          exact G_zret (pc := 31) rfl (Or.inr rfl) dX4_hasSpan_31
def F_X8_copy_51  (μ : Mm) : Option (Int32 × Mm) := (F_X8_found 1 μ).bind (fun q9 => some (q9.1, q9.2))
set_option maxRecDepth 100000 in
set_option maxHeartbeats 4000000 in
theorem B_X8_copy_51  (μ : Mm) (q : (Int32 × Mm))  (h : F_X8_copy_51   μ = some q) : G wC RX8 cX8_copy 8 (some .int) 1 (some (.int q.1)) q.2 51 [(0, .ref 0)] [] μ := by
  unfold F_X8_copy_51 at h
  refine G_aload_n (pc := 51) 0 dX8_copy_51 rfl ?_
  refine G_iconst (pc := 52) (1) dX8_copy_52 ci_1 ?_
  obtain ⟨q9, e9, h⟩ := bnd_some h
  refine G_callV1r (pc := 53) 0 7 dX8_copy_53 wv_X8_125 cd_X8_found (S_X8_found _ _ _ e9) (by decide) (by decide) rfl (by decide) (fun _ _ => ⟨_, rfl⟩) (Nat.le_of_ble_eq_true rfl) ?_
  obtain rfl := Option.some.inj h
  exact G_iret (pc := 56) rfl dX8_copy_56
def F_X8_copy_99  (μ : Mm) : Option (Int32 × Mm) := (F_X8_found 2 μ).bind (fun q15 => some (q15.1, q15.2))
set_option maxRecDepth 100000 in
set_option maxHeartbeats 4000000 in
theorem B_X8_copy_99  (μ : Mm) (q : (Int32 × Mm))  (h : F_X8_copy_99   μ = some q) : G wC RX8 cX8_copy 8 (some .int) 1 (some (.int q.1)) q.2 99 [(0, .ref 0)] [] μ := by
  unfold F_X8_copy_99 at h
  refine G_aload_n (pc := 99) 0 dX8_copy_99 rfl ?_
  refine G_iconst (pc := 100) (2) dX8_copy_100 ci_2 ?_
  obtain ⟨q15, e15, h⟩ := bnd_some h
  refine G_callV1r (pc := 101) 0 7 dX8_copy_101 wv_X8_125 cd_X8_found (S_X8_found _ _ _ e15) (by decide) (by decide) rfl (by decide) (fun _ _ => ⟨_, rfl⟩) (Nat.le_of_ble_eq_true rfl) ?_
  obtain rfl := Option.some.inj h
  exact G_iret (pc := 104) rfl dX8_copy_104
def F_X8_copy (x1 : Int32) (x2 : Int32) (x3 : Int32) (x4 : Int32) (x5 : Int32) (μ : Mm) : Option (Int32 × Mm) := (F_X8_isIn x1 4 μ).bind (fun q1 => if q1.1 = 0 then some ((-2), q1.2) else (F_X8_isIn x3 4 q1.2).bind (fun q3 => if q3.1 = 0 then some ((-2), q3.2) else gi x1 4 (gi x3 4 ((F_X4_isLost x1.toNatClampNeg q3.2).bind (fun q7 => if q7.1 = 0 then (F_X4_isLost x3.toNatClampNeg q7.2).bind (fun q10 => if q10.1 = 0 then if (q10.2.1 (12 + 2 * x1.toNatClampNeg) 1) = (q10.2.1 (12 + 2 * x3.toNatClampNeg) 1) then (F_X4_hasSpan x1.toNatClampNeg x2 x5 q10.2).bind (fun q13 => if q13.1 = 0 then F_X8_copy_99 q13.2 else (F_X4_hasSpan x3.toNatClampNeg x4 x5 q13.2).bind (fun q16 => if q16.1 = 0 then F_X8_copy_99 q16.2 else gc x2 x4 x5 60 60 (some (1, (wR q16.2 (13 + 2 * x3.toNatClampNeg) (va_cpy (q16.2.1 (13 + 2 * x1.toNatClampNeg)) (q16.2.1 (13 + 2 * x3.toNatClampNeg)) x2.toNatClampNeg x4.toNatClampNeg x5.toNatClampNeg)))))) else (F_X8_found 4 q10.2).bind (fun q19 => some (q19.1, q19.2)) else F_X8_copy_51 q10.2) else F_X8_copy_51 q7.2)))))
set_option maxRecDepth 100000 in
set_option maxHeartbeats 4000000 in
theorem S_X8_copy (x1 : Int32) (x2 : Int32) (x3 : Int32) (x4 : Int32) (x5 : Int32)  (μ : Mm) (q : (Int32 × Mm)) (h : F_X8_copy x1 x2 x3 x4 x5 μ = some q) : Cn wC yX8_copy cX8_copy 8 (some .int) 1 [.ref 0, .int x1, .int x2, .int x3, .int x4, .int x5] μ (some (.int q.1)) q.2 := by
  refine Cn_of (by decide +kernel) (Nat.le_of_ble_eq_true rfl) ?_
  show G wC RX8 cX8_copy 8 (some .int) 1 (some (.int q.1)) q.2 0 [(0, .ref 0), (1, .int x1), (2, .int x2), (3, .int x3), (4, .int x4), (5, .int x5)] [] μ
  unfold F_X8_copy at h
  refine G_iload_n (pc := 0) 1 dX8_copy_0 rfl ?_
  refine G_iconst (pc := 1) (4) dX8_copy_1 ci_4 ?_
  obtain ⟨q1, e1, h⟩ := bnd_some h
  refine G_callS2r (pc := 2) dX8_copy_2 ws_X8_104 cd_X8_isIn (S_X8_isIn _ _ _ _ e1) (by decide) (by decide) (Nat.le_of_ble_eq_true rfl) ?_
  refine G_if_eq (pc := 5) 16 dX8_copy_5 (by decide) (fun c2 => ?_) (fun c2 => ?_)
  · replace h := itp c2 h
    refine G_bipush (pc := 16) (-2) dX8_copy_16 bp_m2 ?_
    obtain rfl := Option.some.inj h
    exact G_iret (pc := 18) rfl dX8_copy_18
  · replace h := itn c2 h
    refine G_iload_n (pc := 8) 3 dX8_copy_8 rfl ?_
    refine G_iconst (pc := 9) (4) dX8_copy_9 ci_4 ?_
    obtain ⟨q3, e3, h⟩ := bnd_some h
    refine G_callS2r (pc := 10) dX8_copy_10 ws_X8_104 cd_X8_isIn (S_X8_isIn _ _ _ _ e3) (by decide) (by decide) (Nat.le_of_ble_eq_true rfl) ?_
    refine G_if_ne (pc := 13) 19 dX8_copy_13 (by decide) (fun c4 => ?_) (fun c4 => ?_)
    · replace h := itn c4 h
      refine G_aload_n (pc := 19) 0 dX8_copy_19 rfl ?_
      refine gwC_X8_40_0 (pc := 20) dX8_copy_20 ?_
      refine G_iload_n (pc := 23) 1 dX8_copy_23 rfl ?_
      obtain ⟨g5, h⟩ := gi_some h
      refine G_aaldS (pc := 24) dX8_copy_24 g5 ?_
      refine G_astore (pc := 25) [(6, .ref _), (0, .ref _), (1, .int _), (2, .int _), (3, .int _), (4, .int _), (5, .int _)] dX8_copy_25 (Nat.le_of_ble_eq_true rfl) rfl ?_
      refine G_aload_n (pc := 27) 1 dX8_copy_27 rfl ?_
      refine gwC_X8_40_0 (pc := 28) dX8_copy_28 ?_
      refine G_iload_n (pc := 31) 4 dX8_copy_31 rfl ?_
      obtain ⟨g6, h⟩ := gi_some h
      refine G_aaldS (pc := 32) dX8_copy_32 g6 ?_
      refine G_astore (pc := 33) [(7, .ref _), (6, .ref _), (0, .ref _), (1, .int _), (2, .int _), (3, .int _), (4, .int _), (5, .int _)] dX8_copy_33 (Nat.le_of_ble_eq_true rfl) rfl ?_
      refine G_aload (pc := 35) 1 dX8_copy_35 rfl ?_
      obtain ⟨q7, e7, h⟩ := bnd_some h
      refine G_callV0r (pc := 37) (12 + 2 * x1.toNatClampNeg) 4 dX8_copy_37 wv_X8_121 cd_X4_isLost (S_X4_isLost _ (vp_lt g5) _ _ e7) (by decide) (by decide) rfl (S_lt (vp_lt g5)) (G_cellS (vp_lt g5) _) (Nat.le_of_ble_eq_true rfl) ?_
      refine G_if_ne (pc := 40) 51 dX8_copy_40 (by decide) (fun c8 => ?_) (fun c8 => ?_)
      · replace h := itn c8 h
        refine G_loc [2] [(0, .ref _)] rfl ?_
        exact B_X8_copy_51 _ _ h
      · replace h := itp c8 h
        refine G_aload (pc := 43) 0 dX8_copy_43 rfl ?_
        obtain ⟨q10, e10, h⟩ := bnd_some h
        refine G_callV0r (pc := 45) (12 + 2 * x3.toNatClampNeg) 4 dX8_copy_45 wv_X8_121 cd_X4_isLost (S_X4_isLost _ (vp_lt g6) _ _ e10) (by decide) (by decide) rfl (S_lt (vp_lt g6)) (G_cellS (vp_lt g6) _) (Nat.le_of_ble_eq_true rfl) ?_
        refine G_if_eq (pc := 48) 57 dX8_copy_48 (by decide) (fun c11 => ?_) (fun c11 => ?_)
        · replace h := itp c11 h
          refine G_aload (pc := 57) 1 dX8_copy_57 rfl ?_
          refine G_getS (pc := 59) (vp_lt g5) 1 (.int _) dX8_copy_59 fl_X8_238_X4 (by decide) (fun _ => rfl) ?_
          refine G_aload (pc := 62) 0 dX8_copy_62 rfl ?_
          refine G_getS (pc := 64) (vp_lt g6) 1 (.int _) dX8_copy_64 fl_X8_238_X4 (by decide) (fun _ => rfl) ?_
          refine G_icmp_eq (pc := 67) 76 dX8_copy_67 (by decide) (fun c12 => ?_) (fun c12 => ?_)
          · replace h := itp c12 h
            refine G_aload (pc := 76) 1 dX8_copy_76 rfl ?_
            refine G_iload_n (pc := 78) 4 dX8_copy_78 rfl ?_
            refine G_iload (pc := 79) 7 dX8_copy_79 rfl ?_
            obtain ⟨q13, e13, h⟩ := bnd_some h
            refine G_callV2r (pc := 81) (12 + 2 * x1.toNatClampNeg) 4 dX8_copy_81 wv_X8_248 cd_X4_hasSpan (S_X4_hasSpan _ _ _ (vp_lt g5) _ _ e13) (by decide) (by decide) rfl (S_lt (vp_lt g5)) (G_cellS (vp_lt g5) _) (Nat.le_of_ble_eq_true rfl) ?_
            refine G_if_eq (pc := 84) 99 dX8_copy_84 (by decide) (fun c14 => ?_) (fun c14 => ?_)
            · replace h := itp c14 h
              refine G_loc [2] [(0, .ref _)] rfl ?_
              exact B_X8_copy_99 _ _ h
            · replace h := itn c14 h
              refine G_aload (pc := 87) 0 dX8_copy_87 rfl ?_
              refine G_iload (pc := 89) 6 dX8_copy_89 rfl ?_
              refine G_iload (pc := 91) 7 dX8_copy_91 rfl ?_
              obtain ⟨q16, e16, h⟩ := bnd_some h
              refine G_callV2r (pc := 93) (12 + 2 * x3.toNatClampNeg) 4 dX8_copy_93 wv_X8_248 cd_X4_hasSpan (S_X4_hasSpan _ _ _ (vp_lt g6) _ _ e16) (by decide) (by decide) rfl (S_lt (vp_lt g6)) (G_cellS (vp_lt g6) _) (Nat.le_of_ble_eq_true rfl) ?_
              refine G_if_ne (pc := 96) 105 dX8_copy_96 (by decide) (fun c17 => ?_) (fun c17 => ?_)
              · replace h := itn c17 h
                refine G_aload (pc := 105) 1 dX8_copy_105 rfl ?_
                refine G_getS (pc := 107) (vp_lt g5) 0 (.ref (13 + 2 * x1.toNatClampNeg)) dX8_copy_107 fl_X8_130_X4 (by decide) (fun _ => rfl) ?_
                refine G_iload_n (pc := 110) 4 dX8_copy_110 rfl ?_
                refine G_aload (pc := 111) 0 dX8_copy_111 rfl ?_
                refine G_getS (pc := 113) (vp_lt g6) 0 (.ref (13 + 2 * x3.toNatClampNeg)) dX8_copy_113 fl_X8_130_X4 (by decide) (fun _ => rfl) ?_
                refine G_iload (pc := 116) 6 dX8_copy_116 rfl ?_
                refine G_iload (pc := 118) 7 dX8_copy_118 rfl ?_
                obtain ⟨g18, h⟩ := gc_some h
                refine G_acopy (pc := 120) (13 + 2 * x1.toNatClampNeg) (13 + 2 * x3.toNatClampNeg) 60 60 dX8_copy_120 wc_X8_251 g18.1 g18.2.1 g18.2.2.1 g18.2.2.2.1 g18.2.2.2.2 (I_lt (vp_lt g5)) (I_lt (vp_lt g6)) (by decide) (Nat.le_of_ble_eq_true rfl) (fun _ _ _ => ceC_I _ _ _ _ (vp_lt g5)) (fun _ _ _ => ceC_I _ _ _ _ (vp_lt g6)) ?_
                refine G_iconst (pc := 123) (1) dX8_copy_123 ci_1 ?_
                obtain rfl := Option.some.inj h
                exact G_iret (pc := 124) rfl dX8_copy_124
              · replace h := itp c17 h
                refine G_loc [2] [(0, .ref _)] rfl ?_
                exact B_X8_copy_99 _ _ h
          · replace h := itn c12 h
            refine G_aload_n (pc := 70) 2 dX8_copy_70 rfl ?_
            refine G_iconst (pc := 71) (4) dX8_copy_71 ci_4 ?_
            obtain ⟨q19, e19, h⟩ := bnd_some h
            refine G_callV1r (pc := 72) 0 7 dX8_copy_72 wv_X8_125 cd_X8_found (S_X8_found _ _ _ e19) (by decide) (by decide) rfl (by decide) (fun _ _ => ⟨_, rfl⟩) (Nat.le_of_ble_eq_true rfl) ?_
            obtain rfl := Option.some.inj h
            exact G_iret (pc := 75) rfl dX8_copy_75
        · replace h := itn c11 h
          refine G_loc [2] [(0, .ref _)] rfl ?_
          exact B_X8_copy_51 _ _ h
    · replace h := itp c4 h
      refine G_bipush (pc := 16) (-2) dX8_copy_16 bp_m2 ?_
      obtain rfl := Option.some.inj h
      exact G_iret (pc := 18) rfl dX8_copy_18
def L_X8_write_59 : Nat → Int32 → Nat → Int32 → Int32 → Mm → Option (Int32 × Mm)
  | 0, _, _, _, _, _ => none
  | n + 1, x1, s3, x4, x5, μ => if x4 ≤ x5 then some (x4, μ) else (F_X8_runAsTold (x5 + 1) μ).bind (fun q11 => gi x1 10 ((F_X4_put s3 x5 (q11.1 30 x1.toNatClampNeg) q11).bind (fun q13 => L_X8_write_59 n x1 s3 x4 (x5 + 1) q13)))
set_option maxRecDepth 100000 in
set_option maxHeartbeats 4000000 in
theorem L_X8_write_59_s (n : Nat) (x1 : Int32) (s3 : Nat) (x4 : Int32) (x5 : Int32) (μ : Mm) : L_X8_write_59  (n + 1) x1 s3 x4 x5 μ = (if x4 ≤ x5 then some (x4, μ) else (F_X8_runAsTold (x5 + 1) μ).bind (fun q11 => gi x1 10 ((F_X4_put s3 x5 (q11.1 30 x1.toNatClampNeg) q11).bind (fun q13 => L_X8_write_59 n x1 s3 x4 (x5 + 1) q13)))) := rfl
set_option maxRecDepth 100000 in
set_option maxHeartbeats 4000000 in
theorem B_X8_write_59 : ∀ (n : Nat) (x1 : Int32) (s3 : Nat) (x4 : Int32) (x5 : Int32) (μ : Mm) (q : (Int32 × Mm)), s3 < 4 → L_X8_write_59  n x1 s3 x4 x5 μ = some q → G wC RX8 cX8_write 6 (some .int) 5 (some (.int q.1)) q.2 59 [(0, .ref 0), (1, .int x1), (3, .ref (12 + 2 * s3)), (4, .int x4), (5, .int x5)] [] μ := by
  intro n
  induction n with
  | zero =>
    intro x1 s3 x4 x5 μ q hs3 h
    cases h
  | succ n ih =>
    intro x1 s3 x4 x5 μ q hs3 h
    rw [L_X8_write_59_s] at h
    refine G_iload (pc := 59) 4 dX8_write_59 rfl ?_
    refine G_iload (pc := 61) 3 dX8_write_61 rfl ?_
    refine G_icmp_ge (pc := 63) 95 dX8_write_63 (by decide) (fun c10 => ?_) (fun c10 => ?_)
    · replace h := itp c10 h
      refine G_iload (pc := 95) 3 dX8_write_95 rfl ?_
      obtain rfl := Option.some.inj h
      exact G_iret (pc := 97) rfl dX8_write_97
    · replace h := itn c10 h
      refine G_aload_n (pc := 66) 0 dX8_write_66 rfl ?_
      refine G_iload (pc := 67) 4 dX8_write_67 rfl ?_
      refine G_iconst (pc := 69) (1) dX8_write_69 ci_1 ?_
      refine G_iadd (pc := 70) dX8_write_70 ?_
      obtain ⟨q11, e11, h⟩ := bnd_some h
      refine G_callV1v (pc := 71) 0 7 dX8_write_71 wv_X8_133 cd_X8_runAsTold (S_X8_runAsTold _ _ _ e11) (by decide) (by decide) rfl (by decide) (fun _ _ => ⟨_, rfl⟩) (Nat.le_of_ble_eq_true rfl) ?_
      refine G_aload_n (pc := 74) 2 dX8_write_74 rfl ?_
      refine G_iload (pc := 75) 4 dX8_write_75 rfl ?_
      refine G_aload_n (pc := 77) 0 dX8_write_77 rfl ?_
      refine gwC_X8_60_0 (pc := 78) dX8_write_78 ?_
      refine gwC_X8_262_28 (pc := 81) dX8_write_81 ?_
      refine G_iload_n (pc := 84) 1 dX8_write_84 rfl ?_
      obtain ⟨g12, h⟩ := gi_some h
      refine alwC_30 (pc := 85) dX8_write_85 g12 ?_
      obtain ⟨q13, e13, h⟩ := bnd_some h
      refine G_callV2v (pc := 86) (12 + 2 * s3) 4 dX8_write_86 wv_X8_244 cd_X4_put (S_X4_put _ _ _ hs3 _ _ e13) (by decide) (by decide) rfl (S_lt hs3) (G_cellS hs3 _) (Nat.le_of_ble_eq_true rfl) ?_
      refine G_iinc (pc := 89) (1) 4 [(5, .int _), (0, .ref _), (1, .int _), (3, .ref _), (4, .int _)] dX8_write_89 ci_1 rfl (Nat.le_of_ble_eq_true rfl) rfl ?_
      refine G_goto (pc := 92) 59 dX8_write_92 (by decide) ?_
      refine G_loc [1, 2, 3, 4, 0] [(0, .ref _), (1, .int _), (3, .ref _), (4, .int _), (5, .int _)] rfl ?_
      exact ih _ _ _ _ _ _ hs3 h
def F_X8_write (x1 : Int32) (x2 : Int32) (μ : Mm) : Option (Int32 × Mm) := (F_X3_size_1 μ).bind (fun q1 => (F_X8_isIn x1 q1.1 q1.2).bind (fun q2 => if q2.1 = 0 then some ((-2), q2.2) else (F_X8_isIn x2 4 q2.2).bind (fun q4 => if q4.1 = 0 then some ((-2), q4.2) else gi x2 4 ((F_X4_isLost x2.toNatClampNeg q4.2).bind (fun q7 => if q7.1 = 0 then (F_J9_min_7cf53 (q7.2.1 (12 + 2 * x2.toNatClampNeg) 2) 12 q7.2).bind (fun q9 => L_X8_write_59 FUEL x1 x2.toNatClampNeg q9.1 0 q9.2) else (F_X8_found 1 q7.2).bind (fun q14 => some (q14.1, q14.2)))))))
set_option maxRecDepth 100000 in
set_option maxHeartbeats 4000000 in
theorem S_X8_write (x1 : Int32) (x2 : Int32)  (μ : Mm) (q : (Int32 × Mm)) (h : F_X8_write x1 x2 μ = some q) : Cn wC yX8_write cX8_write 6 (some .int) 5 [.ref 0, .int x1, .int x2] μ (some (.int q.1)) q.2 := by
  refine Cn_of (by decide +kernel) (Nat.le_of_ble_eq_true rfl) ?_
  show G wC RX8 cX8_write 6 (some .int) 5 (some (.int q.1)) q.2 0 [(0, .ref 0), (1, .int x1), (2, .int x2)] [] μ
  unfold F_X8_write at h
  refine G_iload_n (pc := 0) 1 dX8_write_0 rfl ?_
  refine G_aload_n (pc := 1) 0 dX8_write_1 rfl ?_
  refine gwC_X8_14_0 (pc := 2) dX8_write_2 ?_
  obtain ⟨q1, e1, h⟩ := bnd_some h
  refine G_callV0r (pc := 5) 1 3 dX8_write_5 wv_X8_100 cd_X3_size (S_X3_size_1 _ _ e1) (by decide) (by decide) rfl (by decide) (fun _ _ => ⟨_, rfl⟩) (Nat.le_of_ble_eq_true rfl) ?_
  obtain ⟨q2, e2, h⟩ := bnd_some h
  refine G_callS2r (pc := 8) dX8_write_8 ws_X8_104 cd_X8_isIn (S_X8_isIn _ _ _ _ e2) (by decide) (by decide) (Nat.le_of_ble_eq_true rfl) ?_
  refine G_if_eq (pc := 11) 22 dX8_write_11 (by decide) (fun c3 => ?_) (fun c3 => ?_)
  · replace h := itp c3 h
    refine G_bipush (pc := 22) (-2) dX8_write_22 bp_m2 ?_
    obtain rfl := Option.some.inj h
    exact G_iret (pc := 24) rfl dX8_write_24
  · replace h := itn c3 h
    refine G_iload_n (pc := 14) 2 dX8_write_14 rfl ?_
    refine G_iconst (pc := 15) (4) dX8_write_15 ci_4 ?_
    obtain ⟨q4, e4, h⟩ := bnd_some h
    refine G_callS2r (pc := 16) dX8_write_16 ws_X8_104 cd_X8_isIn (S_X8_isIn _ _ _ _ e4) (by decide) (by decide) (Nat.le_of_ble_eq_true rfl) ?_
    refine G_if_ne (pc := 19) 25 dX8_write_19 (by decide) (fun c5 => ?_) (fun c5 => ?_)
    · replace h := itn c5 h
      refine G_aload_n (pc := 25) 0 dX8_write_25 rfl ?_
      refine gwC_X8_40_0 (pc := 26) dX8_write_26 ?_
      refine G_iload_n (pc := 29) 2 dX8_write_29 rfl ?_
      obtain ⟨g6, h⟩ := gi_some h
      refine G_aaldS (pc := 30) dX8_write_30 g6 ?_
      refine G_astore_n (pc := 31) [(3, .ref _), (0, .ref _), (1, .int _), (2, .int _)] dX8_write_31 (Nat.le_of_ble_eq_true rfl) rfl ?_
      refine G_aload_n (pc := 32) 0 dX8_write_32 rfl ?_
      obtain ⟨q7, e7, h⟩ := bnd_some h
      refine G_callV0r (pc := 33) (12 + 2 * x2.toNatClampNeg) 4 dX8_write_33 wv_X8_121 cd_X4_isLost (S_X4_isLost _ (vp_lt g6) _ _ e7) (by decide) (by decide) rfl (S_lt (vp_lt g6)) (G_cellS (vp_lt g6) _) (Nat.le_of_ble_eq_true rfl) ?_
      refine G_if_eq (pc := 36) 45 dX8_write_36 (by decide) (fun c8 => ?_) (fun c8 => ?_)
      · replace h := itp c8 h
        refine G_aload_n (pc := 45) 0 dX8_write_45 rfl ?_
        refine G_getS (pc := 46) (vp_lt g6) 2 (.int _) dX8_write_46 fl_X8_129_X4 (by decide) (fun _ => rfl) ?_
        refine G_bipush (pc := 49) (12) dX8_write_49 bp_12 ?_
        obtain ⟨q9, e9, h⟩ := bnd_some h
        refine G_callS2r (pc := 51) dX8_write_51 ws_X8_257 cd_J9_min_7cf53 (S_J9_min_7cf53 _ _ _ _ e9) (by decide) (by decide) (Nat.le_of_ble_eq_true rfl) ?_
        refine G_istore (pc := 54) [(4, .int _), (3, .ref _), (0, .ref _), (1, .int _), (2, .int _)] dX8_write_54 (Nat.le_of_ble_eq_true rfl) rfl ?_
        refine G_iconst (pc := 56) (0) dX8_write_56 ci_0 ?_
        refine G_istore (pc := 57) [(5, .int _), (4, .int _), (3, .ref _), (0, .ref _), (1, .int _), (2, .int _)] dX8_write_57 (Nat.le_of_ble_eq_true rfl) rfl ?_
        refine G_loc [3, 4, 2, 1, 0] [(0, .ref _), (1, .int _), (3, .ref _), (4, .int _), (5, .int _)] rfl ?_
        exact B_X8_write_59 _ _ _ _ _ _ _ (vp_lt g6) h
      · replace h := itn c8 h
        refine G_aload_n (pc := 39) 1 dX8_write_39 rfl ?_
        refine G_iconst (pc := 40) (1) dX8_write_40 ci_1 ?_
        obtain ⟨q14, e14, h⟩ := bnd_some h
        refine G_callV1r (pc := 41) 0 7 dX8_write_41 wv_X8_125 cd_X8_found (S_X8_found _ _ _ e14) (by decide) (by decide) rfl (by decide) (fun _ _ => ⟨_, rfl⟩) (Nat.le_of_ble_eq_true rfl) ?_
        obtain rfl := Option.some.inj h
        exact G_iret (pc := 44) rfl dX8_write_44
    · replace h := itp c5 h
      refine G_bipush (pc := 22) (-2) dX8_write_22 bp_m2 ?_
      obtain rfl := Option.some.inj h
      exact G_iret (pc := 24) rfl dX8_write_24
def F_X8_count (x1 : Int32) (μ : Mm) : Option (Int32 × Mm) := if x1 = 0 then (F_X3_size_1 μ).bind (fun q12 => some (q12.1, q12.2)) else if x1 = 1 then (F_X3_size_3 μ).bind (fun q11 => some (q11.1, q11.2)) else if x1 = 2 then (F_X6_size μ).bind (fun q10 => some (q10.1, q10.2)) else some ((if x1 = 3 then (μ.1 1 1) else (if x1 = 4 then (μ.1 3 1) else (if x1 = 5 then (μ.1 5 1) else (if x1 = 6 then (μ.1 7 1) else (if x1 = 7 then (μ.1 9 1) else (if x1 = 8 then (μ.1 0 6) else (-2))))))), μ)
set_option maxRecDepth 100000 in
set_option maxHeartbeats 4000000 in
theorem S_X8_count (x1 : Int32)  (μ : Mm) (q : (Int32 × Mm)) (h : F_X8_count x1 μ = some q) : Cn wC yX8_count cX8_count 2 (some .int) 1 [.ref 0, .int x1] μ (some (.int q.1)) q.2 := by
  refine Cn_of (by decide +kernel) (Nat.le_of_ble_eq_true rfl) ?_
  show G wC RX8 cX8_count 2 (some .int) 1 (some (.int q.1)) q.2 0 [(0, .ref 0), (1, .int x1)] [] μ
  unfold F_X8_count at h
  refine G_iload_n (pc := 0) 1 dX8_count_0 rfl ?_
  by_cases c1 : x1 = 0
  · replace h := itp c1 h
    refine G_tswV (pc := 1) 52 (0) c1 dX8_count_1 (by decide) (by decide) rfl (by decide) ?_
    refine G_aload_n (pc := 52) 0 dX8_count_52 rfl ?_
    refine gwC_X8_14_0 (pc := 53) dX8_count_53 ?_
    obtain ⟨q12, e12, h⟩ := bnd_some h
    refine G_callV0r (pc := 56) 1 3 dX8_count_56 wv_X8_100 cd_X3_size (S_X3_size_1 _ _ e12) (by decide) (by decide) rfl (by decide) (fun _ _ => ⟨_, rfl⟩) (Nat.le_of_ble_eq_true rfl) ?_
    obtain rfl := Option.some.inj h
    exact G_iret (pc := 59) rfl dX8_count_59
  · replace h := itn c1 h
    by_cases c2 : x1 = 1
    · replace h := itp c2 h
      refine G_tswV (pc := 1) 60 (1) c2 dX8_count_1 (by decide) (by decide) rfl (by decide) ?_
      refine G_aload_n (pc := 60) 0 dX8_count_60 rfl ?_
      refine gwC_X8_18_0 (pc := 61) dX8_count_61 ?_
      obtain ⟨q11, e11, h⟩ := bnd_some h
      refine G_callV0r (pc := 64) 3 3 dX8_count_64 wv_X8_100 cd_X3_size (S_X3_size_3 _ _ e11) (by decide) (by decide) rfl (by decide) (fun _ _ => ⟨_, rfl⟩) (Nat.le_of_ble_eq_true rfl) ?_
      obtain rfl := Option.some.inj h
      exact G_iret (pc := 67) rfl dX8_count_67
    · replace h := itn c2 h
      by_cases c3 : x1 = 2
      · replace h := itp c3 h
        refine G_tswV (pc := 1) 68 (2) c3 dX8_count_1 (by decide) (by decide) rfl (by decide) ?_
        refine G_aload_n (pc := 68) 0 dX8_count_68 rfl ?_
        refine gwC_X8_24_0 (pc := 69) dX8_count_69 ?_
        obtain ⟨q10, e10, h⟩ := bnd_some h
        refine G_callV0r (pc := 72) 5 5 dX8_count_72 wv_X8_265 cd_X6_size (S_X6_size _ _ e10) (by decide) (by decide) rfl (by decide) (fun _ _ => ⟨_, rfl⟩) (Nat.le_of_ble_eq_true rfl) ?_
        obtain rfl := Option.some.inj h
        exact G_iret (pc := 75) rfl dX8_count_75
      · replace h := itn c3 h
        by_cases c4 : x1 = 3
        · rw [if_pos c4] at h
          refine G_tswV (pc := 1) 76 (3) c4 dX8_count_1 (by decide) (by decide) rfl (by decide) ?_
          refine G_aload_n (pc := 76) 0 dX8_count_76 rfl ?_
          refine gwC_X8_14_0 (pc := 77) dX8_count_77 ?_
          refine gwC_X8_266_1 (pc := 80) dX8_count_80 ?_
          obtain rfl := Option.some.inj h
          exact G_iret (pc := 83) rfl dX8_count_83
        · rw [if_neg c4] at h
          by_cases c5 : x1 = 4
          · rw [if_pos c5] at h
            refine G_tswV (pc := 1) 84 (4) c5 dX8_count_1 (by decide) (by decide) rfl (by decide) ?_
            refine G_aload_n (pc := 84) 0 dX8_count_84 rfl ?_
            refine gwC_X8_18_0 (pc := 85) dX8_count_85 ?_
            refine gwC_X8_266_3 (pc := 88) dX8_count_88 ?_
            obtain rfl := Option.some.inj h
            exact G_iret (pc := 91) rfl dX8_count_91
          · rw [if_neg c5] at h
            by_cases c6 : x1 = 5
            · rw [if_pos c6] at h
              refine G_tswV (pc := 1) 92 (5) c6 dX8_count_1 (by decide) (by decide) rfl (by decide) ?_
              refine G_aload_n (pc := 92) 0 dX8_count_92 rfl ?_
              refine gwC_X8_24_0 (pc := 93) dX8_count_93 ?_
              refine gwC_X8_267_5 (pc := 96) dX8_count_96 ?_
              obtain rfl := Option.some.inj h
              exact G_iret (pc := 99) rfl dX8_count_99
            · rw [if_neg c6] at h
              by_cases c7 : x1 = 6
              · rw [if_pos c7] at h
                refine G_tswV (pc := 1) 100 (6) c7 dX8_count_1 (by decide) (by decide) rfl (by decide) ?_
                refine G_aload_n (pc := 100) 0 dX8_count_100 rfl ?_
                refine gwC_X8_31_0 (pc := 101) dX8_count_101 ?_
                refine gwC_X8_119_7 (pc := 104) dX8_count_104 ?_
                obtain rfl := Option.some.inj h
                exact G_iret (pc := 107) rfl dX8_count_107
              · rw [if_neg c7] at h
                by_cases c8 : x1 = 7
                · rw [if_pos c8] at h
                  refine G_tswV (pc := 1) 108 (7) c8 dX8_count_1 (by decide) (by decide) rfl (by decide) ?_
                  refine G_aload_n (pc := 108) 0 dX8_count_108 rfl ?_
                  refine gwC_X8_35_0 (pc := 109) dX8_count_109 ?_
                  refine gwC_X8_119_9 (pc := 112) dX8_count_112 ?_
                  obtain rfl := Option.some.inj h
                  exact G_iret (pc := 115) rfl dX8_count_115
                · rw [if_neg c8] at h
                  by_cases c9 : x1 = 8
                  · rw [if_pos c9] at h
                    refine G_tswV (pc := 1) 116 (8) c9 dX8_count_1 (by decide) (by decide) rfl (by decide) ?_
                    refine G_aload_n (pc := 116) 0 dX8_count_116 rfl ?_
                    refine gwC_X8_44_0 (pc := 117) dX8_count_117 ?_
                    obtain rfl := Option.some.inj h
                    exact G_iret (pc := 120) rfl dX8_count_120
                  · rw [if_neg c9] at h
                    refine G_tswOut (pc := 1) 121 dX8_count_1 (tswO 9 (by decide) (lt_s (lt_s (lt_s (lt_s (lt_s (lt_s (lt_s (lt_s (lt_s lt_0 c1) c2) c3) c4) c5) c6) c7) c8) c9)) (by decide) ?_
                    refine G_bipush (pc := 121) (-2) dX8_count_121 bp_m2 ?_
                    obtain rfl := Option.some.inj h
                    exact G_iret (pc := 123) rfl dX8_count_123
def F_X8_mix (x0 : Int64) (x2 : Int64) (μ : Mm) : Option (Int64 × Mm) := some (((31 * x0) + x2), μ)
set_option maxRecDepth 100000 in
set_option maxHeartbeats 4000000 in
theorem S_X8_mix (x0 : Int64) (x2 : Int64)  (μ : Mm) (q : (Int64 × Mm)) (h : F_X8_mix x0 x2 μ = some q) : Cn wC yX8_mix cX8_mix 4 (some .long) 0 [.long x0, .long x2] μ (some (.long q.1)) q.2 := by
  refine Cn_of (by decide +kernel) (Nat.le_of_ble_eq_true rfl) ?_
  show G wC RX8 cX8_mix 4 (some .long) 0 (some (.long q.1)) q.2 0 [(0, .long x0), (2, .long x2)] [] μ
  unfold F_X8_mix at h
  refine G_ldc2 (pc := 0) (31) dX8_mix_0 kl_X8_329 ?_
  refine G_lload_n (pc := 3) 0 dX8_mix_3 rfl ?_
  refine G_lmul (pc := 4) dX8_mix_4 ?_
  refine G_lload_n (pc := 5) 1 dX8_mix_5 rfl ?_
  refine G_ladd (pc := 6) dX8_mix_6 ?_
  obtain rfl := Option.some.inj h
  exact G_lret (pc := 7) rfl dX8_mix_7
def L_X8_digestWeeks_51 (K5 : Int64 → Int32 → Mm → Option (Int64 × Mm)) : Nat → Int64 → Int32 → Int32 → Mm → Option (Int64 × Mm)
  | 0, _, _, _, _ => none
  | n + 1, x3, x5, x6, μ => if 3 ≤ x6 then K5 x3 (x5 + 1) μ else (F_X7_placedAt x5 x6 μ).bind (fun q7 => (F_X8_mix x3 q7.1.toInt64 q7.2).bind (fun q8 => L_X8_digestWeeks_51 K5 n q8.1 x5 (x6 + 1) q8.2))
set_option maxRecDepth 100000 in
set_option maxHeartbeats 4000000 in
theorem L_X8_digestWeeks_51_s (K5 : Int64 → Int32 → Mm → Option (Int64 × Mm)) (n : Nat) (x3 : Int64) (x5 : Int32) (x6 : Int32) (μ : Mm) : L_X8_digestWeeks_51 K5 (n + 1) x3 x5 x6 μ = (if 3 ≤ x6 then K5 x3 (x5 + 1) μ else (F_X7_placedAt x5 x6 μ).bind (fun q7 => (F_X8_mix x3 q7.1.toInt64 q7.2).bind (fun q8 => L_X8_digestWeeks_51 K5 n q8.1 x5 (x6 + 1) q8.2))) := rfl
set_option maxRecDepth 100000 in
set_option maxHeartbeats 4000000 in
theorem B_X8_digestWeeks_51 (K5 : Int64 → Int32 → Mm → Option (Int64 × Mm)) (hK5 : ∀ (x3 : Int64) (x5 : Int32) (μ : Mm) (q : (Int64 × Mm)), K5 x3 x5 μ = some q → G wC RX8 cX8_digestWeeks 7 (some .long) 5 (some (.long q.1)) q.2 5 [(0, .ref 0), (3, .long x3), (5, .int x5)] [] μ) : ∀ (n : Nat) (x3 : Int64) (x5 : Int32) (x6 : Int32) (μ : Mm) (q : (Int64 × Mm)), L_X8_digestWeeks_51 K5 n x3 x5 x6 μ = some q → G wC RX8 cX8_digestWeeks 7 (some .long) 5 (some (.long q.1)) q.2 51 [(0, .ref 0), (3, .long x3), (5, .int x5), (6, .int x6)] [] μ := by
  intro n
  induction n with
  | zero =>
    intro x3 x5 x6 μ q  h
    cases h
  | succ n ih =>
    intro x3 x5 x6 μ q  h
    rw [L_X8_digestWeeks_51_s] at h
    refine G_iload (pc := 51) 3 dX8_digestWeeks_51 rfl ?_
    refine G_iconst (pc := 53) (3) dX8_digestWeeks_53 ci_3 ?_
    refine G_icmp_ge (pc := 54) 80 dX8_digestWeeks_54 (by decide) (fun c6 => ?_) (fun c6 => ?_)
    · replace h := itp c6 h
      refine G_iinc (pc := 80) (1) 2 [(5, .int _), (0, .ref _), (3, .long _), (6, .int _)] dX8_digestWeeks_80 ci_1 rfl (Nat.le_of_ble_eq_true rfl) rfl ?_
      refine G_goto (pc := 83) 5 dX8_digestWeeks_83 (by decide) ?_
      refine G_loc [1, 2, 0] [(0, .ref _), (3, .long _), (5, .int _)] rfl ?_
      exact hK5 _ _ _ _ h
    · replace h := itn c6 h
      refine G_lload_n (pc := 57) 1 dX8_digestWeeks_57 rfl ?_
      refine G_aload_n (pc := 58) 0 dX8_digestWeeks_58 rfl ?_
      refine gwC_X8_60_0 (pc := 59) dX8_digestWeeks_59 ?_
      refine G_iload (pc := 62) 2 dX8_digestWeeks_62 rfl ?_
      refine G_iload (pc := 64) 3 dX8_digestWeeks_64 rfl ?_
      obtain ⟨q7, e7, h⟩ := bnd_some h
      refine G_callV2r (pc := 66) 28 6 dX8_digestWeeks_66 wv_X8_136 cd_X7_placedAt (S_X7_placedAt _ _ _ _ e7) (by decide) (by decide) rfl (by decide) (fun _ _ => ⟨_, rfl⟩) (Nat.le_of_ble_eq_true rfl) ?_
      refine G_i2l (pc := 69) dX8_digestWeeks_69 ?_
      obtain ⟨q8, e8, h⟩ := bnd_some h
      refine G_callS2r (pc := 70) dX8_digestWeeks_70 ws_X8_273 cd_X8_mix (S_X8_mix _ _ _ _ e8) (by decide) (by decide) (Nat.le_of_ble_eq_true rfl) ?_
      refine G_lstore_n (pc := 73) [(3, .long _), (0, .ref _), (5, .int _), (6, .int _)] dX8_digestWeeks_73 (Nat.le_of_ble_eq_true rfl) rfl ?_
      refine G_iinc (pc := 74) (1) 3 [(6, .int _), (3, .long _), (0, .ref _), (5, .int _)] dX8_digestWeeks_74 ci_1 rfl (Nat.le_of_ble_eq_true rfl) rfl ?_
      refine G_goto (pc := 77) 51 dX8_digestWeeks_77 (by decide) ?_
      refine G_loc [2, 1, 3, 0] [(0, .ref _), (3, .long _), (5, .int _), (6, .int _)] rfl ?_
      exact ih _ _ _ _ _ h
def L_X8_digestWeeks_5 : Nat → Int64 → Int32 → Mm → Option (Int64 × Mm)
  | 0, _, _, _ => none
  | n + 1, x3, x5, μ => if 12 ≤ x5 then some (x3, μ) else (F_X8_runAsTold (x5 + 1) μ).bind (fun q2 => (F_X2_judgeIn x5 q2).bind (fun q3 => (F_X8_mix x3 q3.1.toInt64 q3.2).bind (fun q4 => (F_X8_mix q4.1 ((q4.2.1 28 6).toInt64) q4.2).bind (fun q5 => L_X8_digestWeeks_51 (L_X8_digestWeeks_5 n) FUEL q5.1 x5 0 q5.2))))
set_option maxRecDepth 100000 in
set_option maxHeartbeats 4000000 in
theorem L_X8_digestWeeks_5_s (n : Nat) (x3 : Int64) (x5 : Int32) (μ : Mm) : L_X8_digestWeeks_5  (n + 1) x3 x5 μ = (if 12 ≤ x5 then some (x3, μ) else (F_X8_runAsTold (x5 + 1) μ).bind (fun q2 => (F_X2_judgeIn x5 q2).bind (fun q3 => (F_X8_mix x3 q3.1.toInt64 q3.2).bind (fun q4 => (F_X8_mix q4.1 ((q4.2.1 28 6).toInt64) q4.2).bind (fun q5 => L_X8_digestWeeks_51 (L_X8_digestWeeks_5 n) FUEL q5.1 x5 0 q5.2))))) := rfl
set_option maxRecDepth 100000 in
set_option maxHeartbeats 4000000 in
theorem B_X8_digestWeeks_5 : ∀ (n : Nat) (x3 : Int64) (x5 : Int32) (μ : Mm) (q : (Int64 × Mm)), L_X8_digestWeeks_5  n x3 x5 μ = some q → G wC RX8 cX8_digestWeeks 7 (some .long) 5 (some (.long q.1)) q.2 5 [(0, .ref 0), (3, .long x3), (5, .int x5)] [] μ := by
  intro n
  induction n with
  | zero =>
    intro x3 x5 μ q  h
    cases h
  | succ n ih =>
    intro x3 x5 μ q  h
    rw [L_X8_digestWeeks_5_s] at h
    refine G_iload (pc := 5) 2 dX8_digestWeeks_5 rfl ?_
    refine G_bipush (pc := 7) (12) dX8_digestWeeks_7 bp_12 ?_
    refine G_icmp_ge (pc := 9) 86 dX8_digestWeeks_9 (by decide) (fun c1 => ?_) (fun c1 => ?_)
    · replace h := itp c1 h
      refine G_lload_n (pc := 86) 1 dX8_digestWeeks_86 rfl ?_
      obtain rfl := Option.some.inj h
      exact G_lret (pc := 87) rfl dX8_digestWeeks_87
    · replace h := itn c1 h
      refine G_aload_n (pc := 12) 0 dX8_digestWeeks_12 rfl ?_
      refine G_iload (pc := 13) 2 dX8_digestWeeks_13 rfl ?_
      refine G_iconst (pc := 15) (1) dX8_digestWeeks_15 ci_1 ?_
      refine G_iadd (pc := 16) dX8_digestWeeks_16 ?_
      obtain ⟨q2, e2, h⟩ := bnd_some h
      refine G_callV1v (pc := 17) 0 7 dX8_digestWeeks_17 wv_X8_133 cd_X8_runAsTold (S_X8_runAsTold _ _ _ e2) (by decide) (by decide) rfl (by decide) (fun _ _ => ⟨_, rfl⟩) (Nat.le_of_ble_eq_true rfl) ?_
      refine G_lload_n (pc := 20) 1 dX8_digestWeeks_20 rfl ?_
      refine G_aload_n (pc := 21) 0 dX8_digestWeeks_21 rfl ?_
      refine gwC_X8_53_0 (pc := 22) dX8_digestWeeks_22 ?_
      refine G_iload (pc := 25) 2 dX8_digestWeeks_25 rfl ?_
      obtain ⟨q3, e3, h⟩ := bnd_some h
      refine G_callV1r (pc := 27) 20 2 dX8_digestWeeks_27 wv_X8_142 cd_X2_judgeIn (S_X2_judgeIn _ _ _ e3) (by decide) (by decide) rfl (by decide) (fun _ _ => ⟨_, rfl⟩) (Nat.le_of_ble_eq_true rfl) ?_
      refine G_i2l (pc := 30) dX8_digestWeeks_30 ?_
      obtain ⟨q4, e4, h⟩ := bnd_some h
      refine G_callS2r (pc := 31) dX8_digestWeeks_31 ws_X8_273 cd_X8_mix (S_X8_mix _ _ _ _ e4) (by decide) (by decide) (Nat.le_of_ble_eq_true rfl) ?_
      refine G_lstore_n (pc := 34) [(3, .long _), (0, .ref _), (5, .int _)] dX8_digestWeeks_34 (Nat.le_of_ble_eq_true rfl) rfl ?_
      refine G_lload_n (pc := 35) 0 dX8_digestWeeks_35 rfl ?_
      refine G_aload_n (pc := 36) 1 dX8_digestWeeks_36 rfl ?_
      refine gwC_X8_60_0 (pc := 37) dX8_digestWeeks_37 ?_
      refine gwC_X8_145_28 (pc := 40) dX8_digestWeeks_40 ?_
      refine G_i2l (pc := 43) dX8_digestWeeks_43 ?_
      obtain ⟨q5, e5, h⟩ := bnd_some h
      refine G_callS2r (pc := 44) dX8_digestWeeks_44 ws_X8_273 cd_X8_mix (S_X8_mix _ _ _ _ e5) (by decide) (by decide) (Nat.le_of_ble_eq_true rfl) ?_
      refine G_lstore_n (pc := 47) [(3, .long _), (0, .ref _), (5, .int _)] dX8_digestWeeks_47 (Nat.le_of_ble_eq_true rfl) rfl ?_
      refine G_iconst (pc := 48) (0) dX8_digestWeeks_48 ci_0 ?_
      refine G_istore (pc := 49) [(6, .int _), (3, .long _), (0, .ref _), (5, .int _)] dX8_digestWeeks_49 (Nat.le_of_ble_eq_true rfl) rfl ?_
      refine G_loc [2, 1, 3, 0] [(0, .ref _), (3, .long _), (5, .int _), (6, .int _)] rfl ?_
      exact B_X8_digestWeeks_51 _ ih _ _ _ _ _ _ h
def F_X8_digestWeeks (x1 : Int64) (μ : Mm) : Option (Int64 × Mm) := L_X8_digestWeeks_5 FUEL x1 0 μ
set_option maxRecDepth 100000 in
set_option maxHeartbeats 4000000 in
theorem S_X8_digestWeeks (x1 : Int64)  (μ : Mm) (q : (Int64 × Mm)) (h : F_X8_digestWeeks x1 μ = some q) : Cn wC yX8_digestWeeks cX8_digestWeeks 7 (some .long) 5 [.ref 0, .long x1] μ (some (.long q.1)) q.2 := by
  refine Cn_of (by decide +kernel) (Nat.le_of_ble_eq_true rfl) ?_
  show G wC RX8 cX8_digestWeeks 7 (some .long) 5 (some (.long q.1)) q.2 0 [(0, .ref 0), (1, .long x1)] [] μ
  unfold F_X8_digestWeeks at h
  refine G_lload_n (pc := 0) 1 dX8_digestWeeks_0 rfl ?_
  refine G_lstore_n (pc := 1) [(3, .long _), (0, .ref _), (1, .long _)] dX8_digestWeeks_1 (Nat.le_of_ble_eq_true rfl) rfl ?_
  refine G_iconst (pc := 2) (0) dX8_digestWeeks_2 ci_0 ?_
  refine G_istore (pc := 3) [(5, .int _), (3, .long _), (0, .ref _), (1, .long _)] dX8_digestWeeks_3 (Nat.le_of_ble_eq_true rfl) rfl ?_
  refine G_loc [2, 1, 0] [(0, .ref _), (3, .long _), (5, .int _)] rfl ?_
  exact B_X8_digestWeeks_5 _ _ _ _ _ h
def L_X8_digestJudges_20 (K5 : Int64 → Int32 → Mm → Option (Int64 × Mm)) : Nat → Int64 → Int32 → Int32 → Mm → Option (Int64 × Mm)
  | 0, _, _, _, _ => none
  | n + 1, x3, x5, x6, μ => if 3 ≤ x6 then (F_X8_tastes x5 μ).bind (fun q4 => (F_X8_mix x3 q4.1.toInt64 q4.2).bind (fun q5 => K5 q5.1 (x5 + 1) q5.2)) else (F_X3_part_3 x5 x6 μ).bind (fun q6 => (F_X8_mix x3 q6.1.toInt64 q6.2).bind (fun q7 => L_X8_digestJudges_20 K5 n q7.1 x5 (x6 + 1) q7.2))
set_option maxRecDepth 100000 in
set_option maxHeartbeats 4000000 in
theorem L_X8_digestJudges_20_s (K5 : Int64 → Int32 → Mm → Option (Int64 × Mm)) (n : Nat) (x3 : Int64) (x5 : Int32) (x6 : Int32) (μ : Mm) : L_X8_digestJudges_20 K5 (n + 1) x3 x5 x6 μ = (if 3 ≤ x6 then (F_X8_tastes x5 μ).bind (fun q4 => (F_X8_mix x3 q4.1.toInt64 q4.2).bind (fun q5 => K5 q5.1 (x5 + 1) q5.2)) else (F_X3_part_3 x5 x6 μ).bind (fun q6 => (F_X8_mix x3 q6.1.toInt64 q6.2).bind (fun q7 => L_X8_digestJudges_20 K5 n q7.1 x5 (x6 + 1) q7.2))) := rfl
set_option maxRecDepth 100000 in
set_option maxHeartbeats 4000000 in
theorem B_X8_digestJudges_20 (K5 : Int64 → Int32 → Mm → Option (Int64 × Mm)) (hK5 : ∀ (x3 : Int64) (x5 : Int32) (μ : Mm) (q : (Int64 × Mm)), K5 x3 x5 μ = some q → G wC RX8 cX8_digestJudges 7 (some .long) 5 (some (.long q.1)) q.2 5 [(0, .ref 0), (3, .long x3), (5, .int x5)] [] μ) : ∀ (n : Nat) (x3 : Int64) (x5 : Int32) (x6 : Int32) (μ : Mm) (q : (Int64 × Mm)), L_X8_digestJudges_20 K5 n x3 x5 x6 μ = some q → G wC RX8 cX8_digestJudges 7 (some .long) 5 (some (.long q.1)) q.2 20 [(0, .ref 0), (3, .long x3), (5, .int x5), (6, .int x6)] [] μ := by
  intro n
  induction n with
  | zero =>
    intro x3 x5 x6 μ q  h
    cases h
  | succ n ih =>
    intro x3 x5 x6 μ q  h
    rw [L_X8_digestJudges_20_s] at h
    refine G_iload (pc := 20) 3 dX8_digestJudges_20 rfl ?_
    refine G_iconst (pc := 22) (3) dX8_digestJudges_22 ci_3 ?_
    refine G_icmp_ge (pc := 23) 49 dX8_digestJudges_23 (by decide) (fun c3 => ?_) (fun c3 => ?_)
    · replace h := itp c3 h
      refine G_lload_n (pc := 49) 1 dX8_digestJudges_49 rfl ?_
      refine G_aload_n (pc := 50) 0 dX8_digestJudges_50 rfl ?_
      refine G_iload (pc := 51) 2 dX8_digestJudges_51 rfl ?_
      obtain ⟨q4, e4, h⟩ := bnd_some h
      refine G_callV1r (pc := 53) 0 7 dX8_digestJudges_53 wv_X8_324 cd_X8_tastes (S_X8_tastes _ _ _ e4) (by decide) (by decide) rfl (by decide) (fun _ _ => ⟨_, rfl⟩) (Nat.le_of_ble_eq_true rfl) ?_
      refine G_i2l (pc := 56) dX8_digestJudges_56 ?_
      obtain ⟨q5, e5, h⟩ := bnd_some h
      refine G_callS2r (pc := 57) dX8_digestJudges_57 ws_X8_273 cd_X8_mix (S_X8_mix _ _ _ _ e5) (by decide) (by decide) (Nat.le_of_ble_eq_true rfl) ?_
      refine G_lstore_n (pc := 60) [(3, .long _), (0, .ref _), (5, .int _), (6, .int _)] dX8_digestJudges_60 (Nat.le_of_ble_eq_true rfl) rfl ?_
      refine G_iinc (pc := 61) (1) 2 [(5, .int _), (3, .long _), (0, .ref _), (6, .int _)] dX8_digestJudges_61 ci_1 rfl (Nat.le_of_ble_eq_true rfl) rfl ?_
      refine G_goto (pc := 64) 5 dX8_digestJudges_64 (by decide) ?_
      refine G_loc [2, 1, 0] [(0, .ref _), (3, .long _), (5, .int _)] rfl ?_
      exact hK5 _ _ _ _ h
    · replace h := itn c3 h
      refine G_lload_n (pc := 26) 1 dX8_digestJudges_26 rfl ?_
      refine G_aload_n (pc := 27) 0 dX8_digestJudges_27 rfl ?_
      refine gwC_X8_18_0 (pc := 28) dX8_digestJudges_28 ?_
      refine G_iload (pc := 31) 2 dX8_digestJudges_31 rfl ?_
      refine G_iload (pc := 33) 3 dX8_digestJudges_33 rfl ?_
      obtain ⟨q6, e6, h⟩ := bnd_some h
      refine G_callV2r (pc := 35) 3 3 dX8_digestJudges_35 wv_X8_108 cd_X3_part (S_X3_part_3 _ _ _ _ e6) (by decide) (by decide) rfl (by decide) (fun _ _ => ⟨_, rfl⟩) (Nat.le_of_ble_eq_true rfl) ?_
      refine G_i2l (pc := 38) dX8_digestJudges_38 ?_
      obtain ⟨q7, e7, h⟩ := bnd_some h
      refine G_callS2r (pc := 39) dX8_digestJudges_39 ws_X8_273 cd_X8_mix (S_X8_mix _ _ _ _ e7) (by decide) (by decide) (Nat.le_of_ble_eq_true rfl) ?_
      refine G_lstore_n (pc := 42) [(3, .long _), (0, .ref _), (5, .int _), (6, .int _)] dX8_digestJudges_42 (Nat.le_of_ble_eq_true rfl) rfl ?_
      refine G_iinc (pc := 43) (1) 3 [(6, .int _), (3, .long _), (0, .ref _), (5, .int _)] dX8_digestJudges_43 ci_1 rfl (Nat.le_of_ble_eq_true rfl) rfl ?_
      refine G_goto (pc := 46) 20 dX8_digestJudges_46 (by decide) ?_
      refine G_loc [2, 1, 3, 0] [(0, .ref _), (3, .long _), (5, .int _), (6, .int _)] rfl ?_
      exact ih _ _ _ _ _ h
def L_X8_digestJudges_5 : Nat → Int64 → Int32 → Mm → Option (Int64 × Mm)
  | 0, _, _, _ => none
  | n + 1, x3, x5, μ => (F_X3_size_3 μ).bind (fun q1 => if q1.1 ≤ x5 then some (x3, q1.2) else L_X8_digestJudges_20 (L_X8_digestJudges_5 n) FUEL x3 x5 0 q1.2)
set_option maxRecDepth 100000 in
set_option maxHeartbeats 4000000 in
theorem L_X8_digestJudges_5_s (n : Nat) (x3 : Int64) (x5 : Int32) (μ : Mm) : L_X8_digestJudges_5  (n + 1) x3 x5 μ = ((F_X3_size_3 μ).bind (fun q1 => if q1.1 ≤ x5 then some (x3, q1.2) else L_X8_digestJudges_20 (L_X8_digestJudges_5 n) FUEL x3 x5 0 q1.2)) := rfl
set_option maxRecDepth 100000 in
set_option maxHeartbeats 4000000 in
theorem B_X8_digestJudges_5 : ∀ (n : Nat) (x3 : Int64) (x5 : Int32) (μ : Mm) (q : (Int64 × Mm)), L_X8_digestJudges_5  n x3 x5 μ = some q → G wC RX8 cX8_digestJudges 7 (some .long) 5 (some (.long q.1)) q.2 5 [(0, .ref 0), (3, .long x3), (5, .int x5)] [] μ := by
  intro n
  induction n with
  | zero =>
    intro x3 x5 μ q  h
    cases h
  | succ n ih =>
    intro x3 x5 μ q  h
    rw [L_X8_digestJudges_5_s] at h
    refine G_iload (pc := 5) 2 dX8_digestJudges_5 rfl ?_
    refine G_aload_n (pc := 7) 0 dX8_digestJudges_7 rfl ?_
    refine gwC_X8_18_0 (pc := 8) dX8_digestJudges_8 ?_
    obtain ⟨q1, e1, h⟩ := bnd_some h
    refine G_callV0r (pc := 11) 3 3 dX8_digestJudges_11 wv_X8_100 cd_X3_size (S_X3_size_3 _ _ e1) (by decide) (by decide) rfl (by decide) (fun _ _ => ⟨_, rfl⟩) (Nat.le_of_ble_eq_true rfl) ?_
    refine G_icmp_ge (pc := 14) 67 dX8_digestJudges_14 (by decide) (fun c2 => ?_) (fun c2 => ?_)
    · replace h := itp c2 h
      refine G_lload_n (pc := 67) 1 dX8_digestJudges_67 rfl ?_
      obtain rfl := Option.some.inj h
      exact G_lret (pc := 68) rfl dX8_digestJudges_68
    · replace h := itn c2 h
      refine G_iconst (pc := 17) (0) dX8_digestJudges_17 ci_0 ?_
      refine G_istore (pc := 18) [(6, .int _), (0, .ref _), (3, .long _), (5, .int _)] dX8_digestJudges_18 (Nat.le_of_ble_eq_true rfl) rfl ?_
      refine G_loc [1, 2, 3, 0] [(0, .ref _), (3, .long _), (5, .int _), (6, .int _)] rfl ?_
      exact B_X8_digestJudges_20 _ ih _ _ _ _ _ _ h
def F_X8_digestJudges (x1 : Int64) (μ : Mm) : Option (Int64 × Mm) := L_X8_digestJudges_5 FUEL x1 0 μ
set_option maxRecDepth 100000 in
set_option maxHeartbeats 4000000 in
theorem S_X8_digestJudges (x1 : Int64)  (μ : Mm) (q : (Int64 × Mm)) (h : F_X8_digestJudges x1 μ = some q) : Cn wC yX8_digestJudges cX8_digestJudges 7 (some .long) 5 [.ref 0, .long x1] μ (some (.long q.1)) q.2 := by
  refine Cn_of (by decide +kernel) (Nat.le_of_ble_eq_true rfl) ?_
  show G wC RX8 cX8_digestJudges 7 (some .long) 5 (some (.long q.1)) q.2 0 [(0, .ref 0), (1, .long x1)] [] μ
  unfold F_X8_digestJudges at h
  refine G_lload_n (pc := 0) 1 dX8_digestJudges_0 rfl ?_
  refine G_lstore_n (pc := 1) [(3, .long _), (0, .ref _), (1, .long _)] dX8_digestJudges_1 (Nat.le_of_ble_eq_true rfl) rfl ?_
  refine G_iconst (pc := 2) (0) dX8_digestJudges_2 ci_0 ?_
  refine G_istore (pc := 3) [(5, .int _), (3, .long _), (0, .ref _), (1, .long _)] dX8_digestJudges_3 (Nat.le_of_ble_eq_true rfl) rfl ?_
  refine G_loc [2, 1, 0] [(0, .ref _), (3, .long _), (5, .int _)] rfl ?_
  exact B_X8_digestJudges_5 _ _ _ _ _ h
def F_X8_mixChoice (x1 : Int64) (μ : Mm) : Option (Int64 × Mm) := (F_X0_tell 0 μ).bind (fun q1 => (F_X8_mix x1 q1.1.toInt64 q1.2).bind (fun q2 => (F_X0_tell 1 q2.2).bind (fun q3 => (F_X8_mix q2.1 q3.1.toInt64 q3.2).bind (fun q4 => some (q4.1, q4.2)))))
set_option maxRecDepth 100000 in
set_option maxHeartbeats 4000000 in
theorem S_X8_mixChoice (x1 : Int64)  (μ : Mm) (q : (Int64 × Mm)) (h : F_X8_mixChoice x1 μ = some q) : Cn wC yX8_mixChoice cX8_mixChoice 3 (some .long) 1 [.ref 0, .long x1] μ (some (.long q.1)) q.2 := by
  refine Cn_of (by decide +kernel) (Nat.le_of_ble_eq_true rfl) ?_
  show G wC RX8 cX8_mixChoice 3 (some .long) 1 (some (.long q.1)) q.2 0 [(0, .ref 0), (1, .long x1)] [] μ
  unfold F_X8_mixChoice at h
  refine G_lload_n (pc := 0) 1 dX8_mixChoice_0 rfl ?_
  refine G_aload_n (pc := 1) 0 dX8_mixChoice_1 rfl ?_
  refine gwC_X8_67_0 (pc := 2) dX8_mixChoice_2 ?_
  refine G_iconst (pc := 5) (0) dX8_mixChoice_5 ci_0 ?_
  obtain ⟨q1, e1, h⟩ := bnd_some h
  refine G_callV1r (pc := 6) 34 0 dX8_mixChoice_6 wv_X8_175 cd_X0_tell (S_X0_tell _ _ _ e1) (by decide) (by decide) rfl (by decide) (fun _ _ => ⟨_, rfl⟩) (Nat.le_of_ble_eq_true rfl) ?_
  refine G_i2l (pc := 9) dX8_mixChoice_9 ?_
  obtain ⟨q2, e2, h⟩ := bnd_some h
  refine G_callS2r (pc := 10) dX8_mixChoice_10 ws_X8_273 cd_X8_mix (S_X8_mix _ _ _ _ e2) (by decide) (by decide) (Nat.le_of_ble_eq_true rfl) ?_
  refine G_aload_n (pc := 13) 0 dX8_mixChoice_13 rfl ?_
  refine gwC_X8_67_0 (pc := 14) dX8_mixChoice_14 ?_
  refine G_iconst (pc := 17) (1) dX8_mixChoice_17 ci_1 ?_
  obtain ⟨q3, e3, h⟩ := bnd_some h
  refine G_callV1r (pc := 18) 34 0 dX8_mixChoice_18 wv_X8_175 cd_X0_tell (S_X0_tell _ _ _ e3) (by decide) (by decide) rfl (by decide) (fun _ _ => ⟨_, rfl⟩) (Nat.le_of_ble_eq_true rfl) ?_
  refine G_i2l (pc := 21) dX8_mixChoice_21 ?_
  obtain ⟨q4, e4, h⟩ := bnd_some h
  refine G_callS2r (pc := 22) dX8_mixChoice_22 ws_X8_273 cd_X8_mix (S_X8_mix _ _ _ _ e4) (by decide) (by decide) (Nat.le_of_ble_eq_true rfl) ?_
  obtain rfl := Option.some.inj h
  exact G_lret (pc := 25) rfl dX8_mixChoice_25
def L_X8_digestOwners_5 : Nat → Int64 → Int32 → Mm → Option (Int64 × Mm)
  | 0, _, _, _ => none
  | n + 1, x3, x5, μ => if 6 ≤ x5 then some (x3, μ) else (F_X8_owned x5 μ).bind (fun q2 => (F_X8_mix x3 q2.1.toInt64 q2.2).bind (fun q3 => (F_X8_chooseJudge 6 x5 q3.2).bind (fun q4 => (F_X8_mixChoice q3.1 q4).bind (fun q5 => L_X8_digestOwners_5 n q5.1 (x5 + 1) q5.2))))
set_option maxRecDepth 100000 in
set_option maxHeartbeats 4000000 in
theorem L_X8_digestOwners_5_s (n : Nat) (x3 : Int64) (x5 : Int32) (μ : Mm) : L_X8_digestOwners_5  (n + 1) x3 x5 μ = (if 6 ≤ x5 then some (x3, μ) else (F_X8_owned x5 μ).bind (fun q2 => (F_X8_mix x3 q2.1.toInt64 q2.2).bind (fun q3 => (F_X8_chooseJudge 6 x5 q3.2).bind (fun q4 => (F_X8_mixChoice q3.1 q4).bind (fun q5 => L_X8_digestOwners_5 n q5.1 (x5 + 1) q5.2))))) := rfl
set_option maxRecDepth 100000 in
set_option maxHeartbeats 4000000 in
theorem B_X8_digestOwners_5 : ∀ (n : Nat) (x3 : Int64) (x5 : Int32) (μ : Mm) (q : (Int64 × Mm)), L_X8_digestOwners_5  n x3 x5 μ = some q → G wC RX8 cX8_digestOwners 6 (some .long) 6 (some (.long q.1)) q.2 5 [(0, .ref 0), (3, .long x3), (5, .int x5)] [] μ := by
  intro n
  induction n with
  | zero =>
    intro x3 x5 μ q  h
    cases h
  | succ n ih =>
    intro x3 x5 μ q  h
    rw [L_X8_digestOwners_5_s] at h
    refine G_iload (pc := 5) 2 dX8_digestOwners_5 rfl ?_
    refine G_bipush (pc := 7) (6) dX8_digestOwners_7 bp_6 ?_
    refine G_icmp_ge (pc := 9) 44 dX8_digestOwners_9 (by decide) (fun c1 => ?_) (fun c1 => ?_)
    · replace h := itp c1 h
      refine G_lload_n (pc := 44) 1 dX8_digestOwners_44 rfl ?_
      obtain rfl := Option.some.inj h
      exact G_lret (pc := 45) rfl dX8_digestOwners_45
    · replace h := itn c1 h
      refine G_lload_n (pc := 12) 1 dX8_digestOwners_12 rfl ?_
      refine G_aload_n (pc := 13) 0 dX8_digestOwners_13 rfl ?_
      refine G_iload (pc := 14) 2 dX8_digestOwners_14 rfl ?_
      obtain ⟨q2, e2, h⟩ := bnd_some h
      refine G_callV1r (pc := 16) 0 7 dX8_digestOwners_16 wv_X8_326 cd_X8_owned (S_X8_owned _ _ _ e2) (by decide) (by decide) rfl (by decide) (fun _ _ => ⟨_, rfl⟩) (Nat.le_of_ble_eq_true rfl) ?_
      refine G_i2l (pc := 19) dX8_digestOwners_19 ?_
      obtain ⟨q3, e3, h⟩ := bnd_some h
      refine G_callS2r (pc := 20) dX8_digestOwners_20 ws_X8_273 cd_X8_mix (S_X8_mix _ _ _ _ e3) (by decide) (by decide) (Nat.le_of_ble_eq_true rfl) ?_
      refine G_lstore_n (pc := 23) [(3, .long _), (0, .ref _), (5, .int _)] dX8_digestOwners_23 (Nat.le_of_ble_eq_true rfl) rfl ?_
      refine G_aload_n (pc := 24) 1 dX8_digestOwners_24 rfl ?_
      refine G_bipush (pc := 25) (6) dX8_digestOwners_25 bp_6 ?_
      refine G_iload (pc := 27) 2 dX8_digestOwners_27 rfl ?_
      obtain ⟨q4, e4, h⟩ := bnd_some h
      refine G_callV2v (pc := 29) 0 7 dX8_digestOwners_29 wv_X8_181 cd_X8_chooseJudge (S_X8_chooseJudge _ _ _ _ e4) (by decide) (by decide) rfl (by decide) (fun _ _ => ⟨_, rfl⟩) (Nat.le_of_ble_eq_true rfl) ?_
      refine G_aload_n (pc := 32) 1 dX8_digestOwners_32 rfl ?_
      refine G_lload_n (pc := 33) 0 dX8_digestOwners_33 rfl ?_
      obtain ⟨q5, e5, h⟩ := bnd_some h
      refine G_callV1r (pc := 34) 0 7 dX8_digestOwners_34 wv_X8_315 cd_X8_mixChoice (S_X8_mixChoice _ _ _ e5) (by decide) (by decide) rfl (by decide) (fun _ _ => ⟨_, rfl⟩) (Nat.le_of_ble_eq_true rfl) ?_
      refine G_lstore_n (pc := 37) [(3, .long _), (0, .ref _), (5, .int _)] dX8_digestOwners_37 (Nat.le_of_ble_eq_true rfl) rfl ?_
      refine G_iinc (pc := 38) (1) 2 [(5, .int _), (3, .long _), (0, .ref _)] dX8_digestOwners_38 ci_1 rfl (Nat.le_of_ble_eq_true rfl) rfl ?_
      refine G_goto (pc := 41) 5 dX8_digestOwners_41 (by decide) ?_
      refine G_loc [2, 1, 0] [(0, .ref _), (3, .long _), (5, .int _)] rfl ?_
      exact ih _ _ _ _ h
def F_X8_digestOwners (x1 : Int64) (μ : Mm) : Option (Int64 × Mm) := L_X8_digestOwners_5 FUEL x1 0 μ
set_option maxRecDepth 100000 in
set_option maxHeartbeats 4000000 in
theorem S_X8_digestOwners (x1 : Int64)  (μ : Mm) (q : (Int64 × Mm)) (h : F_X8_digestOwners x1 μ = some q) : Cn wC yX8_digestOwners cX8_digestOwners 6 (some .long) 6 [.ref 0, .long x1] μ (some (.long q.1)) q.2 := by
  refine Cn_of (by decide +kernel) (Nat.le_of_ble_eq_true rfl) ?_
  show G wC RX8 cX8_digestOwners 6 (some .long) 6 (some (.long q.1)) q.2 0 [(0, .ref 0), (1, .long x1)] [] μ
  unfold F_X8_digestOwners at h
  refine G_lload_n (pc := 0) 1 dX8_digestOwners_0 rfl ?_
  refine G_lstore_n (pc := 1) [(3, .long _), (0, .ref _), (1, .long _)] dX8_digestOwners_1 (Nat.le_of_ble_eq_true rfl) rfl ?_
  refine G_iconst (pc := 2) (0) dX8_digestOwners_2 ci_0 ?_
  refine G_istore (pc := 3) [(5, .int _), (3, .long _), (0, .ref _), (1, .long _)] dX8_digestOwners_3 (Nat.le_of_ble_eq_true rfl) rfl ?_
  refine G_loc [2, 1, 0] [(0, .ref _), (3, .long _), (5, .int _)] rfl ?_
  exact B_X8_digestOwners_5 _ _ _ _ _ h
def L_X8_digestThing_74 (K49 : Int32 → Int64 → Int32 → Int32 → Mm → Option (Int64 × Mm)) : Nat → Int32 → Int64 → Int32 → Int32 → Int32 → Mm → Option (Int64 × Mm)
  | 0, _, _, _, _, _, _ => none
  | n + 1, x3, x4, x7, x8, x10, μ => if 5 ≤ x10 then K49 x3 x4 x7 (x8 + 1) μ else (F_X7_tellOf x3 x10 μ).bind (fun q20 => (F_X8_mix x4 q20.1.toInt64 q20.2).bind (fun q21 => L_X8_digestThing_74 K49 n x3 q21.1 x7 x8 (x10 + 1) q21.2))
set_option maxRecDepth 100000 in
set_option maxHeartbeats 4000000 in
theorem L_X8_digestThing_74_s (K49 : Int32 → Int64 → Int32 → Int32 → Mm → Option (Int64 × Mm)) (n : Nat) (x3 : Int32) (x4 : Int64) (x7 : Int32) (x8 : Int32) (x10 : Int32) (μ : Mm) : L_X8_digestThing_74 K49 (n + 1) x3 x4 x7 x8 x10 μ = (if 5 ≤ x10 then K49 x3 x4 x7 (x8 + 1) μ else (F_X7_tellOf x3 x10 μ).bind (fun q20 => (F_X8_mix x4 q20.1.toInt64 q20.2).bind (fun q21 => L_X8_digestThing_74 K49 n x3 q21.1 x7 x8 (x10 + 1) q21.2))) := rfl
set_option maxRecDepth 100000 in
set_option maxHeartbeats 4000000 in
theorem B_X8_digestThing_74 (K49 : Int32 → Int64 → Int32 → Int32 → Mm → Option (Int64 × Mm)) (hK49 : ∀ (x3 : Int32) (x4 : Int64) (x7 : Int32) (x8 : Int32) (μ : Mm) (q : (Int64 × Mm)), K49 x3 x4 x7 x8 μ = some q → G wC RX8 cX8_digestThing 11 (some .long) 6 (some (.long q.1)) q.2 49 [(0, .ref 0), (3, .int x3), (4, .long x4), (6, .ref 99), (7, .int x7), (8, .int x8)] [] μ) : ∀ (n : Nat) (x3 : Int32) (x4 : Int64) (x7 : Int32) (x8 : Int32) (x10 : Int32) (μ : Mm) (q : (Int64 × Mm)), L_X8_digestThing_74 K49 n x3 x4 x7 x8 x10 μ = some q → G wC RX8 cX8_digestThing 11 (some .long) 6 (some (.long q.1)) q.2 74 [(0, .ref 0), (3, .int x3), (4, .long x4), (6, .ref 99), (7, .int x7), (8, .int x8), (10, .int x10)] [] μ := by
  intro n
  induction n with
  | zero =>
    intro x3 x4 x7 x8 x10 μ q  h
    cases h
  | succ n ih =>
    intro x3 x4 x7 x8 x10 μ q  h
    rw [L_X8_digestThing_74_s] at h
    refine G_iload (pc := 74) 6 dX8_digestThing_74 rfl ?_
    refine G_iconst (pc := 76) (5) dX8_digestThing_76 ci_5 ?_
    refine G_icmp_ge (pc := 77) 104 dX8_digestThing_77 (by decide) (fun c19 => ?_) (fun c19 => ?_)
    · replace h := itp c19 h
      refine G_iinc (pc := 104) (1) 5 [(8, .int _), (0, .ref _), (3, .int _), (4, .long _), (6, .ref _), (7, .int _), (10, .int _)] dX8_digestThing_104 ci_1 rfl (Nat.le_of_ble_eq_true rfl) rfl ?_
      refine G_goto (pc := 107) 49 dX8_digestThing_107 (by decide) ?_
      refine G_loc [1, 2, 3, 4, 5, 0] [(0, .ref _), (3, .int _), (4, .long _), (6, .ref _), (7, .int _), (8, .int _)] rfl ?_
      exact hK49 _ _ _ _ _ _ h
    · replace h := itn c19 h
      refine G_lload (pc := 80) 2 dX8_digestThing_80 rfl ?_
      refine G_aload_n (pc := 82) 0 dX8_digestThing_82 rfl ?_
      refine gwC_X8_60_0 (pc := 83) dX8_digestThing_83 ?_
      refine G_iload_n (pc := 86) 1 dX8_digestThing_86 rfl ?_
      refine G_iload (pc := 87) 6 dX8_digestThing_87 rfl ?_
      obtain ⟨q20, e20, h⟩ := bnd_some h
      refine G_callV2r (pc := 89) 28 6 dX8_digestThing_89 wv_X8_139 cd_X7_tellOf (S_X7_tellOf _ _ _ _ e20) (by decide) (by decide) rfl (by decide) (fun _ _ => ⟨_, rfl⟩) (Nat.le_of_ble_eq_true rfl) ?_
      refine G_i2l (pc := 92) dX8_digestThing_92 ?_
      obtain ⟨q21, e21, h⟩ := bnd_some h
      refine G_callS2r (pc := 93) dX8_digestThing_93 ws_X8_273 cd_X8_mix (S_X8_mix _ _ _ _ e21) (by decide) (by decide) (Nat.le_of_ble_eq_true rfl) ?_
      refine G_lstore (pc := 96) [(4, .long _), (0, .ref _), (3, .int _), (6, .ref _), (7, .int _), (8, .int _), (10, .int _)] dX8_digestThing_96 (Nat.le_of_ble_eq_true rfl) rfl ?_
      refine G_iinc (pc := 98) (1) 6 [(10, .int _), (4, .long _), (0, .ref _), (3, .int _), (6, .ref _), (7, .int _), (8, .int _)] dX8_digestThing_98 ci_1 rfl (Nat.le_of_ble_eq_true rfl) rfl ?_
      refine G_goto (pc := 101) 74 dX8_digestThing_101 (by decide) ?_
      refine G_loc [2, 3, 1, 4, 5, 6, 0] [(0, .ref _), (3, .int _), (4, .long _), (6, .ref _), (7, .int _), (8, .int _), (10, .int _)] rfl ?_
      exact ih _ _ _ _ _ _ _ h
def L_X8_digestThing_49 : Nat → Int32 → Int64 → Int32 → Int32 → Mm → Option (Int64 × Mm)
  | 0, _, _, _, _, _ => none
  | n + 1, x3, x4, x7, x8, μ => if x7 ≤ x8 then (F_X8_chooseBrush x3 μ).bind (fun q3 => (F_X8_mixChoice x4 q3).bind (fun q4 => (F_X8_chooseRival x3 q4.2).bind (fun q5 => (F_X8_mixChoice q4.1 q5).bind (fun q6 => (F_X8_looked x3 q6.2).bind (fun q7 => (F_X8_mix q6.1 q7.1.toInt64 q7.2).bind (fun q8 => (F_X8_ask x3 q8.2).bind (fun q9 => (F_X8_mix q8.1 q9.1.toInt64 q9.2).bind (fun q10 => gi x3 10 ((F_X8_partOfFraction (q10.2.2 35 x3.toNatClampNeg) 0 q10.2).bind (fun q12 => (F_X8_mix q10.1 q12.1 q12.2).bind (fun q13 => gi x3 10 ((F_X8_partOfFraction (q13.2.2 35 x3.toNatClampNeg) 1 q13.2).bind (fun q15 => (F_X8_mix q13.1 q15.1 q15.2).bind (fun q16 => some (q16.1, q16.2))))))))))))))) else gi x8 4 ((F_X8_runAsTold ((dW x8.toNatClampNeg) + 1) μ).bind (fun q18 => L_X8_digestThing_74 (L_X8_digestThing_49 n) FUEL x3 x4 x7 x8 0 q18))
set_option maxRecDepth 100000 in
set_option maxHeartbeats 4000000 in
theorem L_X8_digestThing_49_s (n : Nat) (x3 : Int32) (x4 : Int64) (x7 : Int32) (x8 : Int32) (μ : Mm) : L_X8_digestThing_49  (n + 1) x3 x4 x7 x8 μ = (if x7 ≤ x8 then (F_X8_chooseBrush x3 μ).bind (fun q3 => (F_X8_mixChoice x4 q3).bind (fun q4 => (F_X8_chooseRival x3 q4.2).bind (fun q5 => (F_X8_mixChoice q4.1 q5).bind (fun q6 => (F_X8_looked x3 q6.2).bind (fun q7 => (F_X8_mix q6.1 q7.1.toInt64 q7.2).bind (fun q8 => (F_X8_ask x3 q8.2).bind (fun q9 => (F_X8_mix q8.1 q9.1.toInt64 q9.2).bind (fun q10 => gi x3 10 ((F_X8_partOfFraction (q10.2.2 35 x3.toNatClampNeg) 0 q10.2).bind (fun q12 => (F_X8_mix q10.1 q12.1 q12.2).bind (fun q13 => gi x3 10 ((F_X8_partOfFraction (q13.2.2 35 x3.toNatClampNeg) 1 q13.2).bind (fun q15 => (F_X8_mix q13.1 q15.1 q15.2).bind (fun q16 => some (q16.1, q16.2))))))))))))))) else gi x8 4 ((F_X8_runAsTold ((dW x8.toNatClampNeg) + 1) μ).bind (fun q18 => L_X8_digestThing_74 (L_X8_digestThing_49 n) FUEL x3 x4 x7 x8 0 q18))) := rfl
set_option maxRecDepth 100000 in
set_option maxHeartbeats 4000000 in
theorem B_X8_digestThing_49 : ∀ (n : Nat) (x3 : Int32) (x4 : Int64) (x7 : Int32) (x8 : Int32) (μ : Mm) (q : (Int64 × Mm)), L_X8_digestThing_49  n x3 x4 x7 x8 μ = some q → G wC RX8 cX8_digestThing 11 (some .long) 6 (some (.long q.1)) q.2 49 [(0, .ref 0), (3, .int x3), (4, .long x4), (6, .ref 99), (7, .int x7), (8, .int x8)] [] μ := by
  intro n
  induction n with
  | zero =>
    intro x3 x4 x7 x8 μ q  h
    cases h
  | succ n ih =>
    intro x3 x4 x7 x8 μ q  h
    rw [L_X8_digestThing_49_s] at h
    refine G_iload (pc := 49) 5 dX8_digestThing_49 rfl ?_
    refine G_iload (pc := 51) 4 dX8_digestThing_51 rfl ?_
    refine G_icmp_ge (pc := 53) 110 dX8_digestThing_53 (by decide) (fun c2 => ?_) (fun c2 => ?_)
    · replace h := itp c2 h
      refine G_aload_n (pc := 110) 0 dX8_digestThing_110 rfl ?_
      refine G_iload_n (pc := 111) 1 dX8_digestThing_111 rfl ?_
      obtain ⟨q3, e3, h⟩ := bnd_some h
      refine G_callV1v (pc := 112) 0 7 dX8_digestThing_112 wv_X8_172 cd_X8_chooseBrush (S_X8_chooseBrush _ _ _ e3) (by decide) (by decide) rfl (by decide) (fun _ _ => ⟨_, rfl⟩) (Nat.le_of_ble_eq_true rfl) ?_
      refine G_aload_n (pc := 115) 0 dX8_digestThing_115 rfl ?_
      refine G_lload (pc := 116) 2 dX8_digestThing_116 rfl ?_
      obtain ⟨q4, e4, h⟩ := bnd_some h
      refine G_callV1r (pc := 118) 0 7 dX8_digestThing_118 wv_X8_315 cd_X8_mixChoice (S_X8_mixChoice _ _ _ e4) (by decide) (by decide) rfl (by decide) (fun _ _ => ⟨_, rfl⟩) (Nat.le_of_ble_eq_true rfl) ?_
      refine G_lstore (pc := 121) [(4, .long _), (0, .ref _), (3, .int _), (6, .ref _), (7, .int _), (8, .int _)] dX8_digestThing_121 (Nat.le_of_ble_eq_true rfl) rfl ?_
      refine G_aload_n (pc := 123) 1 dX8_digestThing_123 rfl ?_
      refine G_iload_n (pc := 124) 2 dX8_digestThing_124 rfl ?_
      obtain ⟨q5, e5, h⟩ := bnd_some h
      refine G_callV1v (pc := 125) 0 7 dX8_digestThing_125 wv_X8_178 cd_X8_chooseRival (S_X8_chooseRival _ _ _ e5) (by decide) (by decide) rfl (by decide) (fun _ _ => ⟨_, rfl⟩) (Nat.le_of_ble_eq_true rfl) ?_
      refine G_aload_n (pc := 128) 1 dX8_digestThing_128 rfl ?_
      refine G_lload (pc := 129) 0 dX8_digestThing_129 rfl ?_
      obtain ⟨q6, e6, h⟩ := bnd_some h
      refine G_callV1r (pc := 131) 0 7 dX8_digestThing_131 wv_X8_315 cd_X8_mixChoice (S_X8_mixChoice _ _ _ e6) (by decide) (by decide) rfl (by decide) (fun _ _ => ⟨_, rfl⟩) (Nat.le_of_ble_eq_true rfl) ?_
      refine G_lstore (pc := 134) [(4, .long _), (0, .ref _), (3, .int _), (6, .ref _), (7, .int _), (8, .int _)] dX8_digestThing_134 (Nat.le_of_ble_eq_true rfl) rfl ?_
      refine G_lload (pc := 136) 0 dX8_digestThing_136 rfl ?_
      refine G_aload_n (pc := 138) 1 dX8_digestThing_138 rfl ?_
      refine G_iload_n (pc := 139) 2 dX8_digestThing_139 rfl ?_
      obtain ⟨q7, e7, h⟩ := bnd_some h
      refine G_callV1r (pc := 140) 0 7 dX8_digestThing_140 wv_X8_318 cd_X8_looked (S_X8_looked _ _ _ e7) (by decide) (by decide) rfl (by decide) (fun _ _ => ⟨_, rfl⟩) (Nat.le_of_ble_eq_true rfl) ?_
      refine G_i2l (pc := 143) dX8_digestThing_143 ?_
      obtain ⟨q8, e8, h⟩ := bnd_some h
      refine G_callS2r (pc := 144) dX8_digestThing_144 ws_X8_273 cd_X8_mix (S_X8_mix _ _ _ _ e8) (by decide) (by decide) (Nat.le_of_ble_eq_true rfl) ?_
      refine G_lstore (pc := 147) [(4, .long _), (0, .ref _), (3, .int _), (6, .ref _), (7, .int _), (8, .int _)] dX8_digestThing_147 (Nat.le_of_ble_eq_true rfl) rfl ?_
      refine G_lload (pc := 149) 0 dX8_digestThing_149 rfl ?_
      refine G_aload_n (pc := 151) 1 dX8_digestThing_151 rfl ?_
      refine G_iload_n (pc := 152) 2 dX8_digestThing_152 rfl ?_
      obtain ⟨q9, e9, h⟩ := bnd_some h
      refine G_callV1r (pc := 153) 0 7 dX8_digestThing_153 wv_X8_321 cd_X8_ask (S_X8_ask _ _ _ e9) (by decide) (by decide) rfl (by decide) (fun _ _ => ⟨_, rfl⟩) (Nat.le_of_ble_eq_true rfl) ?_
      refine G_i2l (pc := 156) dX8_digestThing_156 ?_
      obtain ⟨q10, e10, h⟩ := bnd_some h
      refine G_callS2r (pc := 157) dX8_digestThing_157 ws_X8_273 cd_X8_mix (S_X8_mix _ _ _ _ e10) (by decide) (by decide) (Nat.le_of_ble_eq_true rfl) ?_
      refine G_lstore (pc := 160) [(4, .long _), (0, .ref _), (3, .int _), (6, .ref _), (7, .int _), (8, .int _)] dX8_digestThing_160 (Nat.le_of_ble_eq_true rfl) rfl ?_
      refine G_lload (pc := 162) 0 dX8_digestThing_162 rfl ?_
      refine G_aload_n (pc := 164) 1 dX8_digestThing_164 rfl ?_
      refine G_aload_n (pc := 165) 1 dX8_digestThing_165 rfl ?_
      refine gwC_X8_71_0 (pc := 166) dX8_digestThing_166 ?_
      refine G_iload_n (pc := 169) 2 dX8_digestThing_169 rfl ?_
      obtain ⟨g11, h⟩ := gi_some h
      refine alwC_35 (pc := 170) dX8_digestThing_170 g11 ?_
      refine G_iconst (pc := 171) (0) dX8_digestThing_171 ci_0 ?_
      obtain ⟨q12, e12, h⟩ := bnd_some h
      refine G_callV2r (pc := 172) 0 7 dX8_digestThing_172 wv_X8_228 cd_X8_partOfFraction (S_X8_partOfFraction _ _ _ _ e12) (by decide) (by decide) rfl (by decide) (fun _ _ => ⟨_, rfl⟩) (Nat.le_of_ble_eq_true rfl) ?_
      obtain ⟨q13, e13, h⟩ := bnd_some h
      refine G_callS2r (pc := 175) dX8_digestThing_175 ws_X8_273 cd_X8_mix (S_X8_mix _ _ _ _ e13) (by decide) (by decide) (Nat.le_of_ble_eq_true rfl) ?_
      refine G_lstore (pc := 178) [(4, .long _), (0, .ref _), (3, .int _), (6, .ref _), (7, .int _), (8, .int _)] dX8_digestThing_178 (Nat.le_of_ble_eq_true rfl) rfl ?_
      refine G_lload (pc := 180) 0 dX8_digestThing_180 rfl ?_
      refine G_aload_n (pc := 182) 1 dX8_digestThing_182 rfl ?_
      refine G_aload_n (pc := 183) 1 dX8_digestThing_183 rfl ?_
      refine gwC_X8_71_0 (pc := 184) dX8_digestThing_184 ?_
      refine G_iload_n (pc := 187) 2 dX8_digestThing_187 rfl ?_
      obtain ⟨g14, h⟩ := gi_some h
      refine alwC_35 (pc := 188) dX8_digestThing_188 g14 ?_
      refine G_iconst (pc := 189) (1) dX8_digestThing_189 ci_1 ?_
      obtain ⟨q15, e15, h⟩ := bnd_some h
      refine G_callV2r (pc := 190) 0 7 dX8_digestThing_190 wv_X8_228 cd_X8_partOfFraction (S_X8_partOfFraction _ _ _ _ e15) (by decide) (by decide) rfl (by decide) (fun _ _ => ⟨_, rfl⟩) (Nat.le_of_ble_eq_true rfl) ?_
      obtain ⟨q16, e16, h⟩ := bnd_some h
      refine G_callS2r (pc := 193) dX8_digestThing_193 ws_X8_273 cd_X8_mix (S_X8_mix _ _ _ _ e16) (by decide) (by decide) (Nat.le_of_ble_eq_true rfl) ?_
      obtain rfl := Option.some.inj h
      exact G_lret (pc := 196) rfl dX8_digestThing_196
    · replace h := itn c2 h
      refine G_aload (pc := 56) 3 dX8_digestThing_56 rfl ?_
      refine G_iload (pc := 58) 5 dX8_digestThing_58 rfl ?_
      obtain ⟨g17, h⟩ := gi_some h
      refine G_tald (pc := 60) dX8_digestThing_60 g17 ?_
      refine G_istore (pc := 61) [(9, .int _), (0, .ref _), (3, .int _), (4, .long _), (6, .ref _), (7, .int _), (8, .int _)] dX8_digestThing_61 (Nat.le_of_ble_eq_true rfl) rfl ?_
      refine G_aload_n (pc := 63) 1 dX8_digestThing_63 rfl ?_
      refine G_iload (pc := 64) 0 dX8_digestThing_64 rfl ?_
      refine G_iconst (pc := 66) (1) dX8_digestThing_66 ci_1 ?_
      refine G_iadd (pc := 67) dX8_digestThing_67 ?_
      obtain ⟨q18, e18, h⟩ := bnd_some h
      refine G_callV1v (pc := 68) 0 7 dX8_digestThing_68 wv_X8_133 cd_X8_runAsTold (S_X8_runAsTold _ _ _ e18) (by decide) (by decide) rfl (by decide) (fun _ _ => ⟨_, rfl⟩) (Nat.le_of_ble_eq_true rfl) ?_
      refine G_iconst (pc := 71) (0) dX8_digestThing_71 ci_0 ?_
      refine G_istore (pc := 72) [(10, .int _), (9, .int _), (0, .ref _), (3, .int _), (4, .long _), (6, .ref _), (7, .int _), (8, .int _)] dX8_digestThing_72 (Nat.le_of_ble_eq_true rfl) rfl ?_
      refine G_loc [2, 3, 4, 5, 6, 7, 0] [(0, .ref _), (3, .int _), (4, .long _), (6, .ref _), (7, .int _), (8, .int _), (10, .int _)] rfl ?_
      exact B_X8_digestThing_74 _ ih _ _ _ _ _ _ _ _ h
