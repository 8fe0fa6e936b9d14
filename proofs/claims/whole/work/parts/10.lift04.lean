def F_X9_scores_62 (K9 : Int32 → Int32 → Mm → Option Mm) (x2 : Int32) (x3 : Int32) (y0 : Int32) (μ : Mm) : Option Mm := if y0 = 0 then F_X9_scores_84 K9 x2 x3 (-1) x3 μ else (F_X9_scoreOf x3 x2 μ).bind (fun q7 => F_X9_scores_84 K9 x2 x3 q7.1 x3 q7.2)
set_option maxRecDepth 100000 in
set_option maxHeartbeats 4000000 in
theorem B_X9_scores_62 (K9 : Int32 → Int32 → Mm → Option Mm) (hK9 : ∀ (x2 : Int32) (x3 : Int32) (μ : Mm) (q : Mm), K9 x2 x3 μ = some q → G wM RX9 cX9_scores 5 none 2 none q 9 [(0, .ref 0), (2, .int x2), (3, .int x3)] [] μ) (x2 : Int32) (x3 : Int32) (y0 : Int32) (μ : Mm) (q : Mm)  (h : F_X9_scores_62 K9 x2 x3 y0 μ = some q) : G wM RX9 cX9_scores 5 none 2 none q 62 [(0, .ref 0), (2, .int x2), (3, .int x3)] [.int y0] μ := by
  unfold F_X9_scores_62 at h
  refine G_istore (pc := 62) [(4, .int _), (0, .ref _), (2, .int _), (3, .int _)] dX9_scores_62 (Nat.le_of_ble_eq_true rfl) rfl ?_
  refine G_aload_n (pc := 64) 1 dX9_scores_64 rfl ?_
  refine gwM_X9_53_0 (pc := 65) dX9_scores_65 ?_
  refine G_iload_n (pc := 68) 3 dX9_scores_68 rfl ?_
  refine G_iload (pc := 69) 0 dX9_scores_69 rfl ?_
  refine G_if_eq (pc := 71) 83 dX9_scores_71 (by decide) (fun c5 => ?_) (fun c5 => ?_)
  · replace h := itp c5 h
    refine G_iconst (pc := 83) (-1) dX9_scores_83 ci_m1 ?_
    refine G_loc [1, 2, 3] [(0, .ref _), (2, .int _), (3, .int _)] rfl ?_
    exact B_X9_scores_84 _ hK9 _ _ _ _ _ _ h
  · replace h := itn c5 h
    refine G_aload_n (pc := 74) 1 dX9_scores_74 rfl ?_
    refine G_iload_n (pc := 75) 3 dX9_scores_75 rfl ?_
    refine G_iload_n (pc := 76) 2 dX9_scores_76 rfl ?_
    obtain ⟨q7, e7, h⟩ := bnd_some h
    refine G_callV2r (pc := 77) 0 8 dX9_scores_77 wv_X9_184 cd_X9_scoreOf (S_X9_scoreOf _ _ _ _ e7) (by decide) (by decide) rfl (by decide) (fun _ _ => ⟨_, rfl⟩) (Nat.le_of_ble_eq_true rfl) ?_
    refine G_goto (pc := 80) 84 dX9_scores_80 (by decide) ?_
    refine G_loc [1, 2, 3] [(0, .ref _), (2, .int _), (3, .int _)] rfl ?_
    exact B_X9_scores_84 _ hK9 _ _ _ _ _ _ h
def F_X9_scores_61 (K9 : Int32 → Int32 → Mm → Option Mm) (x2 : Int32) (x3 : Int32) (μ : Mm) : Option Mm := F_X9_scores_62 K9 x2 x3 0 μ
set_option maxRecDepth 100000 in
set_option maxHeartbeats 4000000 in
theorem B_X9_scores_61 (K9 : Int32 → Int32 → Mm → Option Mm) (hK9 : ∀ (x2 : Int32) (x3 : Int32) (μ : Mm) (q : Mm), K9 x2 x3 μ = some q → G wM RX9 cX9_scores 5 none 2 none q 9 [(0, .ref 0), (2, .int x2), (3, .int x3)] [] μ) (x2 : Int32) (x3 : Int32) (μ : Mm) (q : Mm)  (h : F_X9_scores_61 K9 x2 x3 μ = some q) : G wM RX9 cX9_scores 5 none 2 none q 61 [(0, .ref 0), (2, .int x2), (3, .int x3)] [] μ := by
  unfold F_X9_scores_61 at h
  refine G_iconst (pc := 61) (0) dX9_scores_61 ci_0 ?_
  exact B_X9_scores_62 _ hK9 _ _ _ _ _ h
def L_X9_scores_9 : Nat → Int32 → Int32 → Mm → Option Mm
  | 0, _, _, _ => none
  | n + 1, x2, x3, μ => if 10 ≤ x3 then some μ else (F_X9_isJudge x2 μ).bind (fun q3 => if q3.1 = 0 then F_X9_scores_61 (L_X9_scores_9 n) x2 x3 q3.2 else (F_X9_isThing x3 q3.2).bind (fun q8 => if q8.1 = 0 then F_X9_scores_61 (L_X9_scores_9 n) x2 x3 q8.2 else gi x3 10 (if (q8.2.1 16 x3.toNatClampNeg) = 0 then gi x3 10 (if (q8.2.1 14 x3.toNatClampNeg) = 0 then if (q8.2.1 0 18) = x3 then F_X9_scores_61 (L_X9_scores_9 n) x2 x3 q8.2 else F_X9_scores_62 (L_X9_scores_9 n) x2 x3 1 q8.2 else F_X9_scores_61 (L_X9_scores_9 n) x2 x3 q8.2) else F_X9_scores_61 (L_X9_scores_9 n) x2 x3 q8.2)))
set_option maxRecDepth 100000 in
set_option maxHeartbeats 4000000 in
theorem L_X9_scores_9_s (n : Nat) (x2 : Int32) (x3 : Int32) (μ : Mm) : L_X9_scores_9  (n + 1) x2 x3 μ = (if 10 ≤ x3 then some μ else (F_X9_isJudge x2 μ).bind (fun q3 => if q3.1 = 0 then F_X9_scores_61 (L_X9_scores_9 n) x2 x3 q3.2 else (F_X9_isThing x3 q3.2).bind (fun q8 => if q8.1 = 0 then F_X9_scores_61 (L_X9_scores_9 n) x2 x3 q8.2 else gi x3 10 (if (q8.2.1 16 x3.toNatClampNeg) = 0 then gi x3 10 (if (q8.2.1 14 x3.toNatClampNeg) = 0 then if (q8.2.1 0 18) = x3 then F_X9_scores_61 (L_X9_scores_9 n) x2 x3 q8.2 else F_X9_scores_62 (L_X9_scores_9 n) x2 x3 1 q8.2 else F_X9_scores_61 (L_X9_scores_9 n) x2 x3 q8.2) else F_X9_scores_61 (L_X9_scores_9 n) x2 x3 q8.2)))) := rfl
set_option maxRecDepth 100000 in
set_option maxHeartbeats 4000000 in
theorem B_X9_scores_9 : ∀ (n : Nat) (x2 : Int32) (x3 : Int32) (μ : Mm) (q : Mm), L_X9_scores_9  n x2 x3 μ = some q → G wM RX9 cX9_scores 5 none 2 none q 9 [(0, .ref 0), (2, .int x2), (3, .int x3)] [] μ := by
  intro n
  induction n with
  | zero =>
    intro x2 x3 μ q  h
    cases h
  | succ n ih =>
    intro x2 x3 μ q  h
    rw [L_X9_scores_9_s] at h
    refine G_iload_n (pc := 9) 2 dX9_scores_9 rfl ?_
    refine G_bipush (pc := 10) (10) dX9_scores_10 bp_10 ?_
    refine G_icmp_ge (pc := 12) 91 dX9_scores_12 (by decide) (fun c2 => ?_) (fun c2 => ?_)
    · replace h := itp c2 h
      obtain rfl := Option.some.inj h
      exact G_vret (pc := 91) rfl dX9_scores_91
    · replace h := itn c2 h
      refine G_aload_n (pc := 15) 0 dX9_scores_15 rfl ?_
      refine G_iload_n (pc := 16) 1 dX9_scores_16 rfl ?_
      obtain ⟨q3, e3, h⟩ := bnd_some h
      refine G_callV1r (pc := 17) 0 8 dX9_scores_17 wv_X9_161 cd_X9_isJudge (S_X9_isJudge _ _ _ e3) (by decide) (by decide) rfl (by decide) (fun _ _ => ⟨_, rfl⟩) (Nat.le_of_ble_eq_true rfl) ?_
      refine G_if_eq (pc := 20) 61 dX9_scores_20 (by decide) (fun c4 => ?_) (fun c4 => ?_)
      · replace h := itp c4 h
        exact B_X9_scores_61 _ ih _ _ _ _ h
      · replace h := itn c4 h
        refine G_aload_n (pc := 23) 0 dX9_scores_23 rfl ?_
        refine G_iload_n (pc := 24) 2 dX9_scores_24 rfl ?_
        obtain ⟨q8, e8, h⟩ := bnd_some h
        refine G_callV1r (pc := 25) 0 8 dX9_scores_25 wv_X9_158 cd_X9_isThing (S_X9_isThing _ _ _ e8) (by decide) (by decide) rfl (by decide) (fun _ _ => ⟨_, rfl⟩) (Nat.le_of_ble_eq_true rfl) ?_
        refine G_if_eq (pc := 28) 61 dX9_scores_28 (by decide) (fun c9 => ?_) (fun c9 => ?_)
        · replace h := itp c9 h
          exact B_X9_scores_61 _ ih _ _ _ _ h
        · replace h := itn c9 h
          refine G_aload_n (pc := 31) 0 dX9_scores_31 rfl ?_
          refine gwM_X9_56_0 (pc := 32) dX9_scores_32 ?_
          refine G_iload_n (pc := 35) 2 dX9_scores_35 rfl ?_
          obtain ⟨g10, h⟩ := gi_some h
          refine alwM_16 (pc := 36) dX9_scores_36 g10 ?_
          refine G_if_ne (pc := 37) 61 dX9_scores_37 (by decide) (fun c11 => ?_) (fun c11 => ?_)
          · replace h := itn c11 h
            exact B_X9_scores_61 _ ih _ _ _ _ h
          · replace h := itp c11 h
            refine G_aload_n (pc := 40) 0 dX9_scores_40 rfl ?_
            refine gwM_X9_49_0 (pc := 41) dX9_scores_41 ?_
            refine G_iload_n (pc := 44) 2 dX9_scores_44 rfl ?_
            obtain ⟨g12, h⟩ := gi_some h
            refine alwM_14 (pc := 45) dX9_scores_45 g12 ?_
            refine G_if_ne (pc := 46) 61 dX9_scores_46 (by decide) (fun c13 => ?_) (fun c13 => ?_)
            · replace h := itn c13 h
              exact B_X9_scores_61 _ ih _ _ _ _ h
            · replace h := itp c13 h
              refine G_aload_n (pc := 49) 0 dX9_scores_49 rfl ?_
              refine gwM_X9_87_0 (pc := 50) dX9_scores_50 ?_
              refine G_iload_n (pc := 53) 2 dX9_scores_53 rfl ?_
              refine G_icmp_eq (pc := 54) 61 dX9_scores_54 (by decide) (fun c14 => ?_) (fun c14 => ?_)
              · replace h := itp c14 h
                exact B_X9_scores_61 _ ih _ _ _ _ h
              · replace h := itn c14 h
                refine G_iconst (pc := 57) (1) dX9_scores_57 ci_1 ?_
                refine G_goto (pc := 58) 62 dX9_scores_58 (by decide) ?_
                exact B_X9_scores_62 _ ih _ _ _ _ _ h
def F_X9_scores (x1 : Int32) (μ : Mm) : Option Mm := gi x1 12 (L_X9_scores_9 FUEL (μ.1 9 x1.toNatClampNeg) 0 μ)
set_option maxRecDepth 100000 in
set_option maxHeartbeats 4000000 in
theorem S_X9_scores (x1 : Int32)  (μ : Mm) (q : Mm) (h : F_X9_scores x1 μ = some q) : Cn wM yX9_scores cX9_scores 5 none 2 [.ref 0, .int x1] μ none q := by
  refine Cn_of (by decide +kernel) (Nat.le_of_ble_eq_true rfl) ?_
  show G wM RX9 cX9_scores 5 none 2 none q 0 [(0, .ref 0), (1, .int x1)] [] μ
  unfold F_X9_scores at h
  refine G_aload_n (pc := 0) 0 dX9_scores_0 rfl ?_
  refine gwM_X9_34_0 (pc := 1) dX9_scores_1 ?_
  refine G_iload_n (pc := 4) 1 dX9_scores_4 rfl ?_
  obtain ⟨g1, h⟩ := gi_some h
  refine alwM_9 (pc := 5) dX9_scores_5 g1 ?_
  refine G_istore_n (pc := 6) [(2, .int _), (0, .ref _), (1, .int _)] dX9_scores_6 (Nat.le_of_ble_eq_true rfl) rfl ?_
  refine G_iconst (pc := 7) (0) dX9_scores_7 ci_0 ?_
  refine G_istore_n (pc := 8) [(3, .int _), (2, .int _), (0, .ref _), (1, .int _)] dX9_scores_8 (Nat.le_of_ble_eq_true rfl) rfl ?_
  refine G_loc [2, 1, 0] [(0, .ref _), (2, .int _), (3, .int _)] rfl ?_
  exact B_X9_scores_9 _ _ _ _ _ h
def F_X9_isIn (x0 : Int32) (x1 : Int32) (μ : Mm) : Option (Int32 × Mm) := some ((if ((x0 >>> (x1 &&& 31)) &&& 1) = 1 then 1 else 0), μ)
set_option maxRecDepth 100000 in
set_option maxHeartbeats 4000000 in
theorem S_X9_isIn (x0 : Int32) (x1 : Int32)  (μ : Mm) (q : (Int32 × Mm)) (h : F_X9_isIn x0 x1 μ = some q) : Cn wM yX9_isIn cX9_isIn 2 (some .boolean) 0 [.int x0, .int x1] μ (some (.int q.1)) q.2 := by
  refine Cn_of (by decide +kernel) (Nat.le_of_ble_eq_true rfl) ?_
  show G wM RX9 cX9_isIn 2 (some .boolean) 0 (some (.int q.1)) q.2 0 [(0, .int x0), (1, .int x1)] [] μ
  unfold F_X9_isIn at h
  refine G_iload_n (pc := 0) 0 dX9_isIn_0 rfl ?_
  refine G_iload_n (pc := 1) 1 dX9_isIn_1 rfl ?_
  refine G_ishr (pc := 2) dX9_isIn_2 ?_
  refine G_iconst (pc := 3) (1) dX9_isIn_3 ci_1 ?_
  refine G_iand (pc := 4) dX9_isIn_4 ?_
  refine G_iconst (pc := 5) (1) dX9_isIn_5 ci_1 ?_
  refine G_icmp_ne (pc := 6) 13 dX9_isIn_6 (by decide) (fun c1 => ?_) (fun c1 => ?_)
  · rw [if_neg c1] at h
    refine G_iconst (pc := 13) (0) dX9_isIn_13 ci_0 ?_
    obtain rfl := Option.some.inj h
    exact G_zret (pc := 14) rfl (Or.inl rfl) dX9_isIn_14
  · rw [if_pos c1] at h
    refine G_iconst (pc := 9) (1) dX9_isIn_9 ci_1 ?_
    refine G_goto (pc := 10) 14 dX9_isIn_10 (by decide) ?_
    obtain rfl := Option.some.inj h
    exact G_zret (pc := 14) rfl (Or.inr rfl) dX9_isIn_14
def F_X9_bestBut_67 (K4 : Int32 → Int32 → Int32 → Mm → Option (Int32 × Mm)) (x1 : Int32) (x3 : Int32) (y0 : Int32) (μ : Mm) : Option (Int32 × Mm) := K4 x1 y0 (x3 + 1) μ
set_option maxRecDepth 100000 in
set_option maxHeartbeats 4000000 in
theorem B_X9_bestBut_67 (K4 : Int32 → Int32 → Int32 → Mm → Option (Int32 × Mm)) (hK4 : ∀ (x1 : Int32) (x2 : Int32) (x3 : Int32) (μ : Mm) (q : (Int32 × Mm)), K4 x1 x2 x3 μ = some q → G wM RX9 cX9_bestBut 5 (some .int) 1 (some (.int q.1)) q.2 4 [(0, .ref 0), (1, .int x1), (2, .int x2), (3, .int x3)] [] μ) (x1 : Int32) (x3 : Int32) (y0 : Int32) (μ : Mm) (q : (Int32 × Mm))  (h : F_X9_bestBut_67 K4 x1 x3 y0 μ = some q) : G wM RX9 cX9_bestBut 5 (some .int) 1 (some (.int q.1)) q.2 67 [(0, .ref 0), (1, .int x1), (3, .int x3)] [.int y0] μ := by
  unfold F_X9_bestBut_67 at h
  refine G_istore_n (pc := 67) [(2, .int _), (0, .ref _), (1, .int _), (3, .int _)] dX9_bestBut_67 (Nat.le_of_ble_eq_true rfl) rfl ?_
  refine G_iinc (pc := 68) (1) 3 [(3, .int _), (2, .int _), (0, .ref _), (1, .int _)] dX9_bestBut_68 ci_1 rfl (Nat.le_of_ble_eq_true rfl) rfl ?_
  refine G_goto (pc := 71) 4 dX9_bestBut_71 (by decide) ?_
  refine G_loc [2, 3, 1, 0] [(0, .ref _), (1, .int _), (2, .int _), (3, .int _)] rfl ?_
  exact hK4 _ _ _ _ _ h
def F_X9_bestBut_66 (K4 : Int32 → Int32 → Int32 → Mm → Option (Int32 × Mm)) (x1 : Int32) (x2 : Int32) (x3 : Int32) (μ : Mm) : Option (Int32 × Mm) := F_X9_bestBut_67 K4 x1 x3 x2 μ
set_option maxRecDepth 100000 in
set_option maxHeartbeats 4000000 in
theorem B_X9_bestBut_66 (K4 : Int32 → Int32 → Int32 → Mm → Option (Int32 × Mm)) (hK4 : ∀ (x1 : Int32) (x2 : Int32) (x3 : Int32) (μ : Mm) (q : (Int32 × Mm)), K4 x1 x2 x3 μ = some q → G wM RX9 cX9_bestBut 5 (some .int) 1 (some (.int q.1)) q.2 4 [(0, .ref 0), (1, .int x1), (2, .int x2), (3, .int x3)] [] μ) (x1 : Int32) (x2 : Int32) (x3 : Int32) (μ : Mm) (q : (Int32 × Mm))  (h : F_X9_bestBut_66 K4 x1 x2 x3 μ = some q) : G wM RX9 cX9_bestBut 5 (some .int) 1 (some (.int q.1)) q.2 66 [(0, .ref 0), (1, .int x1), (2, .int x2), (3, .int x3)] [] μ := by
  unfold F_X9_bestBut_66 at h
  refine G_iload_n (pc := 66) 2 dX9_bestBut_66 rfl ?_
  refine G_loc [0, 1, 3] [(0, .ref _), (1, .int _), (3, .int _)] rfl ?_
  exact B_X9_bestBut_67 _ hK4 _ _ _ _ _ h
def F_X9_bestBut_62 (K4 : Int32 → Int32 → Int32 → Mm → Option (Int32 × Mm)) (x1 : Int32) (x3 : Int32) (μ : Mm) : Option (Int32 × Mm) := F_X9_bestBut_67 K4 x1 x3 x3 μ
set_option maxRecDepth 100000 in
set_option maxHeartbeats 4000000 in
theorem B_X9_bestBut_62 (K4 : Int32 → Int32 → Int32 → Mm → Option (Int32 × Mm)) (hK4 : ∀ (x1 : Int32) (x2 : Int32) (x3 : Int32) (μ : Mm) (q : (Int32 × Mm)), K4 x1 x2 x3 μ = some q → G wM RX9 cX9_bestBut 5 (some .int) 1 (some (.int q.1)) q.2 4 [(0, .ref 0), (1, .int x1), (2, .int x2), (3, .int x3)] [] μ) (x1 : Int32) (x3 : Int32) (μ : Mm) (q : (Int32 × Mm))  (h : F_X9_bestBut_62 K4 x1 x3 μ = some q) : G wM RX9 cX9_bestBut 5 (some .int) 1 (some (.int q.1)) q.2 62 [(0, .ref 0), (1, .int x1), (3, .int x3)] [] μ := by
  unfold F_X9_bestBut_62 at h
  refine G_iload_n (pc := 62) 2 dX9_bestBut_62 rfl ?_
  refine G_goto (pc := 63) 67 dX9_bestBut_63 (by decide) ?_
  exact B_X9_bestBut_67 _ hK4 _ _ _ _ _ h
def F_X9_bestBut_35 (K4 : Int32 → Int32 → Int32 → Mm → Option (Int32 × Mm)) (x1 : Int32) (x2 : Int32) (x3 : Int32) (y0 : Int32) (μ : Mm) : Option (Int32 × Mm) := if y0 = 0 then F_X9_bestBut_66 K4 x1 x2 x3 μ else if x2 = (-1) then F_X9_bestBut_62 K4 x1 x3 μ else gi x3 10 (gi x2 10 (if (μ.1 15 x3.toNatClampNeg) ≤ (μ.1 15 x2.toNatClampNeg) then F_X9_bestBut_66 K4 x1 x2 x3 μ else F_X9_bestBut_62 K4 x1 x3 μ))
set_option maxRecDepth 100000 in
set_option maxHeartbeats 4000000 in
theorem B_X9_bestBut_35 (K4 : Int32 → Int32 → Int32 → Mm → Option (Int32 × Mm)) (hK4 : ∀ (x1 : Int32) (x2 : Int32) (x3 : Int32) (μ : Mm) (q : (Int32 × Mm)), K4 x1 x2 x3 μ = some q → G wM RX9 cX9_bestBut 5 (some .int) 1 (some (.int q.1)) q.2 4 [(0, .ref 0), (1, .int x1), (2, .int x2), (3, .int x3)] [] μ) (x1 : Int32) (x2 : Int32) (x3 : Int32) (y0 : Int32) (μ : Mm) (q : (Int32 × Mm))  (h : F_X9_bestBut_35 K4 x1 x2 x3 y0 μ = some q) : G wM RX9 cX9_bestBut 5 (some .int) 1 (some (.int q.1)) q.2 35 [(0, .ref 0), (1, .int x1), (2, .int x2), (3, .int x3)] [.int y0] μ := by
  unfold F_X9_bestBut_35 at h
  refine G_istore (pc := 35) [(4, .int _), (0, .ref _), (1, .int _), (2, .int _), (3, .int _)] dX9_bestBut_35 (Nat.le_of_ble_eq_true rfl) rfl ?_
  refine G_iload (pc := 37) 0 dX9_bestBut_37 rfl ?_
  refine G_if_eq (pc := 39) 66 dX9_bestBut_39 (by decide) (fun c4 => ?_) (fun c4 => ?_)
  · replace h := itp c4 h
    refine G_loc [1, 2, 3, 4] [(0, .ref _), (1, .int _), (2, .int _), (3, .int _)] rfl ?_
    exact B_X9_bestBut_66 _ hK4 _ _ _ _ _ h
  · replace h := itn c4 h
    refine G_iload_n (pc := 42) 3 dX9_bestBut_42 rfl ?_
    refine G_iconst (pc := 43) (-1) dX9_bestBut_43 ci_m1 ?_
    refine G_icmp_eq (pc := 44) 62 dX9_bestBut_44 (by decide) (fun c5 => ?_) (fun c5 => ?_)
    · replace h := itp c5 h
      refine G_loc [1, 2, 4] [(0, .ref _), (1, .int _), (3, .int _)] rfl ?_
      exact B_X9_bestBut_62 _ hK4 _ _ _ _ h
    · replace h := itn c5 h
      refine G_aload_n (pc := 47) 1 dX9_bestBut_47 rfl ?_
      refine gwM_X9_53_0 (pc := 48) dX9_bestBut_48 ?_
      refine G_iload_n (pc := 51) 4 dX9_bestBut_51 rfl ?_
      obtain ⟨g6, h⟩ := gi_some h
      refine alwM_15 (pc := 52) dX9_bestBut_52 g6 ?_
      refine G_aload_n (pc := 53) 1 dX9_bestBut_53 rfl ?_
      refine gwM_X9_53_0 (pc := 54) dX9_bestBut_54 ?_
      refine G_iload_n (pc := 57) 3 dX9_bestBut_57 rfl ?_
      obtain ⟨g7, h⟩ := gi_some h
      refine alwM_15 (pc := 58) dX9_bestBut_58 g7 ?_
      refine G_icmp_le (pc := 59) 66 dX9_bestBut_59 (by decide) (fun c8 => ?_) (fun c8 => ?_)
      · replace h := itp c8 h
        refine G_loc [1, 2, 3, 4] [(0, .ref _), (1, .int _), (2, .int _), (3, .int _)] rfl ?_
        exact B_X9_bestBut_66 _ hK4 _ _ _ _ _ h
      · replace h := itn c8 h
        refine G_loc [1, 2, 4] [(0, .ref _), (1, .int _), (3, .int _)] rfl ?_
        exact B_X9_bestBut_62 _ hK4 _ _ _ _ h
def F_X9_bestBut_34 (K4 : Int32 → Int32 → Int32 → Mm → Option (Int32 × Mm)) (x1 : Int32) (x2 : Int32) (x3 : Int32) (μ : Mm) : Option (Int32 × Mm) := F_X9_bestBut_35 K4 x1 x2 x3 0 μ
set_option maxRecDepth 100000 in
set_option maxHeartbeats 4000000 in
theorem B_X9_bestBut_34 (K4 : Int32 → Int32 → Int32 → Mm → Option (Int32 × Mm)) (hK4 : ∀ (x1 : Int32) (x2 : Int32) (x3 : Int32) (μ : Mm) (q : (Int32 × Mm)), K4 x1 x2 x3 μ = some q → G wM RX9 cX9_bestBut 5 (some .int) 1 (some (.int q.1)) q.2 4 [(0, .ref 0), (1, .int x1), (2, .int x2), (3, .int x3)] [] μ) (x1 : Int32) (x2 : Int32) (x3 : Int32) (μ : Mm) (q : (Int32 × Mm))  (h : F_X9_bestBut_34 K4 x1 x2 x3 μ = some q) : G wM RX9 cX9_bestBut 5 (some .int) 1 (some (.int q.1)) q.2 34 [(0, .ref 0), (1, .int x1), (2, .int x2), (3, .int x3)] [] μ := by
  unfold F_X9_bestBut_34 at h
  refine G_iconst (pc := 34) (0) dX9_bestBut_34 ci_0 ?_
  exact B_X9_bestBut_35 _ hK4 _ _ _ _ _ _ h
def L_X9_bestBut_4 : Nat → Int32 → Int32 → Int32 → Mm → Option (Int32 × Mm)
  | 0, _, _, _, _ => none
  | n + 1, x1, x2, x3, μ => if (μ.1 0 7) ≤ x3 then some (x2, μ) else gi x3 10 (if (μ.1 15 x3.toNatClampNeg) = (-1) then F_X9_bestBut_34 (L_X9_bestBut_4 n) x1 x2 x3 μ else (F_X9_isIn x1 x3 μ).bind (fun q9 => if q9.1 = 0 then F_X9_bestBut_35 (L_X9_bestBut_4 n) x1 x2 x3 1 q9.2 else F_X9_bestBut_34 (L_X9_bestBut_4 n) x1 x2 x3 q9.2))
set_option maxRecDepth 100000 in
set_option maxHeartbeats 4000000 in
theorem L_X9_bestBut_4_s (n : Nat) (x1 : Int32) (x2 : Int32) (x3 : Int32) (μ : Mm) : L_X9_bestBut_4  (n + 1) x1 x2 x3 μ = (if (μ.1 0 7) ≤ x3 then some (x2, μ) else gi x3 10 (if (μ.1 15 x3.toNatClampNeg) = (-1) then F_X9_bestBut_34 (L_X9_bestBut_4 n) x1 x2 x3 μ else (F_X9_isIn x1 x3 μ).bind (fun q9 => if q9.1 = 0 then F_X9_bestBut_35 (L_X9_bestBut_4 n) x1 x2 x3 1 q9.2 else F_X9_bestBut_34 (L_X9_bestBut_4 n) x1 x2 x3 q9.2))) := rfl
set_option maxRecDepth 100000 in
set_option maxHeartbeats 4000000 in
theorem B_X9_bestBut_4 : ∀ (n : Nat) (x1 : Int32) (x2 : Int32) (x3 : Int32) (μ : Mm) (q : (Int32 × Mm)), L_X9_bestBut_4  n x1 x2 x3 μ = some q → G wM RX9 cX9_bestBut 5 (some .int) 1 (some (.int q.1)) q.2 4 [(0, .ref 0), (1, .int x1), (2, .int x2), (3, .int x3)] [] μ := by
  intro n
  induction n with
  | zero =>
    intro x1 x2 x3 μ q  h
    cases h
  | succ n ih =>
    intro x1 x2 x3 μ q  h
    rw [L_X9_bestBut_4_s] at h
    refine G_iload_n (pc := 4) 3 dX9_bestBut_4 rfl ?_
    refine G_aload_n (pc := 5) 0 dX9_bestBut_5 rfl ?_
    refine gwM_X9_128_0 (pc := 6) dX9_bestBut_6 ?_
    refine G_icmp_ge (pc := 9) 74 dX9_bestBut_9 (by decide) (fun c1 => ?_) (fun c1 => ?_)
    · replace h := itp c1 h
      refine G_iload_n (pc := 74) 2 dX9_bestBut_74 rfl ?_
      obtain rfl := Option.some.inj h
      exact G_iret (pc := 75) rfl dX9_bestBut_75
    · replace h := itn c1 h
      refine G_aload_n (pc := 12) 0 dX9_bestBut_12 rfl ?_
      refine gwM_X9_53_0 (pc := 13) dX9_bestBut_13 ?_
      refine G_iload_n (pc := 16) 3 dX9_bestBut_16 rfl ?_
      obtain ⟨g2, h⟩ := gi_some h
      refine alwM_15 (pc := 17) dX9_bestBut_17 g2 ?_
      refine G_iconst (pc := 18) (-1) dX9_bestBut_18 ci_m1 ?_
      refine G_icmp_eq (pc := 19) 34 dX9_bestBut_19 (by decide) (fun c3 => ?_) (fun c3 => ?_)
      · replace h := itp c3 h
        exact B_X9_bestBut_34 _ ih _ _ _ _ _ h
      · replace h := itn c3 h
        refine G_iload_n (pc := 22) 1 dX9_bestBut_22 rfl ?_
        refine G_iload_n (pc := 23) 3 dX9_bestBut_23 rfl ?_
        obtain ⟨q9, e9, h⟩ := bnd_some h
        refine G_callS2r (pc := 24) dX9_bestBut_24 ws_X9_187 cd_X9_isIn (S_X9_isIn _ _ _ _ e9) (by decide) (by decide) (Nat.le_of_ble_eq_true rfl) ?_
        refine G_if_ne (pc := 27) 34 dX9_bestBut_27 (by decide) (fun c10 => ?_) (fun c10 => ?_)
        · replace h := itn c10 h
          exact B_X9_bestBut_34 _ ih _ _ _ _ _ h
        · replace h := itp c10 h
          refine G_iconst (pc := 30) (1) dX9_bestBut_30 ci_1 ?_
          refine G_goto (pc := 31) 35 dX9_bestBut_31 (by decide) ?_
          exact B_X9_bestBut_35 _ ih _ _ _ _ _ _ h
def F_X9_bestBut (x1 : Int32) (μ : Mm) : Option (Int32 × Mm) := L_X9_bestBut_4 FUEL x1 (-1) 0 μ
set_option maxRecDepth 100000 in
set_option maxHeartbeats 4000000 in
theorem S_X9_bestBut (x1 : Int32)  (μ : Mm) (q : (Int32 × Mm)) (h : F_X9_bestBut x1 μ = some q) : Cn wM yX9_bestBut cX9_bestBut 5 (some .int) 1 [.ref 0, .int x1] μ (some (.int q.1)) q.2 := by
  refine Cn_of (by decide +kernel) (Nat.le_of_ble_eq_true rfl) ?_
  show G wM RX9 cX9_bestBut 5 (some .int) 1 (some (.int q.1)) q.2 0 [(0, .ref 0), (1, .int x1)] [] μ
  unfold F_X9_bestBut at h
  refine G_iconst (pc := 0) (-1) dX9_bestBut_0 ci_m1 ?_
  refine G_istore_n (pc := 1) [(2, .int _), (0, .ref _), (1, .int _)] dX9_bestBut_1 (Nat.le_of_ble_eq_true rfl) rfl ?_
  refine G_iconst (pc := 2) (0) dX9_bestBut_2 ci_0 ?_
  refine G_istore_n (pc := 3) [(3, .int _), (2, .int _), (0, .ref _), (1, .int _)] dX9_bestBut_3 (Nat.le_of_ble_eq_true rfl) rfl ?_
  refine G_loc [2, 3, 1, 0] [(0, .ref _), (1, .int _), (2, .int _), (3, .int _)] rfl ?_
  exact B_X9_bestBut_4 _ _ _ _ _ _ h
def F_X9_places_127 (x1 : Int32) (μ : Mm) : Option Mm := gi ((3 * x1) + 1) 36 (if (μ.1 22 ((3 * x1) + 1).toNatClampNeg) = (-1) then some μ else gi (3 * (μ.1 22 ((3 * x1) + 1).toNatClampNeg)) 30 (if (μ.1 7 (3 * (μ.1 22 ((3 * x1) + 1).toNatClampNeg)).toNatClampNeg) = 1 then gi (μ.1 22 ((3 * x1) + 1).toNatClampNeg) 10 ((F_X9_greater ((μ.1 11 (μ.1 22 ((3 * x1) + 1).toNatClampNeg).toNatClampNeg) - 1) 0 μ).bind (fun q9 => gi (μ.1 22 ((3 * x1) + 1).toNatClampNeg) 10 (some (wI q9.2 11 (μ.1 22 ((3 * x1) + 1).toNatClampNeg).toNatClampNeg q9.1)))) else some μ))
set_option maxRecDepth 100000 in
set_option maxHeartbeats 4000000 in
theorem B_X9_places_127 (x1 : Int32) (μ : Mm) (q : Mm)  (h : F_X9_places_127  x1 μ = some q) : G wM RX9 cX9_places 5 none 2 none q 127 [(0, .ref 0), (1, .int x1)] [] μ := by
  unfold F_X9_places_127 at h
  refine G_aload_n (pc := 127) 0 dX9_places_127 rfl ?_
  refine gwM_X9_74_0 (pc := 128) dX9_places_128 ?_
  refine G_iconst (pc := 131) (3) dX9_places_131 ci_3 ?_
  refine G_iload_n (pc := 132) 1 dX9_places_132 rfl ?_
  refine G_imul (pc := 133) dX9_places_133 ?_
  refine G_iconst (pc := 134) (1) dX9_places_134 ci_1 ?_
  refine G_iadd (pc := 135) dX9_places_135 ?_
  obtain ⟨g4, h⟩ := gi_some h
  refine alwM_22 (pc := 136) dX9_places_136 g4 ?_
  refine G_istore (pc := 137) [(4, .int _), (0, .ref _), (1, .int _)] dX9_places_137 (Nat.le_of_ble_eq_true rfl) rfl ?_
  refine G_iload (pc := 139) 0 dX9_places_139 rfl ?_
  refine G_iconst (pc := 141) (-1) dX9_places_141 ci_m1 ?_
  refine G_icmp_eq (pc := 142) 178 dX9_places_142 (by decide) (fun c5 => ?_) (fun c5 => ?_)
  · replace h := itp c5 h
    obtain rfl := Option.some.inj h
    exact G_vret (pc := 178) rfl dX9_places_178
  · replace h := itn c5 h
    refine G_aload_n (pc := 145) 1 dX9_places_145 rfl ?_
    refine gwM_X9_28_0 (pc := 146) dX9_places_146 ?_
    refine G_iconst (pc := 149) (3) dX9_places_149 ci_3 ?_
    refine G_iload (pc := 150) 0 dX9_places_150 rfl ?_
    refine G_imul (pc := 152) dX9_places_152 ?_
    obtain ⟨g6, h⟩ := gi_some h
    refine alwM_7 (pc := 153) dX9_places_153 g6 ?_
    refine G_iconst (pc := 154) (1) dX9_places_154 ci_1 ?_
    refine G_icmp_ne (pc := 155) 178 dX9_places_155 (by decide) (fun c7 => ?_) (fun c7 => ?_)
    · replace h := itn c7 h
      obtain rfl := Option.some.inj h
      exact G_vret (pc := 178) rfl dX9_places_178
    · replace h := itp c7 h
      refine G_aload_n (pc := 158) 1 dX9_places_158 rfl ?_
      refine gwM_X9_40_0 (pc := 159) dX9_places_159 ?_
      refine G_iload (pc := 162) 0 dX9_places_162 rfl ?_
      refine G_aload_n (pc := 164) 1 dX9_places_164 rfl ?_
      refine gwM_X9_40_0 (pc := 165) dX9_places_165 ?_
      refine G_iload (pc := 168) 0 dX9_places_168 rfl ?_
      obtain ⟨g8, h⟩ := gi_some h
      refine alwM_11 (pc := 170) dX9_places_170 g8 ?_
      refine G_iconst (pc := 171) (1) dX9_places_171 ci_1 ?_
      refine G_isub (pc := 172) dX9_places_172 ?_
      refine G_iconst (pc := 173) (0) dX9_places_173 ci_0 ?_
      obtain ⟨q9, e9, h⟩ := bnd_some h
      refine G_callS2r (pc := 174) dX9_places_174 ws_X9_181 cd_X9_greater (S_X9_greater _ _ _ _ e9) (by decide) (by decide) (Nat.le_of_ble_eq_true rfl) ?_
      obtain ⟨g10, h⟩ := gi_some h
      refine aswM_11 (pc := 177) dX9_places_177 g10 ?_
      obtain rfl := Option.some.inj h
      exact G_vret (pc := 178) rfl dX9_places_178
def F_X9_places_126 (x1 : Int32) (y0 : Int32) (y1 : Int32) (μ : Mm) : Option Mm := gi y1 10 (gb y0 (F_X9_places_127 x1 (wI μ 14 y1.toNatClampNeg y0)))
set_option maxRecDepth 100000 in
set_option maxHeartbeats 4000000 in
theorem B_X9_places_126 (x1 : Int32) (y0 : Int32) (y1 : Int32) (μ : Mm) (q : Mm)  (h : F_X9_places_126  x1 y0 y1 μ = some q) : G wM RX9 cX9_places 5 none 2 none q 126 [(0, .ref 0), (1, .int x1)] [.int y0, .int y1, .ref 14] μ := by
  unfold F_X9_places_126 at h
  obtain ⟨g15, h⟩ := gi_some h
  obtain ⟨bg15, h⟩ := gb_some h
  refine aswM_14 (pc := 126) dX9_places_126 g15 bg15 ?_
  exact B_X9_places_127 _ _ _ h
def F_X9_places_125 (x1 : Int32) (y0 : Int32) (μ : Mm) : Option Mm := F_X9_places_126 x1 0 y0 μ
set_option maxRecDepth 100000 in
set_option maxHeartbeats 4000000 in
theorem B_X9_places_125 (x1 : Int32) (y0 : Int32) (μ : Mm) (q : Mm)  (h : F_X9_places_125  x1 y0 μ = some q) : G wM RX9 cX9_places 5 none 2 none q 125 [(0, .ref 0), (1, .int x1)] [.int y0, .ref 14] μ := by
  unfold F_X9_places_125 at h
  refine G_iconst (pc := 125) (0) dX9_places_125 ci_0 ?_
  exact B_X9_places_126 _ _ _ _ _ h
def F_X9_places_54 (K4 : Int32 → Int32 → Int32 → Mm → Option Mm) (x1 : Int32) (x2 : Int32) (x3 : Int32) (μ : Mm) : Option Mm := K4 x1 x2 (x3 + 1) μ
set_option maxRecDepth 100000 in
set_option maxHeartbeats 4000000 in
theorem B_X9_places_54 (K4 : Int32 → Int32 → Int32 → Mm → Option Mm) (hK4 : ∀ (x1 : Int32) (x2 : Int32) (x3 : Int32) (μ : Mm) (q : Mm), K4 x1 x2 x3 μ = some q → G wM RX9 cX9_places 5 none 2 none q 4 [(0, .ref 0), (1, .int x1), (2, .int x2), (3, .int x3)] [] μ) (x1 : Int32) (x2 : Int32) (x3 : Int32) (μ : Mm) (q : Mm)  (h : F_X9_places_54 K4 x1 x2 x3 μ = some q) : G wM RX9 cX9_places 5 none 2 none q 54 [(0, .ref 0), (1, .int x1), (2, .int x2), (3, .int x3)] [] μ := by
  unfold F_X9_places_54 at h
  refine G_iinc (pc := 54) (1) 3 [(3, .int _), (0, .ref _), (1, .int _), (2, .int _)] dX9_places_54 ci_1 rfl (Nat.le_of_ble_eq_true rfl) rfl ?_
  refine G_goto (pc := 57) 4 dX9_places_57 (by decide) ?_
  refine G_loc [1, 2, 3, 0] [(0, .ref _), (1, .int _), (2, .int _), (3, .int _)] rfl ?_
  exact hK4 _ _ _ _ _ h
def L_X9_places_4 : Nat → Int32 → Int32 → Int32 → Mm → Option Mm
  | 0, _, _, _, _ => none
  | n + 1, x1, x2, x3, μ => if 3 ≤ x3 then gi (3 * x1) 36 (if ((wI μ 0 26 ((μ.1 0 26) ||| x2)).1 22 (3 * x1).toNatClampNeg) = (-1) then F_X9_places_127 x1 (wI μ 0 26 ((μ.1 0 26) ||| x2)) else gi ((wI μ 0 26 ((μ.1 0 26) ||| x2)).1 22 (3 * x1).toNatClampNeg) 10 (gi ((wI μ 0 26 ((μ.1 0 26) ||| x2)).1 22 (3 * x1).toNatClampNeg) 10 (gi (3 * ((wI μ 0 26 ((μ.1 0 26) ||| x2)).1 22 (3 * x1).toNatClampNeg)) 30 (if ((wI (wI μ 0 26 ((μ.1 0 26) ||| x2)) 13 ((wI μ 0 26 ((μ.1 0 26) ||| x2)).1 22 (3 * x1).toNatClampNeg).toNatClampNeg (((wI μ 0 26 ((μ.1 0 26) ||| x2)).1 13 ((wI μ 0 26 ((μ.1 0 26) ||| x2)).1 22 (3 * x1).toNatClampNeg).toNatClampNeg) + 1)).1 7 (3 * ((wI μ 0 26 ((μ.1 0 26) ||| x2)).1 22 (3 * x1).toNatClampNeg)).toNatClampNeg) = 2 then gi ((wI μ 0 26 ((μ.1 0 26) ||| x2)).1 22 (3 * x1).toNatClampNeg) 10 (if ((wI (wI μ 0 26 ((μ.1 0 26) ||| x2)) 13 ((wI μ 0 26 ((μ.1 0 26) ||| x2)).1 22 (3 * x1).toNatClampNeg).toNatClampNeg (((wI μ 0 26 ((μ.1 0 26) ||| x2)).1 13 ((wI μ 0 26 ((μ.1 0 26) ||| x2)).1 22 (3 * x1).toNatClampNeg).toNatClampNeg) + 1)).1 13 ((wI μ 0 26 ((μ.1 0 26) ||| x2)).1 22 (3 * x1).toNatClampNeg).toNatClampNeg) = 3 then F_X9_places_126 x1 1 ((wI μ 0 26 ((μ.1 0 26) ||| x2)).1 22 (3 * x1).toNatClampNeg) (wI (wI μ 0 26 ((μ.1 0 26) ||| x2)) 13 ((wI μ 0 26 ((μ.1 0 26) ||| x2)).1 22 (3 * x1).toNatClampNeg).toNatClampNeg (((wI μ 0 26 ((μ.1 0 26) ||| x2)).1 13 ((wI μ 0 26 ((μ.1 0 26) ||| x2)).1 22 (3 * x1).toNatClampNeg).toNatClampNeg) + 1)) else F_X9_places_125 x1 ((wI μ 0 26 ((μ.1 0 26) ||| x2)).1 22 (3 * x1).toNatClampNeg) (wI (wI μ 0 26 ((μ.1 0 26) ||| x2)) 13 ((wI μ 0 26 ((μ.1 0 26) ||| x2)).1 22 (3 * x1).toNatClampNeg).toNatClampNeg (((wI μ 0 26 ((μ.1 0 26) ||| x2)).1 13 ((wI μ 0 26 ((μ.1 0 26) ||| x2)).1 22 (3 * x1).toNatClampNeg).toNatClampNeg) + 1))) else F_X9_places_125 x1 ((wI μ 0 26 ((μ.1 0 26) ||| x2)).1 22 (3 * x1).toNatClampNeg) (wI (wI μ 0 26 ((μ.1 0 26) ||| x2)) 13 ((wI μ 0 26 ((μ.1 0 26) ||| x2)).1 22 (3 * x1).toNatClampNeg).toNatClampNeg (((wI μ 0 26 ((μ.1 0 26) ||| x2)).1 13 ((wI μ 0 26 ((μ.1 0 26) ||| x2)).1 22 (3 * x1).toNatClampNeg).toNatClampNeg) + 1)))))) else (F_X9_bestBut x2 μ).bind (fun q18 => gi ((3 * x1) + x3) 36 (if q18.1 = (-1) then F_X9_places_54 (L_X9_places_4 n) x1 x2 x3 (wI q18.2 22 ((3 * x1) + x3).toNatClampNeg q18.1) else gi q18.1 10 (gi q18.1 10 (F_X9_places_54 (L_X9_places_4 n) x1 (x2 ||| (1 <<< (q18.1 &&& 31))) x3 (wI (wI q18.2 22 ((3 * x1) + x3).toNatClampNeg q18.1) 12 q18.1.toNatClampNeg (((wI q18.2 22 ((3 * x1) + x3).toNatClampNeg q18.1).1 12 q18.1.toNatClampNeg) + (3 - x3)))))))
set_option maxRecDepth 100000 in
set_option maxHeartbeats 4000000 in
theorem L_X9_places_4_s (n : Nat) (x1 : Int32) (x2 : Int32) (x3 : Int32) (μ : Mm) : L_X9_places_4  (n + 1) x1 x2 x3 μ = (if 3 ≤ x3 then gi (3 * x1) 36 (if ((wI μ 0 26 ((μ.1 0 26) ||| x2)).1 22 (3 * x1).toNatClampNeg) = (-1) then F_X9_places_127 x1 (wI μ 0 26 ((μ.1 0 26) ||| x2)) else gi ((wI μ 0 26 ((μ.1 0 26) ||| x2)).1 22 (3 * x1).toNatClampNeg) 10 (gi ((wI μ 0 26 ((μ.1 0 26) ||| x2)).1 22 (3 * x1).toNatClampNeg) 10 (gi (3 * ((wI μ 0 26 ((μ.1 0 26) ||| x2)).1 22 (3 * x1).toNatClampNeg)) 30 (if ((wI (wI μ 0 26 ((μ.1 0 26) ||| x2)) 13 ((wI μ 0 26 ((μ.1 0 26) ||| x2)).1 22 (3 * x1).toNatClampNeg).toNatClampNeg (((wI μ 0 26 ((μ.1 0 26) ||| x2)).1 13 ((wI μ 0 26 ((μ.1 0 26) ||| x2)).1 22 (3 * x1).toNatClampNeg).toNatClampNeg) + 1)).1 7 (3 * ((wI μ 0 26 ((μ.1 0 26) ||| x2)).1 22 (3 * x1).toNatClampNeg)).toNatClampNeg) = 2 then gi ((wI μ 0 26 ((μ.1 0 26) ||| x2)).1 22 (3 * x1).toNatClampNeg) 10 (if ((wI (wI μ 0 26 ((μ.1 0 26) ||| x2)) 13 ((wI μ 0 26 ((μ.1 0 26) ||| x2)).1 22 (3 * x1).toNatClampNeg).toNatClampNeg (((wI μ 0 26 ((μ.1 0 26) ||| x2)).1 13 ((wI μ 0 26 ((μ.1 0 26) ||| x2)).1 22 (3 * x1).toNatClampNeg).toNatClampNeg) + 1)).1 13 ((wI μ 0 26 ((μ.1 0 26) ||| x2)).1 22 (3 * x1).toNatClampNeg).toNatClampNeg) = 3 then F_X9_places_126 x1 1 ((wI μ 0 26 ((μ.1 0 26) ||| x2)).1 22 (3 * x1).toNatClampNeg) (wI (wI μ 0 26 ((μ.1 0 26) ||| x2)) 13 ((wI μ 0 26 ((μ.1 0 26) ||| x2)).1 22 (3 * x1).toNatClampNeg).toNatClampNeg (((wI μ 0 26 ((μ.1 0 26) ||| x2)).1 13 ((wI μ 0 26 ((μ.1 0 26) ||| x2)).1 22 (3 * x1).toNatClampNeg).toNatClampNeg) + 1)) else F_X9_places_125 x1 ((wI μ 0 26 ((μ.1 0 26) ||| x2)).1 22 (3 * x1).toNatClampNeg) (wI (wI μ 0 26 ((μ.1 0 26) ||| x2)) 13 ((wI μ 0 26 ((μ.1 0 26) ||| x2)).1 22 (3 * x1).toNatClampNeg).toNatClampNeg (((wI μ 0 26 ((μ.1 0 26) ||| x2)).1 13 ((wI μ 0 26 ((μ.1 0 26) ||| x2)).1 22 (3 * x1).toNatClampNeg).toNatClampNeg) + 1))) else F_X9_places_125 x1 ((wI μ 0 26 ((μ.1 0 26) ||| x2)).1 22 (3 * x1).toNatClampNeg) (wI (wI μ 0 26 ((μ.1 0 26) ||| x2)) 13 ((wI μ 0 26 ((μ.1 0 26) ||| x2)).1 22 (3 * x1).toNatClampNeg).toNatClampNeg (((wI μ 0 26 ((μ.1 0 26) ||| x2)).1 13 ((wI μ 0 26 ((μ.1 0 26) ||| x2)).1 22 (3 * x1).toNatClampNeg).toNatClampNeg) + 1)))))) else (F_X9_bestBut x2 μ).bind (fun q18 => gi ((3 * x1) + x3) 36 (if q18.1 = (-1) then F_X9_places_54 (L_X9_places_4 n) x1 x2 x3 (wI q18.2 22 ((3 * x1) + x3).toNatClampNeg q18.1) else gi q18.1 10 (gi q18.1 10 (F_X9_places_54 (L_X9_places_4 n) x1 (x2 ||| (1 <<< (q18.1 &&& 31))) x3 (wI (wI q18.2 22 ((3 * x1) + x3).toNatClampNeg q18.1) 12 q18.1.toNatClampNeg (((wI q18.2 22 ((3 * x1) + x3).toNatClampNeg q18.1).1 12 q18.1.toNatClampNeg) + (3 - x3)))))))) := rfl
set_option maxRecDepth 100000 in
set_option maxHeartbeats 4000000 in
theorem B_X9_places_4 : ∀ (n : Nat) (x1 : Int32) (x2 : Int32) (x3 : Int32) (μ : Mm) (q : Mm), L_X9_places_4  n x1 x2 x3 μ = some q → G wM RX9 cX9_places 5 none 2 none q 4 [(0, .ref 0), (1, .int x1), (2, .int x2), (3, .int x3)] [] μ := by
  intro n
  induction n with
  | zero =>
    intro x1 x2 x3 μ q  h
    cases h
  | succ n ih =>
    intro x1 x2 x3 μ q  h
    rw [L_X9_places_4_s] at h
    refine G_iload_n (pc := 4) 3 dX9_places_4 rfl ?_
    refine G_iconst (pc := 5) (3) dX9_places_5 ci_3 ?_
    refine G_icmp_ge (pc := 6) 60 dX9_places_6 (by decide) (fun c1 => ?_) (fun c1 => ?_)
    · replace h := itp c1 h
      refine G_aload_n (pc := 60) 0 dX9_places_60 rfl ?_
      refine G_dup (pc := 61) dX9_places_61 rfl ?_
      refine gwM_X9_194_0 (pc := 62) dX9_places_62 ?_
      refine G_iload_n (pc := 65) 2 dX9_places_65 rfl ?_
      refine G_ior (pc := 66) dX9_places_66 ?_
      refine pwM_X9_194_0 (pc := 67) dX9_places_67 ?_
      refine G_aload_n (pc := 70) 0 dX9_places_70 rfl ?_
      refine gwM_X9_74_0 (pc := 71) dX9_places_71 ?_
      refine G_iconst (pc := 74) (3) dX9_places_74 ci_3 ?_
      refine G_iload_n (pc := 75) 1 dX9_places_75 rfl ?_
      refine G_imul (pc := 76) dX9_places_76 ?_
      obtain ⟨g2, h⟩ := gi_some h
      refine alwM_22 (pc := 77) dX9_places_77 g2 ?_
      refine G_istore_n (pc := 78) [(3, .int _), (0, .ref _), (1, .int _), (2, .int _)] dX9_places_78 (Nat.le_of_ble_eq_true rfl) rfl ?_
      refine G_iload_n (pc := 79) 0 dX9_places_79 rfl ?_
      refine G_iconst (pc := 80) (-1) dX9_places_80 ci_m1 ?_
      refine G_icmp_eq (pc := 81) 127 dX9_places_81 (by decide) (fun c3 => ?_) (fun c3 => ?_)
      · replace h := itp c3 h
        refine G_loc [1, 2] [(0, .ref _), (1, .int _)] rfl ?_
        exact B_X9_places_127 _ _ _ h
      · replace h := itn c3 h
        refine G_aload_n (pc := 84) 1 dX9_places_84 rfl ?_
        refine gwM_X9_46_0 (pc := 85) dX9_places_85 ?_
        refine G_iload_n (pc := 88) 0 dX9_places_88 rfl ?_
        refine G_dup2 (pc := 89) dX9_places_89 rfl rfl ?_
        obtain ⟨g11, h⟩ := gi_some h
        refine alwM_13 (pc := 90) dX9_places_90 g11 ?_
        refine G_iconst (pc := 91) (1) dX9_places_91 ci_1 ?_
        refine G_iadd (pc := 92) dX9_places_92 ?_
        obtain ⟨g12, h⟩ := gi_some h
        refine aswM_13 (pc := 93) dX9_places_93 g12 ?_
        refine G_aload_n (pc := 94) 1 dX9_places_94 rfl ?_
        refine gwM_X9_49_0 (pc := 95) dX9_places_95 ?_
        refine G_iload_n (pc := 98) 0 dX9_places_98 rfl ?_
        refine G_aload_n (pc := 99) 1 dX9_places_99 rfl ?_
        refine gwM_X9_28_0 (pc := 100) dX9_places_100 ?_
        refine G_iconst (pc := 103) (3) dX9_places_103 ci_3 ?_
        refine G_iload_n (pc := 104) 0 dX9_places_104 rfl ?_
        refine G_imul (pc := 105) dX9_places_105 ?_
        obtain ⟨g13, h⟩ := gi_some h
        refine alwM_7 (pc := 106) dX9_places_106 g13 ?_
        refine G_iconst (pc := 107) (2) dX9_places_107 ci_2 ?_
        refine G_icmp_ne (pc := 108) 125 dX9_places_108 (by decide) (fun c14 => ?_) (fun c14 => ?_)
        · replace h := itn c14 h
          refine G_loc [1, 2] [(0, .ref _), (1, .int _)] rfl ?_
          exact B_X9_places_125 _ _ _ _ h
        · replace h := itp c14 h
          refine G_aload_n (pc := 111) 1 dX9_places_111 rfl ?_
          refine gwM_X9_46_0 (pc := 112) dX9_places_112 ?_
          refine G_iload_n (pc := 115) 0 dX9_places_115 rfl ?_
          obtain ⟨g16, h⟩ := gi_some h
          refine alwM_13 (pc := 116) dX9_places_116 g16 ?_
          refine G_iconst (pc := 117) (3) dX9_places_117 ci_3 ?_
          refine G_icmp_ne (pc := 118) 125 dX9_places_118 (by decide) (fun c17 => ?_) (fun c17 => ?_)
          · replace h := itn c17 h
            refine G_loc [1, 2] [(0, .ref _), (1, .int _)] rfl ?_
            exact B_X9_places_125 _ _ _ _ h
          · replace h := itp c17 h
            refine G_iconst (pc := 121) (1) dX9_places_121 ci_1 ?_
            refine G_goto (pc := 122) 126 dX9_places_122 (by decide) ?_
            refine G_loc [1, 2] [(0, .ref _), (1, .int _)] rfl ?_
            exact B_X9_places_126 _ _ _ _ _ h
    · replace h := itn c1 h
      refine G_aload_n (pc := 9) 0 dX9_places_9 rfl ?_
      refine G_iload_n (pc := 10) 2 dX9_places_10 rfl ?_
      obtain ⟨q18, e18, h⟩ := bnd_some h
      refine G_callV1r (pc := 11) 0 8 dX9_places_11 wv_X9_191 cd_X9_bestBut (S_X9_bestBut _ _ _ e18) (by decide) (by decide) rfl (by decide) (fun _ _ => ⟨_, rfl⟩) (Nat.le_of_ble_eq_true rfl) ?_
      refine G_istore (pc := 14) [(4, .int _), (0, .ref _), (1, .int _), (2, .int _), (3, .int _)] dX9_places_14 (Nat.le_of_ble_eq_true rfl) rfl ?_
      refine G_aload_n (pc := 16) 1 dX9_places_16 rfl ?_
      refine gwM_X9_74_0 (pc := 17) dX9_places_17 ?_
      refine G_iconst (pc := 20) (3) dX9_places_20 ci_3 ?_
      refine G_iload_n (pc := 21) 2 dX9_places_21 rfl ?_
      refine G_imul (pc := 22) dX9_places_22 ?_
      refine G_iload_n (pc := 23) 4 dX9_places_23 rfl ?_
      refine G_iadd (pc := 24) dX9_places_24 ?_
      refine G_iload (pc := 25) 0 dX9_places_25 rfl ?_
      obtain ⟨g19, h⟩ := gi_some h
      refine aswM_22 (pc := 27) dX9_places_27 g19 ?_
      refine G_iload (pc := 28) 0 dX9_places_28 rfl ?_
      refine G_iconst (pc := 30) (-1) dX9_places_30 ci_m1 ?_
      refine G_icmp_eq (pc := 31) 54 dX9_places_31 (by decide) (fun c20 => ?_) (fun c20 => ?_)
      · replace h := itp c20 h
        refine G_loc [1, 2, 3, 4] [(0, .ref _), (1, .int _), (2, .int _), (3, .int _)] rfl ?_
        exact B_X9_places_54 _ ih _ _ _ _ _ h
      · replace h := itn c20 h
        refine G_iload_n (pc := 34) 3 dX9_places_34 rfl ?_
        refine G_iconst (pc := 35) (1) dX9_places_35 ci_1 ?_
        refine G_iload (pc := 36) 0 dX9_places_36 rfl ?_
        refine G_ishl (pc := 38) dX9_places_38 ?_
        refine G_ior (pc := 39) dX9_places_39 ?_
        refine G_istore_n (pc := 40) [(2, .int _), (4, .int _), (0, .ref _), (1, .int _), (3, .int _)] dX9_places_40 (Nat.le_of_ble_eq_true rfl) rfl ?_
        refine G_aload_n (pc := 41) 2 dX9_places_41 rfl ?_
        refine gwM_X9_43_0 (pc := 42) dX9_places_42 ?_
        refine G_iload (pc := 45) 1 dX9_places_45 rfl ?_
        refine G_dup2 (pc := 47) dX9_places_47 rfl rfl ?_
        obtain ⟨g21, h⟩ := gi_some h
        refine alwM_12 (pc := 48) dX9_places_48 g21 ?_
        refine G_iconst (pc := 49) (3) dX9_places_49 ci_3 ?_
        refine G_iload_n (pc := 50) 4 dX9_places_50 rfl ?_
        refine G_isub (pc := 51) dX9_places_51 ?_
        refine G_iadd (pc := 52) dX9_places_52 ?_
        obtain ⟨g22, h⟩ := gi_some h
        refine aswM_12 (pc := 53) dX9_places_53 g22 ?_
        refine G_loc [2, 3, 0, 4] [(0, .ref _), (1, .int _), (2, .int _), (3, .int _)] rfl ?_
        exact B_X9_places_54 _ ih _ _ _ _ _ h
def F_X9_places (x1 : Int32) (μ : Mm) : Option Mm := L_X9_places_4 FUEL x1 0 0 μ
set_option maxRecDepth 100000 in
set_option maxHeartbeats 4000000 in
theorem S_X9_places (x1 : Int32)  (μ : Mm) (q : Mm) (h : F_X9_places x1 μ = some q) : Cn wM yX9_places cX9_places 5 none 2 [.ref 0, .int x1] μ none q := by
  refine Cn_of (by decide +kernel) (Nat.le_of_ble_eq_true rfl) ?_
  show G wM RX9 cX9_places 5 none 2 none q 0 [(0, .ref 0), (1, .int x1)] [] μ
  unfold F_X9_places at h
  refine G_iconst (pc := 0) (0) dX9_places_0 ci_0 ?_
  refine G_istore_n (pc := 1) [(2, .int _), (0, .ref _), (1, .int _)] dX9_places_1 (Nat.le_of_ble_eq_true rfl) rfl ?_
  refine G_iconst (pc := 2) (0) dX9_places_2 ci_0 ?_
  refine G_istore_n (pc := 3) [(3, .int _), (2, .int _), (0, .ref _), (1, .int _)] dX9_places_3 (Nat.le_of_ble_eq_true rfl) rfl ?_
  refine G_loc [2, 3, 1, 0] [(0, .ref _), (1, .int _), (2, .int _), (3, .int _)] rfl ?_
  exact B_X9_places_4 _ _ _ _ _ _ h
def F_X9_lesser (x0 : Int32) (x1 : Int32) (μ : Mm) : Option (Int32 × Mm) := some ((if x1 ≤ x0 then x1 else x0), μ)
set_option maxRecDepth 100000 in
set_option maxHeartbeats 4000000 in
theorem S_X9_lesser (x0 : Int32) (x1 : Int32)  (μ : Mm) (q : (Int32 × Mm)) (h : F_X9_lesser x0 x1 μ = some q) : Cn wM yX9_lesser cX9_lesser 2 (some .int) 0 [.int x0, .int x1] μ (some (.int q.1)) q.2 := by
  refine Cn_of (by decide +kernel) (Nat.le_of_ble_eq_true rfl) ?_
  show G wM RX9 cX9_lesser 2 (some .int) 0 (some (.int q.1)) q.2 0 [(0, .int x0), (1, .int x1)] [] μ
  unfold F_X9_lesser at h
  refine G_iload_n (pc := 0) 0 dX9_lesser_0 rfl ?_
  refine G_iload_n (pc := 1) 1 dX9_lesser_1 rfl ?_
  refine G_icmp_ge (pc := 2) 9 dX9_lesser_2 (by decide) (fun c1 => ?_) (fun c1 => ?_)
  · rw [if_pos c1] at h
    refine G_iload_n (pc := 9) 1 dX9_lesser_9 rfl ?_
    obtain rfl := Option.some.inj h
    exact G_iret (pc := 10) rfl dX9_lesser_10
  · rw [if_neg c1] at h
    refine G_iload_n (pc := 5) 0 dX9_lesser_5 rfl ?_
    refine G_goto (pc := 6) 10 dX9_lesser_6 (by decide) ?_
    obtain rfl := Option.some.inj h
    exact G_iret (pc := 10) rfl dX9_lesser_10
def L_X9_happens_48 : Nat → Int32 → Mm → Option Mm
  | 0, _, _ => none
  | n + 1, x3, μ => if 10 ≤ x3 then some μ else gi x3 10 ((F_X9_greater ((μ.1 12 x3.toNatClampNeg) - 1) 0 μ).bind (fun q5 => gi x3 10 (L_X9_happens_48 n (x3 + 1) (wI q5.2 12 x3.toNatClampNeg q5.1))))
set_option maxRecDepth 100000 in
set_option maxHeartbeats 4000000 in
theorem L_X9_happens_48_s (n : Nat) (x3 : Int32) (μ : Mm) : L_X9_happens_48  (n + 1) x3 μ = (if 10 ≤ x3 then some μ else gi x3 10 ((F_X9_greater ((μ.1 12 x3.toNatClampNeg) - 1) 0 μ).bind (fun q5 => gi x3 10 (L_X9_happens_48 n (x3 + 1) (wI q5.2 12 x3.toNatClampNeg q5.1))))) := rfl
set_option maxRecDepth 100000 in
set_option maxHeartbeats 4000000 in
theorem B_X9_happens_48 : ∀ (n : Nat) (x3 : Int32) (μ : Mm) (q : Mm), L_X9_happens_48  n x3 μ = some q → G wM RX9 cX9_happens 4 none 1 none q 48 [(0, .ref 0), (3, .int x3)] [] μ := by
  intro n
  induction n with
  | zero =>
    intro x3 μ q  h
    cases h
  | succ n ih =>
    intro x3 μ q  h
    rw [L_X9_happens_48_s] at h
    refine G_iload_n (pc := 48) 1 dX9_happens_48 rfl ?_
    refine G_bipush (pc := 49) (10) dX9_happens_49 bp_10 ?_
    refine G_icmp_ge (pc := 51) 78 dX9_happens_51 (by decide) (fun c3 => ?_) (fun c3 => ?_)
    · replace h := itp c3 h
      obtain rfl := Option.some.inj h
      exact G_vret (pc := 78) rfl dX9_happens_78
    · replace h := itn c3 h
      refine G_aload_n (pc := 54) 0 dX9_happens_54 rfl ?_
      refine gwM_X9_43_0 (pc := 55) dX9_happens_55 ?_
      refine G_iload_n (pc := 58) 1 dX9_happens_58 rfl ?_
      refine G_aload_n (pc := 59) 0 dX9_happens_59 rfl ?_
      refine gwM_X9_43_0 (pc := 60) dX9_happens_60 ?_
      refine G_iload_n (pc := 63) 1 dX9_happens_63 rfl ?_
      obtain ⟨g4, h⟩ := gi_some h
      refine alwM_12 (pc := 64) dX9_happens_64 g4 ?_
      refine G_iconst (pc := 65) (1) dX9_happens_65 ci_1 ?_
      refine G_isub (pc := 66) dX9_happens_66 ?_
      refine G_iconst (pc := 67) (0) dX9_happens_67 ci_0 ?_
      obtain ⟨q5, e5, h⟩ := bnd_some h
      refine G_callS2r (pc := 68) dX9_happens_68 ws_X9_181 cd_X9_greater (S_X9_greater _ _ _ _ e5) (by decide) (by decide) (Nat.le_of_ble_eq_true rfl) ?_
      obtain ⟨g6, h⟩ := gi_some h
      refine aswM_12 (pc := 71) dX9_happens_71 g6 ?_
      refine G_iinc (pc := 72) (1) 1 [(3, .int _), (0, .ref _)] dX9_happens_72 ci_1 rfl (Nat.le_of_ble_eq_true rfl) rfl ?_
      refine G_goto (pc := 75) 48 dX9_happens_75 (by decide) ?_
      refine G_loc [1, 0] [(0, .ref _), (3, .int _)] rfl ?_
      exact ih _ _ _ h
def F_X9_happens (x1 : Int32) (x2 : Int32) (μ : Mm) : Option Mm := if x1 = 0 then gi x2 10 ((F_X9_lesser ((μ.1 11 x2.toNatClampNeg) + 2) 9 μ).bind (fun q9 => gi x2 10 (some (wI q9.2 11 x2.toNatClampNeg q9.1)))) else if x1 = 1 then gi x2 10 (some (wI μ 16 x2.toNatClampNeg 1)) else L_X9_happens_48 FUEL 0 (wI μ 0 25 1)
set_option maxRecDepth 100000 in
set_option maxHeartbeats 4000000 in
theorem S_X9_happens (x1 : Int32) (x2 : Int32)  (μ : Mm) (q : Mm) (h : F_X9_happens x1 x2 μ = some q) : Cn wM yX9_happens cX9_happens 4 none 1 [.ref 0, .int x1, .int x2] μ none q := by
  refine Cn_of (by decide +kernel) (Nat.le_of_ble_eq_true rfl) ?_
  show G wM RX9 cX9_happens 4 none 1 none q 0 [(0, .ref 0), (1, .int x1), (2, .int x2)] [] μ
  unfold F_X9_happens at h
  refine G_iload_n (pc := 0) 1 dX9_happens_0 rfl ?_
  refine G_if_ne (pc := 1) 26 dX9_happens_1 (by decide) (fun c1 => ?_) (fun c1 => ?_)
  · replace h := itn c1 h
    refine G_iload_n (pc := 26) 1 dX9_happens_26 rfl ?_
    refine G_iconst (pc := 27) (1) dX9_happens_27 ci_1 ?_
    refine G_icmp_ne (pc := 28) 41 dX9_happens_28 (by decide) (fun c2 => ?_) (fun c2 => ?_)
    · replace h := itn c2 h
      refine G_aload_n (pc := 41) 0 dX9_happens_41 rfl ?_
      refine G_iconst (pc := 42) (1) dX9_happens_42 ci_1 ?_
      refine pwM_X9_177_0 (pc := 43) dX9_happens_43 (Or.inr rfl) ?_
      refine G_iconst (pc := 46) (0) dX9_happens_46 ci_0 ?_
      refine G_istore_n (pc := 47) [(3, .int _), (0, .ref _), (1, .int _), (2, .int _)] dX9_happens_47 (Nat.le_of_ble_eq_true rfl) rfl ?_
      refine G_loc [1, 0] [(0, .ref _), (3, .int _)] rfl ?_
      exact B_X9_happens_48 _ _ _ _ h
    · replace h := itp c2 h
      refine G_aload_n (pc := 31) 0 dX9_happens_31 rfl ?_
      refine gwM_X9_56_0 (pc := 32) dX9_happens_32 ?_
      refine G_iload_n (pc := 35) 2 dX9_happens_35 rfl ?_
      refine G_iconst (pc := 36) (1) dX9_happens_36 ci_1 ?_
      obtain ⟨g7, h⟩ := gi_some h
      refine aswM_16 (pc := 37) dX9_happens_37 g7 (Or.inr rfl) ?_
      refine G_goto (pc := 38) 78 dX9_happens_38 (by decide) ?_
      obtain rfl := Option.some.inj h
      exact G_vret (pc := 78) rfl dX9_happens_78
  · replace h := itp c1 h
    refine G_aload_n (pc := 4) 0 dX9_happens_4 rfl ?_
    refine gwM_X9_40_0 (pc := 5) dX9_happens_5 ?_
    refine G_iload_n (pc := 8) 2 dX9_happens_8 rfl ?_
    refine G_aload_n (pc := 9) 0 dX9_happens_9 rfl ?_
    refine gwM_X9_40_0 (pc := 10) dX9_happens_10 ?_
    refine G_iload_n (pc := 13) 2 dX9_happens_13 rfl ?_
    obtain ⟨g8, h⟩ := gi_some h
    refine alwM_11 (pc := 14) dX9_happens_14 g8 ?_
    refine G_iconst (pc := 15) (2) dX9_happens_15 ci_2 ?_
    refine G_iadd (pc := 16) dX9_happens_16 ?_
    refine G_bipush (pc := 17) (9) dX9_happens_17 bp_9 ?_
    obtain ⟨q9, e9, h⟩ := bnd_some h
    refine G_callS2r (pc := 19) dX9_happens_19 ws_X9_174 cd_X9_lesser (S_X9_lesser _ _ _ _ e9) (by decide) (by decide) (Nat.le_of_ble_eq_true rfl) ?_
    obtain ⟨g10, h⟩ := gi_some h
    refine aswM_11 (pc := 22) dX9_happens_22 g10 ?_
    refine G_goto (pc := 23) 78 dX9_happens_23 (by decide) ?_
    obtain rfl := Option.some.inj h
    exact G_vret (pc := 78) rfl dX9_happens_78
def F_X9_passes_199 (K118 : Int32 → Int32 → Mm → Option Mm) (x1 : Int32) (x2 : Int32) (y0 : Int32) (y1 : Int32) (μ : Mm) : Option Mm := gi y1 120 (gi x2 10 (gi ((10 * x1) + x2) 120 (K118 x1 (x2 + 1) (wI (wI μ 20 y1.toNatClampNeg y0) 21 ((10 * x1) + x2).toNatClampNeg ((wI μ 20 y1.toNatClampNeg y0).1 15 x2.toNatClampNeg)))))
set_option maxRecDepth 100000 in
set_option maxHeartbeats 4000000 in
theorem B_X9_passes_199 (K118 : Int32 → Int32 → Mm → Option Mm) (hK118 : ∀ (x1 : Int32) (x2 : Int32) (μ : Mm) (q : Mm), K118 x1 x2 μ = some q → G wM RX9 cX9_passes 3 none 3 none q 118 [(0, .ref 0), (1, .int x1), (2, .int x2)] [] μ) (x1 : Int32) (x2 : Int32) (y0 : Int32) (y1 : Int32) (μ : Mm) (q : Mm)  (h : F_X9_passes_199 K118 x1 x2 y0 y1 μ = some q) : G wM RX9 cX9_passes 3 none 3 none q 199 [(0, .ref 0), (1, .int x1), (2, .int x2)] [.int y0, .int y1, .ref 20] μ := by
  unfold F_X9_passes_199 at h
  obtain ⟨g15, h⟩ := gi_some h
  refine aswM_20 (pc := 199) dX9_passes_199 g15 ?_
  refine G_aload_n (pc := 200) 0 dX9_passes_200 rfl ?_
  refine gwM_X9_71_0 (pc := 201) dX9_passes_201 ?_
  refine G_bipush (pc := 204) (10) dX9_passes_204 bp_10 ?_
  refine G_iload_n (pc := 206) 1 dX9_passes_206 rfl ?_
  refine G_imul (pc := 207) dX9_passes_207 ?_
  refine G_iload_n (pc := 208) 2 dX9_passes_208 rfl ?_
  refine G_iadd (pc := 209) dX9_passes_209 ?_
  refine G_aload_n (pc := 210) 0 dX9_passes_210 rfl ?_
  refine gwM_X9_53_0 (pc := 211) dX9_passes_211 ?_
  refine G_iload_n (pc := 214) 2 dX9_passes_214 rfl ?_
  obtain ⟨g16, h⟩ := gi_some h
  refine alwM_15 (pc := 215) dX9_passes_215 g16 ?_
  obtain ⟨g17, h⟩ := gi_some h
  refine aswM_21 (pc := 216) dX9_passes_216 g17 ?_
  refine G_iinc (pc := 217) (1) 2 [(2, .int _), (0, .ref _), (1, .int _)] dX9_passes_217 ci_1 rfl (Nat.le_of_ble_eq_true rfl) rfl ?_
  refine G_goto (pc := 220) 118 dX9_passes_220 (by decide) ?_
  refine G_loc [1, 2, 0] [(0, .ref _), (1, .int _), (2, .int _)] rfl ?_
  exact hK118 _ _ _ _ h
def L_X9_passes_118 : Nat → Int32 → Int32 → Mm → Option Mm
  | 0, _, _, _ => none
  | n + 1, x1, x2, μ => if 10 ≤ x2 then some μ else gi x2 10 (gi ((10 * x1) + x2) 120 (gi x2 10 (gi ((10 * x1) + x2) 120 (gi x2 10 (gi ((10 * x1) + x2) 120 (gi x2 10 (F_X9_passes_199 (L_X9_passes_118 n) x1 x2 (if ((wI (wI (wI μ 17 ((10 * x1) + x2).toNatClampNeg (μ.1 11 x2.toNatClampNeg)) 18 ((10 * x1) + x2).toNatClampNeg ((wI μ 17 ((10 * x1) + x2).toNatClampNeg (μ.1 11 x2.toNatClampNeg)).1 12 x2.toNatClampNeg)) 19 ((10 * x1) + x2).toNatClampNeg ((wI (wI μ 17 ((10 * x1) + x2).toNatClampNeg (μ.1 11 x2.toNatClampNeg)) 18 ((10 * x1) + x2).toNatClampNeg ((wI μ 17 ((10 * x1) + x2).toNatClampNeg (μ.1 11 x2.toNatClampNeg)).1 12 x2.toNatClampNeg)).1 13 x2.toNatClampNeg)).1 14 x2.toNatClampNeg) = 0 then 0 else 1) ((10 * x1) + x2) (wI (wI (wI μ 17 ((10 * x1) + x2).toNatClampNeg (μ.1 11 x2.toNatClampNeg)) 18 ((10 * x1) + x2).toNatClampNeg ((wI μ 17 ((10 * x1) + x2).toNatClampNeg (μ.1 11 x2.toNatClampNeg)).1 12 x2.toNatClampNeg)) 19 ((10 * x1) + x2).toNatClampNeg ((wI (wI μ 17 ((10 * x1) + x2).toNatClampNeg (μ.1 11 x2.toNatClampNeg)) 18 ((10 * x1) + x2).toNatClampNeg ((wI μ 17 ((10 * x1) + x2).toNatClampNeg (μ.1 11 x2.toNatClampNeg)).1 12 x2.toNatClampNeg)).1 13 x2.toNatClampNeg)))))))))
set_option maxRecDepth 100000 in
set_option maxHeartbeats 4000000 in
theorem L_X9_passes_118_s (n : Nat) (x1 : Int32) (x2 : Int32) (μ : Mm) : L_X9_passes_118  (n + 1) x1 x2 μ = (if 10 ≤ x2 then some μ else gi x2 10 (gi ((10 * x1) + x2) 120 (gi x2 10 (gi ((10 * x1) + x2) 120 (gi x2 10 (gi ((10 * x1) + x2) 120 (gi x2 10 (F_X9_passes_199 (L_X9_passes_118 n) x1 x2 (if ((wI (wI (wI μ 17 ((10 * x1) + x2).toNatClampNeg (μ.1 11 x2.toNatClampNeg)) 18 ((10 * x1) + x2).toNatClampNeg ((wI μ 17 ((10 * x1) + x2).toNatClampNeg (μ.1 11 x2.toNatClampNeg)).1 12 x2.toNatClampNeg)) 19 ((10 * x1) + x2).toNatClampNeg ((wI (wI μ 17 ((10 * x1) + x2).toNatClampNeg (μ.1 11 x2.toNatClampNeg)) 18 ((10 * x1) + x2).toNatClampNeg ((wI μ 17 ((10 * x1) + x2).toNatClampNeg (μ.1 11 x2.toNatClampNeg)).1 12 x2.toNatClampNeg)).1 13 x2.toNatClampNeg)).1 14 x2.toNatClampNeg) = 0 then 0 else 1) ((10 * x1) + x2) (wI (wI (wI μ 17 ((10 * x1) + x2).toNatClampNeg (μ.1 11 x2.toNatClampNeg)) 18 ((10 * x1) + x2).toNatClampNeg ((wI μ 17 ((10 * x1) + x2).toNatClampNeg (μ.1 11 x2.toNatClampNeg)).1 12 x2.toNatClampNeg)) 19 ((10 * x1) + x2).toNatClampNeg ((wI (wI μ 17 ((10 * x1) + x2).toNatClampNeg (μ.1 11 x2.toNatClampNeg)) 18 ((10 * x1) + x2).toNatClampNeg ((wI μ 17 ((10 * x1) + x2).toNatClampNeg (μ.1 11 x2.toNatClampNeg)).1 12 x2.toNatClampNeg)).1 13 x2.toNatClampNeg)))))))))) := rfl
set_option maxRecDepth 100000 in
set_option maxHeartbeats 4000000 in
theorem B_X9_passes_118 : ∀ (n : Nat) (x1 : Int32) (x2 : Int32) (μ : Mm) (q : Mm), L_X9_passes_118  n x1 x2 μ = some q → G wM RX9 cX9_passes 3 none 3 none q 118 [(0, .ref 0), (1, .int x1), (2, .int x2)] [] μ := by
  intro n
  induction n with
  | zero =>
    intro x1 x2 μ q  h
    cases h
  | succ n ih =>
    intro x1 x2 μ q  h
    rw [L_X9_passes_118_s] at h
    refine G_iload_n (pc := 118) 2 dX9_passes_118 rfl ?_
    refine G_bipush (pc := 119) (10) dX9_passes_119 bp_10 ?_
    refine G_icmp_ge (pc := 121) 223 dX9_passes_121 (by decide) (fun c6 => ?_) (fun c6 => ?_)
    · replace h := itp c6 h
      obtain rfl := Option.some.inj h
      exact G_vret (pc := 223) rfl dX9_passes_223
    · replace h := itn c6 h
      refine G_aload_n (pc := 124) 0 dX9_passes_124 rfl ?_
      refine gwM_X9_59_0 (pc := 125) dX9_passes_125 ?_
      refine G_bipush (pc := 128) (10) dX9_passes_128 bp_10 ?_
      refine G_iload_n (pc := 130) 1 dX9_passes_130 rfl ?_
      refine G_imul (pc := 131) dX9_passes_131 ?_
      refine G_iload_n (pc := 132) 2 dX9_passes_132 rfl ?_
      refine G_iadd (pc := 133) dX9_passes_133 ?_
      refine G_aload_n (pc := 134) 0 dX9_passes_134 rfl ?_
      refine gwM_X9_40_0 (pc := 135) dX9_passes_135 ?_
      refine G_iload_n (pc := 138) 2 dX9_passes_138 rfl ?_
      obtain ⟨g7, h⟩ := gi_some h
      refine alwM_11 (pc := 139) dX9_passes_139 g7 ?_
      obtain ⟨g8, h⟩ := gi_some h
      refine aswM_17 (pc := 140) dX9_passes_140 g8 ?_
      refine G_aload_n (pc := 141) 0 dX9_passes_141 rfl ?_
      refine gwM_X9_62_0 (pc := 142) dX9_passes_142 ?_
      refine G_bipush (pc := 145) (10) dX9_passes_145 bp_10 ?_
      refine G_iload_n (pc := 147) 1 dX9_passes_147 rfl ?_
      refine G_imul (pc := 148) dX9_passes_148 ?_
      refine G_iload_n (pc := 149) 2 dX9_passes_149 rfl ?_
      refine G_iadd (pc := 150) dX9_passes_150 ?_
      refine G_aload_n (pc := 151) 0 dX9_passes_151 rfl ?_
      refine gwM_X9_43_0 (pc := 152) dX9_passes_152 ?_
      refine G_iload_n (pc := 155) 2 dX9_passes_155 rfl ?_
      obtain ⟨g9, h⟩ := gi_some h
      refine alwM_12 (pc := 156) dX9_passes_156 g9 ?_
      obtain ⟨g10, h⟩ := gi_some h
      refine aswM_18 (pc := 157) dX9_passes_157 g10 ?_
      refine G_aload_n (pc := 158) 0 dX9_passes_158 rfl ?_
      refine gwM_X9_65_0 (pc := 159) dX9_passes_159 ?_
      refine G_bipush (pc := 162) (10) dX9_passes_162 bp_10 ?_
      refine G_iload_n (pc := 164) 1 dX9_passes_164 rfl ?_
      refine G_imul (pc := 165) dX9_passes_165 ?_
      refine G_iload_n (pc := 166) 2 dX9_passes_166 rfl ?_
      refine G_iadd (pc := 167) dX9_passes_167 ?_
      refine G_aload_n (pc := 168) 0 dX9_passes_168 rfl ?_
      refine gwM_X9_46_0 (pc := 169) dX9_passes_169 ?_
      refine G_iload_n (pc := 172) 2 dX9_passes_172 rfl ?_
      obtain ⟨g11, h⟩ := gi_some h
      refine alwM_13 (pc := 173) dX9_passes_173 g11 ?_
      obtain ⟨g12, h⟩ := gi_some h
      refine aswM_19 (pc := 174) dX9_passes_174 g12 ?_
      refine G_aload_n (pc := 175) 0 dX9_passes_175 rfl ?_
      refine gwM_X9_68_0 (pc := 176) dX9_passes_176 ?_
      refine G_bipush (pc := 179) (10) dX9_passes_179 bp_10 ?_
      refine G_iload_n (pc := 181) 1 dX9_passes_181 rfl ?_
      refine G_imul (pc := 182) dX9_passes_182 ?_
      refine G_iload_n (pc := 183) 2 dX9_passes_183 rfl ?_
      refine G_iadd (pc := 184) dX9_passes_184 ?_
      refine G_aload_n (pc := 185) 0 dX9_passes_185 rfl ?_
      refine gwM_X9_49_0 (pc := 186) dX9_passes_186 ?_
      refine G_iload_n (pc := 189) 2 dX9_passes_189 rfl ?_
      obtain ⟨g13, h⟩ := gi_some h
      refine alwM_14 (pc := 190) dX9_passes_190 g13 ?_
      refine G_if_eq (pc := 191) 198 dX9_passes_191 (by decide) (fun c14 => ?_) (fun c14 => ?_)
      · rw [if_pos c14] at h
        refine G_iconst (pc := 198) (0) dX9_passes_198 ci_0 ?_
        exact B_X9_passes_199 _ ih _ _ _ _ _ _ h
      · rw [if_neg c14] at h
        refine G_iconst (pc := 194) (1) dX9_passes_194 ci_1 ?_
        refine G_goto (pc := 195) 199 dX9_passes_195 (by decide) ?_
        exact B_X9_passes_199 _ ih _ _ _ _ _ _ h
def F_X9_passes_106 (x1 : Int32) (μ : Mm) : Option Mm := (F_X9_scores x1 μ).bind (fun q4 => (F_X9_places x1 q4).bind (fun q5 => L_X9_passes_118 FUEL x1 0 q5))
set_option maxRecDepth 100000 in
set_option maxHeartbeats 4000000 in
theorem B_X9_passes_106 (x1 : Int32) (μ : Mm) (q : Mm)  (h : F_X9_passes_106  x1 μ = some q) : G wM RX9 cX9_passes 3 none 3 none q 106 [(0, .ref 0), (1, .int x1)] [] μ := by
  unfold F_X9_passes_106 at h
  refine G_aload_n (pc := 106) 0 dX9_passes_106 rfl ?_
  refine G_iload_n (pc := 107) 1 dX9_passes_107 rfl ?_
  obtain ⟨q4, e4, h⟩ := bnd_some h
  refine G_callV1v (pc := 108) 0 8 dX9_passes_108 wv_X9_207 cd_X9_scores (S_X9_scores _ _ _ e4) (by decide) (by decide) rfl (by decide) (fun _ _ => ⟨_, rfl⟩) (Nat.le_of_ble_eq_true rfl) ?_
  refine G_aload_n (pc := 111) 0 dX9_passes_111 rfl ?_
  refine G_iload_n (pc := 112) 1 dX9_passes_112 rfl ?_
  obtain ⟨q5, e5, h⟩ := bnd_some h
  refine G_callV1v (pc := 113) 0 8 dX9_passes_113 wv_X9_211 cd_X9_places (S_X9_places _ _ _ e5) (by decide) (by decide) rfl (by decide) (fun _ _ => ⟨_, rfl⟩) (Nat.le_of_ble_eq_true rfl) ?_
  refine G_iconst (pc := 116) (0) dX9_passes_116 ci_0 ?_
  refine G_istore_n (pc := 117) [(2, .int _), (0, .ref _), (1, .int _)] dX9_passes_117 (Nat.le_of_ble_eq_true rfl) rfl ?_
  refine G_loc [1, 2, 0] [(0, .ref _), (1, .int _), (2, .int _)] rfl ?_
  exact B_X9_passes_118 _ _ _ _ _ h
def F_X9_passes_83 (K28 : Int32 → Int32 → Mm → Option Mm) (x1 : Int32) (x2 : Int32) (μ : Mm) : Option Mm := K28 x1 (x2 + 1) μ
set_option maxRecDepth 100000 in
set_option maxHeartbeats 4000000 in
theorem B_X9_passes_83 (K28 : Int32 → Int32 → Mm → Option Mm) (hK28 : ∀ (x1 : Int32) (x2 : Int32) (μ : Mm) (q : Mm), K28 x1 x2 μ = some q → G wM RX9 cX9_passes 3 none 3 none q 28 [(0, .ref 0), (1, .int x1), (2, .int x2)] [] μ) (x1 : Int32) (x2 : Int32) (μ : Mm) (q : Mm)  (h : F_X9_passes_83 K28 x1 x2 μ = some q) : G wM RX9 cX9_passes 3 none 3 none q 83 [(0, .ref 0), (1, .int x1), (2, .int x2)] [] μ := by
  unfold F_X9_passes_83 at h
  refine G_iinc (pc := 83) (1) 2 [(2, .int _), (0, .ref _), (1, .int _)] dX9_passes_83 ci_1 rfl (Nat.le_of_ble_eq_true rfl) rfl ?_
  refine G_goto (pc := 86) 28 dX9_passes_86 (by decide) ?_
  refine G_loc [1, 2, 0] [(0, .ref _), (1, .int _), (2, .int _)] rfl ?_
  exact hK28 _ _ _ _ h
def L_X9_passes_28 : Nat → Int32 → Int32 → Mm → Option Mm
  | 0, _, _, _ => none
  | n + 1, x1, x2, μ => if (μ.1 0 13) ≤ x2 then if (μ.1 0 16) = x1 then (F_X9_happens 0 (μ.1 0 17) μ).bind (fun q18 => F_X9_passes_106 x1 q18) else F_X9_passes_106 x1 μ else gi ((3 * x2) + 1) 24 (if (μ.1 10 ((3 * x2) + 1).toNatClampNeg) = x1 then (F_X9_isIn (μ.1 0 15) x2 μ).bind (fun q21 => if q21.1 = 0 then gi (3 * x2) 24 (gi ((3 * x2) + 2) 24 ((F_X9_happens (q21.2.1 10 (3 * x2).toNatClampNeg) (q21.2.1 10 ((3 * x2) + 2).toNatClampNeg) q21.2).bind (fun q25 => F_X9_passes_83 (L_X9_passes_28 n) x1 x2 q25))) else F_X9_passes_83 (L_X9_passes_28 n) x1 x2 q21.2) else F_X9_passes_83 (L_X9_passes_28 n) x1 x2 μ)
set_option maxRecDepth 100000 in
set_option maxHeartbeats 4000000 in
theorem L_X9_passes_28_s (n : Nat) (x1 : Int32) (x2 : Int32) (μ : Mm) : L_X9_passes_28  (n + 1) x1 x2 μ = (if (μ.1 0 13) ≤ x2 then if (μ.1 0 16) = x1 then (F_X9_happens 0 (μ.1 0 17) μ).bind (fun q18 => F_X9_passes_106 x1 q18) else F_X9_passes_106 x1 μ else gi ((3 * x2) + 1) 24 (if (μ.1 10 ((3 * x2) + 1).toNatClampNeg) = x1 then (F_X9_isIn (μ.1 0 15) x2 μ).bind (fun q21 => if q21.1 = 0 then gi (3 * x2) 24 (gi ((3 * x2) + 2) 24 ((F_X9_happens (q21.2.1 10 (3 * x2).toNatClampNeg) (q21.2.1 10 ((3 * x2) + 2).toNatClampNeg) q21.2).bind (fun q25 => F_X9_passes_83 (L_X9_passes_28 n) x1 x2 q25))) else F_X9_passes_83 (L_X9_passes_28 n) x1 x2 q21.2) else F_X9_passes_83 (L_X9_passes_28 n) x1 x2 μ)) := rfl
set_option maxRecDepth 100000 in
set_option maxHeartbeats 4000000 in
theorem B_X9_passes_28 : ∀ (n : Nat) (x1 : Int32) (x2 : Int32) (μ : Mm) (q : Mm), L_X9_passes_28  n x1 x2 μ = some q → G wM RX9 cX9_passes 3 none 3 none q 28 [(0, .ref 0), (1, .int x1), (2, .int x2)] [] μ := by
  intro n
  induction n with
  | zero =>
    intro x1 x2 μ q  h
    cases h
  | succ n ih =>
    intro x1 x2 μ q  h
    rw [L_X9_passes_28_s] at h
    refine G_iload_n (pc := 28) 2 dX9_passes_28 rfl ?_
    refine G_aload_n (pc := 29) 0 dX9_passes_29 rfl ?_
    refine gwM_X9_169_0 (pc := 30) dX9_passes_30 ?_
    refine G_icmp_ge (pc := 33) 89 dX9_passes_33 (by decide) (fun c2 => ?_) (fun c2 => ?_)
    · replace h := itp c2 h
      refine G_aload_n (pc := 89) 0 dX9_passes_89 rfl ?_
      refine gwM_X9_83_0 (pc := 90) dX9_passes_90 ?_
      refine G_iload_n (pc := 93) 1 dX9_passes_93 rfl ?_
      refine G_icmp_ne (pc := 94) 106 dX9_passes_94 (by decide) (fun c3 => ?_) (fun c3 => ?_)
      · replace h := itn c3 h
        refine G_loc [0, 1] [(0, .ref _), (1, .int _)] rfl ?_
        exact B_X9_passes_106 _ _ _ h
      · replace h := itp c3 h
        refine G_aload_n (pc := 97) 0 dX9_passes_97 rfl ?_
        refine G_iconst (pc := 98) (0) dX9_passes_98 ci_0 ?_
        refine G_aload_n (pc := 99) 0 dX9_passes_99 rfl ?_
        refine gwM_X9_204_0 (pc := 100) dX9_passes_100 ?_
        obtain ⟨q18, e18, h⟩ := bnd_some h
        refine G_callV2v (pc := 103) 0 8 dX9_passes_103 wv_X9_200 cd_X9_happens (S_X9_happens _ _ _ _ e18) (by decide) (by decide) rfl (by decide) (fun _ _ => ⟨_, rfl⟩) (Nat.le_of_ble_eq_true rfl) ?_
        refine G_loc [0, 1] [(0, .ref _), (1, .int _)] rfl ?_
        exact B_X9_passes_106 _ _ _ h
    · replace h := itn c2 h
      refine G_aload_n (pc := 36) 0 dX9_passes_36 rfl ?_
      refine gwM_X9_37_0 (pc := 37) dX9_passes_37 ?_
      refine G_iconst (pc := 40) (3) dX9_passes_40 ci_3 ?_
      refine G_iload_n (pc := 41) 2 dX9_passes_41 rfl ?_
      refine G_imul (pc := 42) dX9_passes_42 ?_
      refine G_iconst (pc := 43) (1) dX9_passes_43 ci_1 ?_
      refine G_iadd (pc := 44) dX9_passes_44 ?_
      obtain ⟨g19, h⟩ := gi_some h
      refine alwM_10 (pc := 45) dX9_passes_45 g19 ?_
      refine G_iload_n (pc := 46) 1 dX9_passes_46 rfl ?_
      refine G_icmp_ne (pc := 47) 83 dX9_passes_47 (by decide) (fun c20 => ?_) (fun c20 => ?_)
      · replace h := itn c20 h
        exact B_X9_passes_83 _ ih _ _ _ _ h
      · replace h := itp c20 h
        refine G_aload_n (pc := 50) 0 dX9_passes_50 rfl ?_
        refine gwM_X9_197_0 (pc := 51) dX9_passes_51 ?_
        refine G_iload_n (pc := 54) 2 dX9_passes_54 rfl ?_
        obtain ⟨q21, e21, h⟩ := bnd_some h
        refine G_callS2r (pc := 55) dX9_passes_55 ws_X9_187 cd_X9_isIn (S_X9_isIn _ _ _ _ e21) (by decide) (by decide) (Nat.le_of_ble_eq_true rfl) ?_
        refine G_if_ne (pc := 58) 83 dX9_passes_58 (by decide) (fun c22 => ?_) (fun c22 => ?_)
        · replace h := itn c22 h
          exact B_X9_passes_83 _ ih _ _ _ _ h
        · replace h := itp c22 h
          refine G_aload_n (pc := 61) 0 dX9_passes_61 rfl ?_
          refine G_aload_n (pc := 62) 0 dX9_passes_62 rfl ?_
          refine gwM_X9_37_0 (pc := 63) dX9_passes_63 ?_
          refine G_iconst (pc := 66) (3) dX9_passes_66 ci_3 ?_
          refine G_iload_n (pc := 67) 2 dX9_passes_67 rfl ?_
          refine G_imul (pc := 68) dX9_passes_68 ?_
          obtain ⟨g23, h⟩ := gi_some h
          refine alwM_10 (pc := 69) dX9_passes_69 g23 ?_
          refine G_aload_n (pc := 70) 0 dX9_passes_70 rfl ?_
          refine gwM_X9_37_0 (pc := 71) dX9_passes_71 ?_
          refine G_iconst (pc := 74) (3) dX9_passes_74 ci_3 ?_
          refine G_iload_n (pc := 75) 2 dX9_passes_75 rfl ?_
          refine G_imul (pc := 76) dX9_passes_76 ?_
          refine G_iconst (pc := 77) (2) dX9_passes_77 ci_2 ?_
          refine G_iadd (pc := 78) dX9_passes_78 ?_
          obtain ⟨g24, h⟩ := gi_some h
          refine alwM_10 (pc := 79) dX9_passes_79 g24 ?_
          obtain ⟨q25, e25, h⟩ := bnd_some h
          refine G_callV2v (pc := 80) 0 8 dX9_passes_80 wv_X9_200 cd_X9_happens (S_X9_happens _ _ _ _ e25) (by decide) (by decide) rfl (by decide) (fun _ _ => ⟨_, rfl⟩) (Nat.le_of_ble_eq_true rfl) ?_
          exact B_X9_passes_83 _ ih _ _ _ _ h
def L_X9_passes_7 : Nat → Int32 → Int32 → Mm → Option Mm
  | 0, _, _, _ => none
  | n + 1, x1, x2, μ => if 10 ≤ x2 then L_X9_passes_28 FUEL x1 0 μ else gi x2 10 (L_X9_passes_7 n x1 (x2 + 1) (wI μ 16 x2.toNatClampNeg 0))
set_option maxRecDepth 100000 in
set_option maxHeartbeats 4000000 in
theorem L_X9_passes_7_s (n : Nat) (x1 : Int32) (x2 : Int32) (μ : Mm) : L_X9_passes_7  (n + 1) x1 x2 μ = (if 10 ≤ x2 then L_X9_passes_28 FUEL x1 0 μ else gi x2 10 (L_X9_passes_7 n x1 (x2 + 1) (wI μ 16 x2.toNatClampNeg 0))) := rfl
set_option maxRecDepth 100000 in
set_option maxHeartbeats 4000000 in
theorem B_X9_passes_7 : ∀ (n : Nat) (x1 : Int32) (x2 : Int32) (μ : Mm) (q : Mm), L_X9_passes_7  n x1 x2 μ = some q → G wM RX9 cX9_passes 3 none 3 none q 7 [(0, .ref 0), (1, .int x1), (2, .int x2)] [] μ := by
  intro n
  induction n with
  | zero =>
    intro x1 x2 μ q  h
    cases h
  | succ n ih =>
    intro x1 x2 μ q  h
    rw [L_X9_passes_7_s] at h
    refine G_iload_n (pc := 7) 2 dX9_passes_7 rfl ?_
    refine G_bipush (pc := 8) (10) dX9_passes_8 bp_10 ?_
    refine G_icmp_ge (pc := 10) 26 dX9_passes_10 (by decide) (fun c1 => ?_) (fun c1 => ?_)
    · replace h := itp c1 h
      refine G_iconst (pc := 26) (0) dX9_passes_26 ci_0 ?_
      refine G_istore_n (pc := 27) [(2, .int _), (0, .ref _), (1, .int _)] dX9_passes_27 (Nat.le_of_ble_eq_true rfl) rfl ?_
      refine G_loc [1, 2, 0] [(0, .ref _), (1, .int _), (2, .int _)] rfl ?_
      exact B_X9_passes_28 _ _ _ _ _ h
    · replace h := itn c1 h
      refine G_aload_n (pc := 13) 0 dX9_passes_13 rfl ?_
      refine gwM_X9_56_0 (pc := 14) dX9_passes_14 ?_
      refine G_iload_n (pc := 17) 2 dX9_passes_17 rfl ?_
      refine G_iconst (pc := 18) (0) dX9_passes_18 ci_0 ?_
      obtain ⟨g26, h⟩ := gi_some h
      refine aswM_16 (pc := 19) dX9_passes_19 g26 (Or.inl rfl) ?_
      refine G_iinc (pc := 20) (1) 2 [(2, .int _), (0, .ref _), (1, .int _)] dX9_passes_20 ci_1 rfl (Nat.le_of_ble_eq_true rfl) rfl ?_
      refine G_goto (pc := 23) 7 dX9_passes_23 (by decide) ?_
      refine G_loc [1, 2, 0] [(0, .ref _), (1, .int _), (2, .int _)] rfl ?_
      exact ih _ _ _ _ h
def F_X9_passes (x1 : Int32) (μ : Mm) : Option Mm := L_X9_passes_7 FUEL x1 0 (wI μ 0 25 0)
set_option maxRecDepth 100000 in
set_option maxHeartbeats 4000000 in
theorem S_X9_passes (x1 : Int32)  (μ : Mm) (q : Mm) (h : F_X9_passes x1 μ = some q) : Cn wM yX9_passes cX9_passes 3 none 3 [.ref 0, .int x1] μ none q := by
  refine Cn_of (by decide +kernel) (Nat.le_of_ble_eq_true rfl) ?_
  show G wM RX9 cX9_passes 3 none 3 none q 0 [(0, .ref 0), (1, .int x1)] [] μ
  unfold F_X9_passes at h
  refine G_aload_n (pc := 0) 0 dX9_passes_0 rfl ?_
  refine G_iconst (pc := 1) (0) dX9_passes_1 ci_0 ?_
  refine pwM_X9_177_0 (pc := 2) dX9_passes_2 (Or.inl rfl) ?_
  refine G_iconst (pc := 5) (0) dX9_passes_5 ci_0 ?_
  refine G_istore_n (pc := 6) [(2, .int _), (0, .ref _), (1, .int _)] dX9_passes_6 (Nat.le_of_ble_eq_true rfl) rfl ?_
  refine G_loc [1, 2, 0] [(0, .ref _), (1, .int _), (2, .int _)] rfl ?_
  exact B_X9_passes_7 _ _ _ _ _ h
def L_X9_lives_58 : Nat → Int32 → Mm → Option Mm
  | 0, _, _ => none
  | n + 1, x1, μ => if 12 ≤ x1 then some μ else (F_X9_passes x1 μ).bind (fun q3 => L_X9_lives_58 n (x1 + 1) q3)
set_option maxRecDepth 100000 in
set_option maxHeartbeats 4000000 in
theorem L_X9_lives_58_s (n : Nat) (x1 : Int32) (μ : Mm) : L_X9_lives_58  (n + 1) x1 μ = (if 12 ≤ x1 then some μ else (F_X9_passes x1 μ).bind (fun q3 => L_X9_lives_58 n (x1 + 1) q3)) := rfl
set_option maxRecDepth 100000 in
set_option maxHeartbeats 4000000 in
theorem B_X9_lives_58 : ∀ (n : Nat) (x1 : Int32) (μ : Mm) (q : Mm), L_X9_lives_58  n x1 μ = some q → G wM RX9 cX9_lives 2 none 4 none q 58 [(0, .ref 0), (1, .int x1)] [] μ := by
  intro n
  induction n with
  | zero =>
    intro x1 μ q  h
    cases h
  | succ n ih =>
    intro x1 μ q  h
    rw [L_X9_lives_58_s] at h
    refine G_iload_n (pc := 58) 1 dX9_lives_58 rfl ?_
    refine G_bipush (pc := 59) (12) dX9_lives_59 bp_12 ?_
    refine G_icmp_ge (pc := 61) 75 dX9_lives_61 (by decide) (fun c2 => ?_) (fun c2 => ?_)
    · replace h := itp c2 h
      obtain rfl := Option.some.inj h
      exact G_vret (pc := 75) rfl dX9_lives_75
    · replace h := itn c2 h
      refine G_aload_n (pc := 64) 0 dX9_lives_64 rfl ?_
      refine G_iload_n (pc := 65) 1 dX9_lives_65 rfl ?_
      obtain ⟨q3, e3, h⟩ := bnd_some h
      refine G_callV1v (pc := 66) 0 8 dX9_lives_66 wv_X9_214 cd_X9_passes (S_X9_passes _ _ _ e3) (by decide) (by decide) rfl (by decide) (fun _ _ => ⟨_, rfl⟩) (Nat.le_of_ble_eq_true rfl) ?_
      refine G_iinc (pc := 69) (1) 1 [(1, .int _), (0, .ref _)] dX9_lives_69 ci_1 rfl (Nat.le_of_ble_eq_true rfl) rfl ?_
      refine G_goto (pc := 72) 58 dX9_lives_72 (by decide) ?_
      refine G_loc [1, 0] [(0, .ref _), (1, .int _)] rfl ?_
      exact ih _ _ _ h
def L_X9_lives_2 : Nat → Int32 → Mm → Option Mm
  | 0, _, _ => none
  | n + 1, x1, μ => if 10 ≤ x1 then L_X9_lives_58 FUEL 0 (wI μ 0 26 0) else gi ((3 * x1) + 1) 30 (gi x1 10 (gi x1 10 (gi x1 10 (gi x1 10 (L_X9_lives_2 n (x1 + 1) (wI (wI (wI (wI μ 11 x1.toNatClampNeg (μ.1 7 ((3 * x1) + 1).toNatClampNeg)) 12 x1.toNatClampNeg 0) 13 x1.toNatClampNeg 0) 14 x1.toNatClampNeg 0))))))
set_option maxRecDepth 100000 in
set_option maxHeartbeats 4000000 in
theorem L_X9_lives_2_s (n : Nat) (x1 : Int32) (μ : Mm) : L_X9_lives_2  (n + 1) x1 μ = (if 10 ≤ x1 then L_X9_lives_58 FUEL 0 (wI μ 0 26 0) else gi ((3 * x1) + 1) 30 (gi x1 10 (gi x1 10 (gi x1 10 (gi x1 10 (L_X9_lives_2 n (x1 + 1) (wI (wI (wI (wI μ 11 x1.toNatClampNeg (μ.1 7 ((3 * x1) + 1).toNatClampNeg)) 12 x1.toNatClampNeg 0) 13 x1.toNatClampNeg 0) 14 x1.toNatClampNeg 0))))))) := rfl
set_option maxRecDepth 100000 in
set_option maxHeartbeats 4000000 in
theorem B_X9_lives_2 : ∀ (n : Nat) (x1 : Int32) (μ : Mm) (q : Mm), L_X9_lives_2  n x1 μ = some q → G wM RX9 cX9_lives 2 none 4 none q 2 [(0, .ref 0), (1, .int x1)] [] μ := by
  intro n
  induction n with
  | zero =>
    intro x1 μ q  h
    cases h
  | succ n ih =>
    intro x1 μ q  h
    rw [L_X9_lives_2_s] at h
    refine G_iload_n (pc := 2) 1 dX9_lives_2 rfl ?_
    refine G_bipush (pc := 3) (10) dX9_lives_3 bp_10 ?_
    refine G_icmp_ge (pc := 5) 51 dX9_lives_5 (by decide) (fun c1 => ?_) (fun c1 => ?_)
    · replace h := itp c1 h
      refine G_aload_n (pc := 51) 0 dX9_lives_51 rfl ?_
      refine G_iconst (pc := 52) (0) dX9_lives_52 ci_0 ?_
      refine pwM_X9_194_0 (pc := 53) dX9_lives_53 ?_
      refine G_iconst (pc := 56) (0) dX9_lives_56 ci_0 ?_
      refine G_istore_n (pc := 57) [(1, .int _), (0, .ref _)] dX9_lives_57 (Nat.le_of_ble_eq_true rfl) rfl ?_
      refine G_loc [1, 0] [(0, .ref _), (1, .int _)] rfl ?_
      exact B_X9_lives_58 _ _ _ _ h
    · replace h := itn c1 h
      refine G_aload_n (pc := 8) 0 dX9_lives_8 rfl ?_
      refine gwM_X9_40_0 (pc := 9) dX9_lives_9 ?_
      refine G_iload_n (pc := 12) 1 dX9_lives_12 rfl ?_
      refine G_aload_n (pc := 13) 0 dX9_lives_13 rfl ?_
      refine gwM_X9_28_0 (pc := 14) dX9_lives_14 ?_
      refine G_iconst (pc := 17) (3) dX9_lives_17 ci_3 ?_
      refine G_iload_n (pc := 18) 1 dX9_lives_18 rfl ?_
      refine G_imul (pc := 19) dX9_lives_19 ?_
      refine G_iconst (pc := 20) (1) dX9_lives_20 ci_1 ?_
      refine G_iadd (pc := 21) dX9_lives_21 ?_
      obtain ⟨g4, h⟩ := gi_some h
      refine alwM_7 (pc := 22) dX9_lives_22 g4 ?_
      obtain ⟨g5, h⟩ := gi_some h
      refine aswM_11 (pc := 23) dX9_lives_23 g5 ?_
      refine G_aload_n (pc := 24) 0 dX9_lives_24 rfl ?_
      refine gwM_X9_43_0 (pc := 25) dX9_lives_25 ?_
      refine G_iload_n (pc := 28) 1 dX9_lives_28 rfl ?_
      refine G_iconst (pc := 29) (0) dX9_lives_29 ci_0 ?_
      obtain ⟨g6, h⟩ := gi_some h
      refine aswM_12 (pc := 30) dX9_lives_30 g6 ?_
      refine G_aload_n (pc := 31) 0 dX9_lives_31 rfl ?_
      refine gwM_X9_46_0 (pc := 32) dX9_lives_32 ?_
      refine G_iload_n (pc := 35) 1 dX9_lives_35 rfl ?_
      refine G_iconst (pc := 36) (0) dX9_lives_36 ci_0 ?_
      obtain ⟨g7, h⟩ := gi_some h
      refine aswM_13 (pc := 37) dX9_lives_37 g7 ?_
      refine G_aload_n (pc := 38) 0 dX9_lives_38 rfl ?_
      refine gwM_X9_49_0 (pc := 39) dX9_lives_39 ?_
      refine G_iload_n (pc := 42) 1 dX9_lives_42 rfl ?_
      refine G_iconst (pc := 43) (0) dX9_lives_43 ci_0 ?_
      obtain ⟨g8, h⟩ := gi_some h
      refine aswM_14 (pc := 44) dX9_lives_44 g8 (Or.inl rfl) ?_
      refine G_iinc (pc := 45) (1) 1 [(1, .int _), (0, .ref _)] dX9_lives_45 ci_1 rfl (Nat.le_of_ble_eq_true rfl) rfl ?_
      refine G_goto (pc := 48) 2 dX9_lives_48 (by decide) ?_
      refine G_loc [1, 0] [(0, .ref _), (1, .int _)] rfl ?_
      exact ih _ _ _ h
def F_X9_lives  (μ : Mm) : Option Mm := L_X9_lives_2 FUEL 0 μ
set_option maxRecDepth 100000 in
set_option maxHeartbeats 4000000 in
theorem S_X9_lives   (μ : Mm) (q : Mm) (h : F_X9_lives  μ = some q) : Cn wM yX9_lives cX9_lives 2 none 4 [.ref 0] μ none q := by
  refine Cn_of (by decide +kernel) (Nat.le_of_ble_eq_true rfl) ?_
  show G wM RX9 cX9_lives 2 none 4 none q 0 [(0, .ref 0)] [] μ
  unfold F_X9_lives at h
  refine G_iconst (pc := 0) (0) dX9_lives_0 ci_0 ?_
  refine G_istore_n (pc := 1) [(1, .int _), (0, .ref _)] dX9_lives_1 (Nat.le_of_ble_eq_true rfl) rfl ?_
  refine G_loc [1, 0] [(0, .ref _), (1, .int _)] rfl ?_
  exact B_X9_lives_2 _ _ _ _ h
def F_X9_find  (μ : Mm) : Option Mm := (F_X9_readsThings μ).bind (fun q1 => (F_X9_readsJudges q1.2).bind (fun q2 => (F_X9_readsBox q2.2).bind (fun q3 => (F_X9_lives q3.2).bind (fun q4 => some q4))))
set_option maxRecDepth 100000 in
set_option maxHeartbeats 4000000 in
theorem S_X9_find   (μ : Mm) (q : Mm) (h : F_X9_find  μ = some q) : Cn wM yX9_find cX9_find 1 none 5 [.ref 0] μ none q := by
  refine Cn_of (by decide +kernel) (Nat.le_of_ble_eq_true rfl) ?_
  show G wM RX9 cX9_find 1 none 5 none q 0 [(0, .ref 0)] [] μ
  unfold F_X9_find at h
  refine G_aload_n (pc := 0) 0 dX9_find_0 rfl ?_
  obtain ⟨q1, e1, h⟩ := bnd_some h
  refine G_callV0r (pc := 1) 0 8 dX9_find_1 wv_X9_143 cd_X9_readsThings (S_X9_readsThings _ _ e1) (by decide) (by decide) rfl (by decide) (fun _ _ => ⟨_, rfl⟩) (Nat.le_of_ble_eq_true rfl) ?_
  refine G_pop (pc := 4) dX9_find_4 rfl ?_
  refine G_aload_n (pc := 5) 0 dX9_find_5 rfl ?_
  obtain ⟨q2, e2, h⟩ := bnd_some h
  refine G_callV0r (pc := 6) 0 8 dX9_find_6 wv_X9_147 cd_X9_readsJudges (S_X9_readsJudges _ _ e2) (by decide) (by decide) rfl (by decide) (fun _ _ => ⟨_, rfl⟩) (Nat.le_of_ble_eq_true rfl) ?_
  refine G_pop (pc := 9) dX9_find_9 rfl ?_
  refine G_aload_n (pc := 10) 0 dX9_find_10 rfl ?_
  obtain ⟨q3, e3, h⟩ := bnd_some h
  refine G_callV0r (pc := 11) 0 8 dX9_find_11 wv_X9_150 cd_X9_readsBox (S_X9_readsBox _ _ e3) (by decide) (by decide) rfl (by decide) (fun _ _ => ⟨_, rfl⟩) (Nat.le_of_ble_eq_true rfl) ?_
  refine G_pop (pc := 14) dX9_find_14 rfl ?_
  refine G_aload_n (pc := 15) 0 dX9_find_15 rfl ?_
  obtain ⟨q4, e4, h⟩ := bnd_some h
  refine G_callV0v (pc := 16) 0 8 dX9_find_16 wv_X9_217 cd_X9_lives (S_X9_lives _ _ e4) (by decide) (by decide) rfl (by decide) (fun _ _ => ⟨_, rfl⟩) (Nat.le_of_ble_eq_true rfl) ?_
  obtain rfl := Option.some.inj h
  exact G_vret (pc := 19) rfl dX9_find_19
def F_X9_place (x1 : Int32) (x2 : Int32) (μ : Mm) : Option (Int32 × Mm) := (F_X9_find μ).bind (fun q1 => (F_X9_isWeek x1 q1).bind (fun q2 => if q2.1 = 0 then some ((-2), q2.2) else (F_X9_in x2.toInt64 0 2 q2.2).bind (fun q4 => if q4.1 = 0 then some ((-2), q4.2) else gi ((3 * x1) + x2) 36 (some ((q4.2.1 22 ((3 * x1) + x2).toNatClampNeg), q4.2)))))
set_option maxRecDepth 100000 in
set_option maxHeartbeats 4000000 in
theorem S_X9_place (x1 : Int32) (x2 : Int32)  (μ : Mm) (q : (Int32 × Mm)) (h : F_X9_place x1 x2 μ = some q) : Cn wM yX9_place cX9_place 3 (some .int) 6 [.ref 0, .int x1, .int x2] μ (some (.int q.1)) q.2 := by
  refine Cn_of (by decide +kernel) (Nat.le_of_ble_eq_true rfl) ?_
  show G wM RX9 cX9_place 3 (some .int) 6 (some (.int q.1)) q.2 0 [(0, .ref 0), (1, .int x1), (2, .int x2)] [] μ
  unfold F_X9_place at h
  refine G_aload_n (pc := 0) 0 dX9_place_0 rfl ?_
  obtain ⟨q1, e1, h⟩ := bnd_some h
  refine G_callV0v (pc := 1) 0 8 dX9_place_1 wv_X9_220 cd_X9_find (S_X9_find _ _ e1) (by decide) (by decide) rfl (by decide) (fun _ _ => ⟨_, rfl⟩) (Nat.le_of_ble_eq_true rfl) ?_
  refine G_iload_n (pc := 4) 1 dX9_place_4 rfl ?_
  obtain ⟨q2, e2, h⟩ := bnd_some h
  refine G_callS1r (pc := 5) dX9_place_5 ws_X9_164 cd_X9_isWeek (S_X9_isWeek _ _ _ e2) (by decide) (by decide) (Nat.le_of_ble_eq_true rfl) ?_
  refine G_if_eq (pc := 8) 36 dX9_place_8 (by decide) (fun c3 => ?_) (fun c3 => ?_)
  · replace h := itp c3 h
    refine G_bipush (pc := 36) (-2) dX9_place_36 bp_m2 ?_
    obtain rfl := Option.some.inj h
    exact G_iret (pc := 38) rfl dX9_place_38
  · replace h := itn c3 h
    refine G_iload_n (pc := 11) 2 dX9_place_11 rfl ?_
    refine G_i2l (pc := 12) dX9_place_12 ?_
    refine G_lconst (pc := 13) (0) dX9_place_13 lc_0 ?_
    refine G_ldc2 (pc := 14) (2) dX9_place_14 kl_X9_105 ?_
    obtain ⟨q4, e4, h⟩ := bnd_some h
    refine G_callS3r (pc := 17) dX9_place_17 ws_X9_92 cd_X9_in (S_X9_in _ _ _ _ _ e4) (by decide) (by decide) (Nat.le_of_ble_eq_true rfl) ?_
    refine G_if_eq (pc := 20) 36 dX9_place_20 (by decide) (fun c5 => ?_) (fun c5 => ?_)
    · replace h := itp c5 h
      refine G_bipush (pc := 36) (-2) dX9_place_36 bp_m2 ?_
      obtain rfl := Option.some.inj h
      exact G_iret (pc := 38) rfl dX9_place_38
    · replace h := itn c5 h
      refine G_aload_n (pc := 23) 0 dX9_place_23 rfl ?_
      refine gwM_X9_74_0 (pc := 24) dX9_place_24 ?_
      refine G_iconst (pc := 27) (3) dX9_place_27 ci_3 ?_
      refine G_iload_n (pc := 28) 1 dX9_place_28 rfl ?_
      refine G_imul (pc := 29) dX9_place_29 ?_
      refine G_iload_n (pc := 30) 2 dX9_place_30 rfl ?_
      refine G_iadd (pc := 31) dX9_place_31 ?_
      obtain ⟨g6, h⟩ := gi_some h
      refine alwM_22 (pc := 32) dX9_place_32 g6 ?_
      refine G_goto (pc := 33) 38 dX9_place_33 (by decide) ?_
      obtain rfl := Option.some.inj h
      exact G_iret (pc := 38) rfl dX9_place_38
def F_X9_atBy (x1 : Int32) (x2 : Int32) (x3 : Int32) (μ : Mm) : Option (Int32 × Mm) := if x3 = 0 then gi ((10 * x1) + x2) 120 (some ((μ.1 17 ((10 * x1) + x2).toNatClampNeg), μ)) else if x3 = 1 then gi ((10 * x1) + x2) 120 (some ((μ.1 18 ((10 * x1) + x2).toNatClampNeg), μ)) else if x3 = 2 then gi ((10 * x1) + x2) 120 (some ((μ.1 19 ((10 * x1) + x2).toNatClampNeg), μ)) else if x3 = 3 then gi ((10 * x1) + x2) 120 (some ((μ.1 20 ((10 * x1) + x2).toNatClampNeg), μ)) else gi ((10 * x1) + x2) 120 (some ((μ.1 21 ((10 * x1) + x2).toNatClampNeg), μ))
set_option maxRecDepth 100000 in
set_option maxHeartbeats 4000000 in
theorem S_X9_atBy (x1 : Int32) (x2 : Int32) (x3 : Int32)  (μ : Mm) (q : (Int32 × Mm)) (h : F_X9_atBy x1 x2 x3 μ = some q) : Cn wM yX9_atBy cX9_atBy 5 (some .int) 0 [.ref 0, .int x1, .int x2, .int x3] μ (some (.int q.1)) q.2 := by
  refine Cn_of (by decide +kernel) (Nat.le_of_ble_eq_true rfl) ?_
  show G wM RX9 cX9_atBy 5 (some .int) 0 (some (.int q.1)) q.2 0 [(0, .ref 0), (1, .int x1), (2, .int x2), (3, .int x3)] [] μ
  unfold F_X9_atBy at h
  refine G_bipush (pc := 0) (10) dX9_atBy_0 bp_10 ?_
  refine G_iload_n (pc := 2) 1 dX9_atBy_2 rfl ?_
  refine G_imul (pc := 3) dX9_atBy_3 ?_
  refine G_iload_n (pc := 4) 2 dX9_atBy_4 rfl ?_
  refine G_iadd (pc := 5) dX9_atBy_5 ?_
  refine G_istore (pc := 6) [(4, .int _), (0, .ref _), (1, .int _), (2, .int _), (3, .int _)] dX9_atBy_6 (Nat.le_of_ble_eq_true rfl) rfl ?_
  refine G_iload_n (pc := 8) 4 dX9_atBy_8 rfl ?_
  by_cases c1 : x3 = 0
  · replace h := itp c1 h
    refine G_tswV (pc := 9) 40 (0) c1 dX9_atBy_9 (by decide) (by decide) rfl (by decide) ?_
    refine G_aload_n (pc := 40) 1 dX9_atBy_40 rfl ?_
    refine gwM_X9_59_0 (pc := 41) dX9_atBy_41 ?_
    refine G_iload (pc := 44) 0 dX9_atBy_44 rfl ?_
    obtain ⟨g9, h⟩ := gi_some h
    refine alwM_17 (pc := 46) dX9_atBy_46 g9 ?_
    obtain rfl := Option.some.inj h
    exact G_iret (pc := 47) rfl dX9_atBy_47
  · replace h := itn c1 h
    by_cases c2 : x3 = 1
    · replace h := itp c2 h
      refine G_tswV (pc := 9) 48 (1) c2 dX9_atBy_9 (by decide) (by decide) rfl (by decide) ?_
      refine G_aload_n (pc := 48) 1 dX9_atBy_48 rfl ?_
      refine gwM_X9_62_0 (pc := 49) dX9_atBy_49 ?_
      refine G_iload (pc := 52) 0 dX9_atBy_52 rfl ?_
      obtain ⟨g8, h⟩ := gi_some h
      refine alwM_18 (pc := 54) dX9_atBy_54 g8 ?_
      obtain rfl := Option.some.inj h
      exact G_iret (pc := 55) rfl dX9_atBy_55
    · replace h := itn c2 h
      by_cases c3 : x3 = 2
      · replace h := itp c3 h
        refine G_tswV (pc := 9) 56 (2) c3 dX9_atBy_9 (by decide) (by decide) rfl (by decide) ?_
        refine G_aload_n (pc := 56) 1 dX9_atBy_56 rfl ?_
        refine gwM_X9_65_0 (pc := 57) dX9_atBy_57 ?_
        refine G_iload (pc := 60) 0 dX9_atBy_60 rfl ?_
        obtain ⟨g7, h⟩ := gi_some h
        refine alwM_19 (pc := 62) dX9_atBy_62 g7 ?_
        obtain rfl := Option.some.inj h
        exact G_iret (pc := 63) rfl dX9_atBy_63
      · replace h := itn c3 h
        by_cases c4 : x3 = 3
        · replace h := itp c4 h
          refine G_tswV (pc := 9) 64 (3) c4 dX9_atBy_9 (by decide) (by decide) rfl (by decide) ?_
          refine G_aload_n (pc := 64) 1 dX9_atBy_64 rfl ?_
          refine gwM_X9_68_0 (pc := 65) dX9_atBy_65 ?_
          refine G_iload (pc := 68) 0 dX9_atBy_68 rfl ?_
          obtain ⟨g6, h⟩ := gi_some h
          refine alwM_20 (pc := 70) dX9_atBy_70 g6 ?_
          obtain rfl := Option.some.inj h
          exact G_iret (pc := 71) rfl dX9_atBy_71
        · replace h := itn c4 h
          refine G_tswOut (pc := 9) 72 dX9_atBy_9 (tswO 4 (by decide) (lt_s (lt_s (lt_s (lt_s lt_0 c1) c2) c3) c4)) (by decide) ?_
          refine G_aload_n (pc := 72) 1 dX9_atBy_72 rfl ?_
          refine gwM_X9_71_0 (pc := 73) dX9_atBy_73 ?_
          refine G_iload (pc := 76) 0 dX9_atBy_76 rfl ?_
          obtain ⟨g5, h⟩ := gi_some h
          refine alwM_21 (pc := 78) dX9_atBy_78 g5 ?_
          obtain rfl := Option.some.inj h
          exact G_iret (pc := 79) rfl dX9_atBy_79
def F_X9_at (x1 : Int32) (x2 : Int32) (x3 : Int32) (μ : Mm) : Option (Int32 × Mm) := (F_X9_find μ).bind (fun q1 => (F_X9_isWeek x1 q1).bind (fun q2 => if q2.1 = 0 then some ((-2), q2.2) else (F_X9_isThing x2 q2.2).bind (fun q4 => if q4.1 = 0 then some ((-2), q4.2) else (F_X9_in x3.toInt64 0 4 q4.2).bind (fun q6 => if q6.1 = 0 then some ((-2), q6.2) else (F_X9_atBy x1 x2 x3 q6.2).bind (fun q8 => some (q8.1, q8.2))))))
set_option maxRecDepth 100000 in
set_option maxHeartbeats 4000000 in
theorem S_X9_at (x1 : Int32) (x2 : Int32) (x3 : Int32)  (μ : Mm) (q : (Int32 × Mm)) (h : F_X9_at x1 x2 x3 μ = some q) : Cn wM yX9_at cX9_at 4 (some .int) 6 [.ref 0, .int x1, .int x2, .int x3] μ (some (.int q.1)) q.2 := by
  refine Cn_of (by decide +kernel) (Nat.le_of_ble_eq_true rfl) ?_
  show G wM RX9 cX9_at 4 (some .int) 6 (some (.int q.1)) q.2 0 [(0, .ref 0), (1, .int x1), (2, .int x2), (3, .int x3)] [] μ
  unfold F_X9_at at h
  refine G_aload_n (pc := 0) 0 dX9_at_0 rfl ?_
  obtain ⟨q1, e1, h⟩ := bnd_some h
  refine G_callV0v (pc := 1) 0 8 dX9_at_1 wv_X9_220 cd_X9_find (S_X9_find _ _ e1) (by decide) (by decide) rfl (by decide) (fun _ _ => ⟨_, rfl⟩) (Nat.le_of_ble_eq_true rfl) ?_
  refine G_iload_n (pc := 4) 1 dX9_at_4 rfl ?_
  obtain ⟨q2, e2, h⟩ := bnd_some h
  refine G_callS1r (pc := 5) dX9_at_5 ws_X9_164 cd_X9_isWeek (S_X9_isWeek _ _ _ e2) (by decide) (by decide) (Nat.le_of_ble_eq_true rfl) ?_
  refine G_if_eq (pc := 8) 41 dX9_at_8 (by decide) (fun c3 => ?_) (fun c3 => ?_)
  · replace h := itp c3 h
    refine G_bipush (pc := 41) (-2) dX9_at_41 bp_m2 ?_
    obtain rfl := Option.some.inj h
    exact G_iret (pc := 43) rfl dX9_at_43
  · replace h := itn c3 h
    refine G_aload_n (pc := 11) 0 dX9_at_11 rfl ?_
    refine G_iload_n (pc := 12) 2 dX9_at_12 rfl ?_
    obtain ⟨q4, e4, h⟩ := bnd_some h
    refine G_callV1r (pc := 13) 0 8 dX9_at_13 wv_X9_158 cd_X9_isThing (S_X9_isThing _ _ _ e4) (by decide) (by decide) rfl (by decide) (fun _ _ => ⟨_, rfl⟩) (Nat.le_of_ble_eq_true rfl) ?_
    refine G_if_eq (pc := 16) 41 dX9_at_16 (by decide) (fun c5 => ?_) (fun c5 => ?_)
    · replace h := itp c5 h
      refine G_bipush (pc := 41) (-2) dX9_at_41 bp_m2 ?_
      obtain rfl := Option.some.inj h
      exact G_iret (pc := 43) rfl dX9_at_43
    · replace h := itn c5 h
      refine G_iload_n (pc := 19) 3 dX9_at_19 rfl ?_
      refine G_i2l (pc := 20) dX9_at_20 ?_
      refine G_lconst (pc := 21) (0) dX9_at_21 lc_0 ?_
      refine G_ldc2 (pc := 22) (4) dX9_at_22 kl_X9_223 ?_
      obtain ⟨q6, e6, h⟩ := bnd_some h
      refine G_callS3r (pc := 25) dX9_at_25 ws_X9_92 cd_X9_in (S_X9_in _ _ _ _ _ e6) (by decide) (by decide) (Nat.le_of_ble_eq_true rfl) ?_
      refine G_if_eq (pc := 28) 41 dX9_at_28 (by decide) (fun c7 => ?_) (fun c7 => ?_)
      · replace h := itp c7 h
        refine G_bipush (pc := 41) (-2) dX9_at_41 bp_m2 ?_
        obtain rfl := Option.some.inj h
        exact G_iret (pc := 43) rfl dX9_at_43
      · replace h := itn c7 h
        refine G_aload_n (pc := 31) 0 dX9_at_31 rfl ?_
        refine G_iload_n (pc := 32) 1 dX9_at_32 rfl ?_
        refine G_iload_n (pc := 33) 2 dX9_at_33 rfl ?_
        refine G_iload_n (pc := 34) 3 dX9_at_34 rfl ?_
        obtain ⟨q8, e8, h⟩ := bnd_some h
        refine G_callV3r (pc := 35) 0 8 dX9_at_35 wv_X9_225 cd_X9_atBy (S_X9_atBy _ _ _ _ _ e8) (by decide) (by decide) rfl (by decide) (fun _ _ => ⟨_, rfl⟩) (Nat.le_of_ble_eq_true rfl) ?_
        refine G_goto (pc := 38) 43 dX9_at_38 (by decide) ?_
        obtain rfl := Option.some.inj h
        exact G_iret (pc := 43) rfl dX9_at_43
def F_X9_isTwo (x0 : Int32) (μ : Mm) : Option (Int32 × Mm) := (F_X9_in x0.toInt64 0 1 μ).bind (fun q1 => gb q1.1 (some (q1.1, q1.2)))
set_option maxRecDepth 100000 in
set_option maxHeartbeats 4000000 in
theorem S_X9_isTwo (x0 : Int32)  (μ : Mm) (q : (Int32 × Mm)) (h : F_X9_isTwo x0 μ = some q) : Cn wM yX9_isTwo cX9_isTwo 1 (some .boolean) 1 [.int x0] μ (some (.int q.1)) q.2 := by
  refine Cn_of (by decide +kernel) (Nat.le_of_ble_eq_true rfl) ?_
  show G wM RX9 cX9_isTwo 1 (some .boolean) 1 (some (.int q.1)) q.2 0 [(0, .int x0)] [] μ
  unfold F_X9_isTwo at h
  refine G_iload_n (pc := 0) 0 dX9_isTwo_0 rfl ?_
  refine G_i2l (pc := 1) dX9_isTwo_1 ?_
  refine G_lconst (pc := 2) (0) dX9_isTwo_2 lc_0 ?_
  refine G_lconst (pc := 3) (1) dX9_isTwo_3 lc_1 ?_
  obtain ⟨q1, e1, h⟩ := bnd_some h
  refine G_callS3r (pc := 4) dX9_isTwo_4 ws_X9_92 cd_X9_in (S_X9_in _ _ _ _ _ e1) (by decide) (by decide) (Nat.le_of_ble_eq_true rfl) ?_
  obtain ⟨g2, h⟩ := gb_some h
  obtain rfl := Option.some.inj h
  exact G_zret (pc := 7) rfl g2 dX9_isTwo_7
def F_X9_showOf_36 (K5 : Int32 → Int32 → Int32 → Int32 → Mm → Option (Int32 × Mm)) (x1 : Int32) (x2 : Int32) (x4 : Int32) (y0 : Int32) (y1 : Int32) (μ : Mm) : Option (Int32 × Mm) := K5 x1 x2 (y1 + y0) (x4 + 1) μ
set_option maxRecDepth 100000 in
set_option maxHeartbeats 4000000 in
theorem B_X9_showOf_36 (K5 : Int32 → Int32 → Int32 → Int32 → Mm → Option (Int32 × Mm)) (hK5 : ∀ (x1 : Int32) (x2 : Int32) (x3 : Int32) (x4 : Int32) (μ : Mm) (q : (Int32 × Mm)), K5 x1 x2 x3 x4 μ = some q → G wM RX9 cX9_showOf 5 (some .int) 2 (some (.int q.1)) q.2 5 [(0, .ref 0), (1, .int x1), (2, .int x2), (3, .int x3), (4, .int x4)] [] μ) (x1 : Int32) (x2 : Int32) (x4 : Int32) (y0 : Int32) (y1 : Int32) (μ : Mm) (q : (Int32 × Mm))  (h : F_X9_showOf_36 K5 x1 x2 x4 y0 y1 μ = some q) : G wM RX9 cX9_showOf 5 (some .int) 2 (some (.int q.1)) q.2 36 [(0, .ref 0), (1, .int x1), (2, .int x2), (4, .int x4)] [.int y0, .int y1] μ := by
  unfold F_X9_showOf_36 at h
  refine G_iadd (pc := 36) dX9_showOf_36 ?_
  refine G_istore_n (pc := 37) [(3, .int _), (0, .ref _), (1, .int _), (2, .int _), (4, .int _)] dX9_showOf_37 (Nat.le_of_ble_eq_true rfl) rfl ?_
  refine G_iinc (pc := 38) (1) 4 [(4, .int _), (3, .int _), (0, .ref _), (1, .int _), (2, .int _)] dX9_showOf_38 ci_1 rfl (Nat.le_of_ble_eq_true rfl) rfl ?_
  refine G_goto (pc := 41) 5 dX9_showOf_41 (by decide) ?_
  refine G_loc [2, 3, 4, 1, 0] [(0, .ref _), (1, .int _), (2, .int _), (3, .int _), (4, .int _)] rfl ?_
  exact hK5 _ _ _ _ _ _ h
def L_X9_showOf_5 : Nat → Int32 → Int32 → Int32 → Int32 → Mm → Option (Int32 × Mm)
  | 0, _, _, _, _, _ => none
  | n + 1, x1, x2, x3, x4, μ => if (μ.1 0 7) ≤ x4 then if x2 = 1 then some (x3, μ) else gi x1 12 ((F_X9_isJudge (μ.1 9 x1.toNatClampNeg) μ).bind (fun q4 => if q4.1 = 0 then some ((-1), q4.2) else gi x1 12 (some ((q4.2.1 9 x1.toNatClampNeg), q4.2)))) else gi ((10 * x1) + x4) 120 (F_X9_showOf_36 (L_X9_showOf_5 n) x1 x2 x4 (if (μ.1 21 ((10 * x1) + x4).toNatClampNeg) = (-1) then 0 else 1) x3 μ)
set_option maxRecDepth 100000 in
set_option maxHeartbeats 4000000 in
theorem L_X9_showOf_5_s (n : Nat) (x1 : Int32) (x2 : Int32) (x3 : Int32) (x4 : Int32) (μ : Mm) : L_X9_showOf_5  (n + 1) x1 x2 x3 x4 μ = (if (μ.1 0 7) ≤ x4 then if x2 = 1 then some (x3, μ) else gi x1 12 ((F_X9_isJudge (μ.1 9 x1.toNatClampNeg) μ).bind (fun q4 => if q4.1 = 0 then some ((-1), q4.2) else gi x1 12 (some ((q4.2.1 9 x1.toNatClampNeg), q4.2)))) else gi ((10 * x1) + x4) 120 (F_X9_showOf_36 (L_X9_showOf_5 n) x1 x2 x4 (if (μ.1 21 ((10 * x1) + x4).toNatClampNeg) = (-1) then 0 else 1) x3 μ)) := rfl
set_option maxRecDepth 100000 in
set_option maxHeartbeats 4000000 in
theorem B_X9_showOf_5 : ∀ (n : Nat) (x1 : Int32) (x2 : Int32) (x3 : Int32) (x4 : Int32) (μ : Mm) (q : (Int32 × Mm)), L_X9_showOf_5  n x1 x2 x3 x4 μ = some q → G wM RX9 cX9_showOf 5 (some .int) 2 (some (.int q.1)) q.2 5 [(0, .ref 0), (1, .int x1), (2, .int x2), (3, .int x3), (4, .int x4)] [] μ := by
  intro n
  induction n with
  | zero =>
    intro x1 x2 x3 x4 μ q  h
    cases h
  | succ n ih =>
    intro x1 x2 x3 x4 μ q  h
    rw [L_X9_showOf_5_s] at h
    refine G_iload (pc := 5) 4 dX9_showOf_5 rfl ?_
    refine G_aload_n (pc := 7) 0 dX9_showOf_7 rfl ?_
    refine gwM_X9_128_0 (pc := 8) dX9_showOf_8 ?_
    refine G_icmp_ge (pc := 11) 44 dX9_showOf_11 (by decide) (fun c1 => ?_) (fun c1 => ?_)
    · replace h := itp c1 h
      refine G_iload_n (pc := 44) 2 dX9_showOf_44 rfl ?_
      refine G_iconst (pc := 45) (1) dX9_showOf_45 ci_1 ?_
      refine G_icmp_ne (pc := 46) 53 dX9_showOf_46 (by decide) (fun c2 => ?_) (fun c2 => ?_)
      · replace h := itn c2 h
        refine G_aload_n (pc := 53) 0 dX9_showOf_53 rfl ?_
        refine G_aload_n (pc := 54) 0 dX9_showOf_54 rfl ?_
        refine gwM_X9_34_0 (pc := 55) dX9_showOf_55 ?_
        refine G_iload_n (pc := 58) 1 dX9_showOf_58 rfl ?_
        obtain ⟨g3, h⟩ := gi_some h
        refine alwM_9 (pc := 59) dX9_showOf_59 g3 ?_
        obtain ⟨q4, e4, h⟩ := bnd_some h
        refine G_callV1r (pc := 60) 0 8 dX9_showOf_60 wv_X9_161 cd_X9_isJudge (S_X9_isJudge _ _ _ e4) (by decide) (by decide) rfl (by decide) (fun _ _ => ⟨_, rfl⟩) (Nat.le_of_ble_eq_true rfl) ?_
        refine G_if_eq (pc := 63) 75 dX9_showOf_63 (by decide) (fun c5 => ?_) (fun c5 => ?_)
        · replace h := itp c5 h
          refine G_iconst (pc := 75) (-1) dX9_showOf_75 ci_m1 ?_
          obtain rfl := Option.some.inj h
          exact G_iret (pc := 76) rfl dX9_showOf_76
        · replace h := itn c5 h
          refine G_aload_n (pc := 66) 0 dX9_showOf_66 rfl ?_
          refine gwM_X9_34_0 (pc := 67) dX9_showOf_67 ?_
          refine G_iload_n (pc := 70) 1 dX9_showOf_70 rfl ?_
          obtain ⟨g6, h⟩ := gi_some h
          refine alwM_9 (pc := 71) dX9_showOf_71 g6 ?_
          refine G_goto (pc := 72) 76 dX9_showOf_72 (by decide) ?_
          obtain rfl := Option.some.inj h
          exact G_iret (pc := 76) rfl dX9_showOf_76
      · replace h := itp c2 h
        refine G_iload_n (pc := 49) 3 dX9_showOf_49 rfl ?_
        refine G_goto (pc := 50) 76 dX9_showOf_50 (by decide) ?_
        obtain rfl := Option.some.inj h
        exact G_iret (pc := 76) rfl dX9_showOf_76
    · replace h := itn c1 h
      refine G_iload_n (pc := 14) 3 dX9_showOf_14 rfl ?_
      refine G_aload_n (pc := 15) 0 dX9_showOf_15 rfl ?_
      refine gwM_X9_71_0 (pc := 16) dX9_showOf_16 ?_
      refine G_bipush (pc := 19) (10) dX9_showOf_19 bp_10 ?_
      refine G_iload_n (pc := 21) 1 dX9_showOf_21 rfl ?_
      refine G_imul (pc := 22) dX9_showOf_22 ?_
      refine G_iload (pc := 23) 4 dX9_showOf_23 rfl ?_
      refine G_iadd (pc := 25) dX9_showOf_25 ?_
      obtain ⟨g7, h⟩ := gi_some h
      refine alwM_21 (pc := 26) dX9_showOf_26 g7 ?_
      refine G_iconst (pc := 27) (-1) dX9_showOf_27 ci_m1 ?_
      refine G_icmp_ne (pc := 28) 35 dX9_showOf_28 (by decide) (fun c8 => ?_) (fun c8 => ?_)
      · rw [if_neg c8] at h
        refine G_iconst (pc := 35) (1) dX9_showOf_35 ci_1 ?_
        refine G_loc [0, 1, 2, 4] [(0, .ref _), (1, .int _), (2, .int _), (4, .int _)] rfl ?_
        exact B_X9_showOf_36 _ ih _ _ _ _ _ _ _ h
      · rw [if_pos c8] at h
        refine G_iconst (pc := 31) (0) dX9_showOf_31 ci_0 ?_
        refine G_goto (pc := 32) 36 dX9_showOf_32 (by decide) ?_
        refine G_loc [0, 1, 2, 4] [(0, .ref _), (1, .int _), (2, .int _), (4, .int _)] rfl ?_
        exact B_X9_showOf_36 _ ih _ _ _ _ _ _ _ h
def F_X9_showOf (x1 : Int32) (x2 : Int32) (μ : Mm) : Option (Int32 × Mm) := L_X9_showOf_5 FUEL x1 x2 0 0 μ
set_option maxRecDepth 100000 in
set_option maxHeartbeats 4000000 in
theorem S_X9_showOf (x1 : Int32) (x2 : Int32)  (μ : Mm) (q : (Int32 × Mm)) (h : F_X9_showOf x1 x2 μ = some q) : Cn wM yX9_showOf cX9_showOf 5 (some .int) 2 [.ref 0, .int x1, .int x2] μ (some (.int q.1)) q.2 := by
  refine Cn_of (by decide +kernel) (Nat.le_of_ble_eq_true rfl) ?_
  show G wM RX9 cX9_showOf 5 (some .int) 2 (some (.int q.1)) q.2 0 [(0, .ref 0), (1, .int x1), (2, .int x2)] [] μ
  unfold F_X9_showOf at h
  refine G_iconst (pc := 0) (0) dX9_showOf_0 ci_0 ?_
  refine G_istore_n (pc := 1) [(3, .int _), (0, .ref _), (1, .int _), (2, .int _)] dX9_showOf_1 (Nat.le_of_ble_eq_true rfl) rfl ?_
  refine G_iconst (pc := 2) (0) dX9_showOf_2 ci_0 ?_
  refine G_istore (pc := 3) [(4, .int _), (3, .int _), (0, .ref _), (1, .int _), (2, .int _)] dX9_showOf_3 (Nat.le_of_ble_eq_true rfl) rfl ?_
  refine G_loc [2, 3, 4, 1, 0] [(0, .ref _), (1, .int _), (2, .int _), (3, .int _), (4, .int _)] rfl ?_
  exact B_X9_showOf_5 _ _ _ _ _ _ _ h
def F_X9_show (x1 : Int32) (x2 : Int32) (μ : Mm) : Option (Int32 × Mm) := (F_X9_find μ).bind (fun q1 => (F_X9_isWeek x1 q1).bind (fun q2 => if q2.1 = 0 then some ((-2), q2.2) else (F_X9_isTwo x2 q2.2).bind (fun q4 => if q4.1 = 0 then some ((-2), q4.2) else (F_X9_showOf x1 x2 q4.2).bind (fun q6 => some (q6.1, q6.2)))))
set_option maxRecDepth 100000 in
set_option maxHeartbeats 4000000 in
theorem S_X9_show (x1 : Int32) (x2 : Int32)  (μ : Mm) (q : (Int32 × Mm)) (h : F_X9_show x1 x2 μ = some q) : Cn wM yX9_show cX9_show 3 (some .int) 6 [.ref 0, .int x1, .int x2] μ (some (.int q.1)) q.2 := by
  refine Cn_of (by decide +kernel) (Nat.le_of_ble_eq_true rfl) ?_
  show G wM RX9 cX9_show 3 (some .int) 6 (some (.int q.1)) q.2 0 [(0, .ref 0), (1, .int x1), (2, .int x2)] [] μ
  unfold F_X9_show at h
  refine G_aload_n (pc := 0) 0 dX9_show_0 rfl ?_
  obtain ⟨q1, e1, h⟩ := bnd_some h
  refine G_callV0v (pc := 1) 0 8 dX9_show_1 wv_X9_220 cd_X9_find (S_X9_find _ _ e1) (by decide) (by decide) rfl (by decide) (fun _ _ => ⟨_, rfl⟩) (Nat.le_of_ble_eq_true rfl) ?_
  refine G_iload_n (pc := 4) 1 dX9_show_4 rfl ?_
  obtain ⟨q2, e2, h⟩ := bnd_some h
  refine G_callS1r (pc := 5) dX9_show_5 ws_X9_164 cd_X9_isWeek (S_X9_isWeek _ _ _ e2) (by decide) (by decide) (Nat.le_of_ble_eq_true rfl) ?_
  refine G_if_eq (pc := 8) 27 dX9_show_8 (by decide) (fun c3 => ?_) (fun c3 => ?_)
  · replace h := itp c3 h
    refine G_bipush (pc := 27) (-2) dX9_show_27 bp_m2 ?_
    obtain rfl := Option.some.inj h
    exact G_iret (pc := 29) rfl dX9_show_29
  · replace h := itn c3 h
    refine G_iload_n (pc := 11) 2 dX9_show_11 rfl ?_
    obtain ⟨q4, e4, h⟩ := bnd_some h
    refine G_callS1r (pc := 12) dX9_show_12 ws_X9_228 cd_X9_isTwo (S_X9_isTwo _ _ _ e4) (by decide) (by decide) (Nat.le_of_ble_eq_true rfl) ?_
    refine G_if_eq (pc := 15) 27 dX9_show_15 (by decide) (fun c5 => ?_) (fun c5 => ?_)
    · replace h := itp c5 h
      refine G_bipush (pc := 27) (-2) dX9_show_27 bp_m2 ?_
      obtain rfl := Option.some.inj h
      exact G_iret (pc := 29) rfl dX9_show_29
    · replace h := itn c5 h
      refine G_aload_n (pc := 18) 0 dX9_show_18 rfl ?_
      refine G_iload_n (pc := 19) 1 dX9_show_19 rfl ?_
      refine G_iload_n (pc := 20) 2 dX9_show_20 rfl ?_
      obtain ⟨q6, e6, h⟩ := bnd_some h
      refine G_callV2r (pc := 21) 0 8 dX9_show_21 wv_X9_231 cd_X9_showOf (S_X9_showOf _ _ _ _ e6) (by decide) (by decide) rfl (by decide) (fun _ _ => ⟨_, rfl⟩) (Nat.le_of_ble_eq_true rfl) ?_
      refine G_goto (pc := 24) 29 dX9_show_24 (by decide) ?_
      obtain rfl := Option.some.inj h
      exact G_iret (pc := 29) rfl dX9_show_29
def F_X9_ownedBy_37 (K4 : Int32 → Int32 → Int32 → Mm → Option (Int32 × Mm)) (x1 : Int32) (x3 : Int32) (y0 : Int32) (y1 : Int32) (μ : Mm) : Option (Int32 × Mm) := K4 x1 (y1 + y0) (x3 + 1) μ
set_option maxRecDepth 100000 in
set_option maxHeartbeats 4000000 in
theorem B_X9_ownedBy_37 (K4 : Int32 → Int32 → Int32 → Mm → Option (Int32 × Mm)) (hK4 : ∀ (x1 : Int32) (x2 : Int32) (x3 : Int32) (μ : Mm) (q : (Int32 × Mm)), K4 x1 x2 x3 μ = some q → G wM RX9 cX9_ownedBy 4 (some .int) 0 (some (.int q.1)) q.2 4 [(0, .ref 0), (1, .int x1), (2, .int x2), (3, .int x3)] [] μ) (x1 : Int32) (x3 : Int32) (y0 : Int32) (y1 : Int32) (μ : Mm) (q : (Int32 × Mm))  (h : F_X9_ownedBy_37 K4 x1 x3 y0 y1 μ = some q) : G wM RX9 cX9_ownedBy 4 (some .int) 0 (some (.int q.1)) q.2 37 [(0, .ref 0), (1, .int x1), (3, .int x3)] [.int y0, .int y1] μ := by
  unfold F_X9_ownedBy_37 at h
  refine G_iadd (pc := 37) dX9_ownedBy_37 ?_
  refine G_istore_n (pc := 38) [(2, .int _), (0, .ref _), (1, .int _), (3, .int _)] dX9_ownedBy_38 (Nat.le_of_ble_eq_true rfl) rfl ?_
  refine G_iinc (pc := 39) (1) 3 [(3, .int _), (2, .int _), (0, .ref _), (1, .int _)] dX9_ownedBy_39 ci_1 rfl (Nat.le_of_ble_eq_true rfl) rfl ?_
  refine G_goto (pc := 42) 4 dX9_ownedBy_42 (by decide) ?_
  refine G_loc [2, 3, 1, 0] [(0, .ref _), (1, .int _), (2, .int _), (3, .int _)] rfl ?_
  exact hK4 _ _ _ _ _ h
def L_X9_ownedBy_4 : Nat → Int32 → Int32 → Int32 → Mm → Option (Int32 × Mm)
  | 0, _, _, _, _ => none
  | n + 1, x1, x2, x3, μ => if (μ.1 0 7) ≤ x3 then some (x2, μ) else gi ((3 * x3) + 2) 30 (if (μ.1 7 ((3 * x3) + 2).toNatClampNeg) = x1 then gi x3 10 (F_X9_ownedBy_37 (L_X9_ownedBy_4 n) x1 x3 (μ.1 12 x3.toNatClampNeg) x2 μ) else F_X9_ownedBy_37 (L_X9_ownedBy_4 n) x1 x3 0 x2 μ)
set_option maxRecDepth 100000 in
set_option maxHeartbeats 4000000 in
theorem L_X9_ownedBy_4_s (n : Nat) (x1 : Int32) (x2 : Int32) (x3 : Int32) (μ : Mm) : L_X9_ownedBy_4  (n + 1) x1 x2 x3 μ = (if (μ.1 0 7) ≤ x3 then some (x2, μ) else gi ((3 * x3) + 2) 30 (if (μ.1 7 ((3 * x3) + 2).toNatClampNeg) = x1 then gi x3 10 (F_X9_ownedBy_37 (L_X9_ownedBy_4 n) x1 x3 (μ.1 12 x3.toNatClampNeg) x2 μ) else F_X9_ownedBy_37 (L_X9_ownedBy_4 n) x1 x3 0 x2 μ)) := rfl
set_option maxRecDepth 100000 in
set_option maxHeartbeats 4000000 in
theorem B_X9_ownedBy_4 : ∀ (n : Nat) (x1 : Int32) (x2 : Int32) (x3 : Int32) (μ : Mm) (q : (Int32 × Mm)), L_X9_ownedBy_4  n x1 x2 x3 μ = some q → G wM RX9 cX9_ownedBy 4 (some .int) 0 (some (.int q.1)) q.2 4 [(0, .ref 0), (1, .int x1), (2, .int x2), (3, .int x3)] [] μ := by
  intro n
  induction n with
  | zero =>
    intro x1 x2 x3 μ q  h
    cases h
  | succ n ih =>
    intro x1 x2 x3 μ q  h
    rw [L_X9_ownedBy_4_s] at h
    refine G_iload_n (pc := 4) 3 dX9_ownedBy_4 rfl ?_
    refine G_aload_n (pc := 5) 0 dX9_ownedBy_5 rfl ?_
    refine gwM_X9_128_0 (pc := 6) dX9_ownedBy_6 ?_
    refine G_icmp_ge (pc := 9) 45 dX9_ownedBy_9 (by decide) (fun c1 => ?_) (fun c1 => ?_)
    · replace h := itp c1 h
      refine G_iload_n (pc := 45) 2 dX9_ownedBy_45 rfl ?_
      obtain rfl := Option.some.inj h
      exact G_iret (pc := 46) rfl dX9_ownedBy_46
    · replace h := itn c1 h
      refine G_iload_n (pc := 12) 2 dX9_ownedBy_12 rfl ?_
      refine G_aload_n (pc := 13) 0 dX9_ownedBy_13 rfl ?_
      refine gwM_X9_28_0 (pc := 14) dX9_ownedBy_14 ?_
      refine G_iconst (pc := 17) (3) dX9_ownedBy_17 ci_3 ?_
      refine G_iload_n (pc := 18) 3 dX9_ownedBy_18 rfl ?_
      refine G_imul (pc := 19) dX9_ownedBy_19 ?_
      refine G_iconst (pc := 20) (2) dX9_ownedBy_20 ci_2 ?_
      refine G_iadd (pc := 21) dX9_ownedBy_21 ?_
      obtain ⟨g2, h⟩ := gi_some h
      refine alwM_7 (pc := 22) dX9_ownedBy_22 g2 ?_
      refine G_iload_n (pc := 23) 1 dX9_ownedBy_23 rfl ?_
      refine G_icmp_ne (pc := 24) 36 dX9_ownedBy_24 (by decide) (fun c3 => ?_) (fun c3 => ?_)
      · replace h := itn c3 h
        refine G_iconst (pc := 36) (0) dX9_ownedBy_36 ci_0 ?_
        refine G_loc [0, 1, 3] [(0, .ref _), (1, .int _), (3, .int _)] rfl ?_
        exact B_X9_ownedBy_37 _ ih _ _ _ _ _ _ h
      · replace h := itp c3 h
        refine G_aload_n (pc := 27) 0 dX9_ownedBy_27 rfl ?_
        refine gwM_X9_43_0 (pc := 28) dX9_ownedBy_28 ?_
        refine G_iload_n (pc := 31) 3 dX9_ownedBy_31 rfl ?_
        obtain ⟨g4, h⟩ := gi_some h
        refine alwM_12 (pc := 32) dX9_ownedBy_32 g4 ?_
        refine G_goto (pc := 33) 37 dX9_ownedBy_33 (by decide) ?_
        refine G_loc [0, 1, 3] [(0, .ref _), (1, .int _), (3, .int _)] rfl ?_
        exact B_X9_ownedBy_37 _ ih _ _ _ _ _ _ h
def F_X9_ownedBy (x1 : Int32) (μ : Mm) : Option (Int32 × Mm) := L_X9_ownedBy_4 FUEL x1 0 0 μ
set_option maxRecDepth 100000 in
set_option maxHeartbeats 4000000 in
theorem S_X9_ownedBy (x1 : Int32)  (μ : Mm) (q : (Int32 × Mm)) (h : F_X9_ownedBy x1 μ = some q) : Cn wM yX9_ownedBy cX9_ownedBy 4 (some .int) 0 [.ref 0, .int x1] μ (some (.int q.1)) q.2 := by
  refine Cn_of (by decide +kernel) (Nat.le_of_ble_eq_true rfl) ?_
  show G wM RX9 cX9_ownedBy 4 (some .int) 0 (some (.int q.1)) q.2 0 [(0, .ref 0), (1, .int x1)] [] μ
  unfold F_X9_ownedBy at h
  refine G_iconst (pc := 0) (0) dX9_ownedBy_0 ci_0 ?_
  refine G_istore_n (pc := 1) [(2, .int _), (0, .ref _), (1, .int _)] dX9_ownedBy_1 (Nat.le_of_ble_eq_true rfl) rfl ?_
  refine G_iconst (pc := 2) (0) dX9_ownedBy_2 ci_0 ?_
  refine G_istore_n (pc := 3) [(3, .int _), (2, .int _), (0, .ref _), (1, .int _)] dX9_ownedBy_3 (Nat.le_of_ble_eq_true rfl) rfl ?_
  refine G_loc [2, 3, 1, 0] [(0, .ref _), (1, .int _), (2, .int _), (3, .int _)] rfl ?_
  exact B_X9_ownedBy_4 _ _ _ _ _ _ h
def F_X9_owned (x1 : Int32) (μ : Mm) : Option (Int32 × Mm) := (F_X9_find μ).bind (fun q1 => (F_X9_in x1.toInt64 0 5 q1).bind (fun q2 => if q2.1 = 0 then some ((-2), q2.2) else (F_X9_ownedBy x1 q2.2).bind (fun q4 => some (q4.1, q4.2))))
set_option maxRecDepth 100000 in
set_option maxHeartbeats 4000000 in
theorem S_X9_owned (x1 : Int32)  (μ : Mm) (q : (Int32 × Mm)) (h : F_X9_owned x1 μ = some q) : Cn wM yX9_owned cX9_owned 2 (some .int) 6 [.ref 0, .int x1] μ (some (.int q.1)) q.2 := by
  refine Cn_of (by decide +kernel) (Nat.le_of_ble_eq_true rfl) ?_
  show G wM RX9 cX9_owned 2 (some .int) 6 (some (.int q.1)) q.2 0 [(0, .ref 0), (1, .int x1)] [] μ
  unfold F_X9_owned at h
  refine G_aload_n (pc := 0) 0 dX9_owned_0 rfl ?_
  obtain ⟨q1, e1, h⟩ := bnd_some h
  refine G_callV0v (pc := 1) 0 8 dX9_owned_1 wv_X9_220 cd_X9_find (S_X9_find _ _ e1) (by decide) (by decide) rfl (by decide) (fun _ _ => ⟨_, rfl⟩) (Nat.le_of_ble_eq_true rfl) ?_
  refine G_iload_n (pc := 4) 1 dX9_owned_4 rfl ?_
  refine G_i2l (pc := 5) dX9_owned_5 ?_
  refine G_lconst (pc := 6) (0) dX9_owned_6 lc_0 ?_
  refine G_ldc2 (pc := 7) (5) dX9_owned_7 kl_X9_234 ?_
  obtain ⟨q2, e2, h⟩ := bnd_some h
  refine G_callS3r (pc := 10) dX9_owned_10 ws_X9_92 cd_X9_in (S_X9_in _ _ _ _ _ e2) (by decide) (by decide) (Nat.le_of_ble_eq_true rfl) ?_
  refine G_if_eq (pc := 13) 24 dX9_owned_13 (by decide) (fun c3 => ?_) (fun c3 => ?_)
  · replace h := itp c3 h
    refine G_bipush (pc := 24) (-2) dX9_owned_24 bp_m2 ?_
    obtain rfl := Option.some.inj h
    exact G_iret (pc := 26) rfl dX9_owned_26
  · replace h := itn c3 h
    refine G_aload_n (pc := 16) 0 dX9_owned_16 rfl ?_
    refine G_iload_n (pc := 17) 1 dX9_owned_17 rfl ?_
    obtain ⟨q4, e4, h⟩ := bnd_some h
    refine G_callV1r (pc := 18) 0 8 dX9_owned_18 wv_X9_236 cd_X9_ownedBy (S_X9_ownedBy _ _ _ e4) (by decide) (by decide) rfl (by decide) (fun _ _ => ⟨_, rfl⟩) (Nat.le_of_ble_eq_true rfl) ?_
    refine G_goto (pc := 21) 26 dX9_owned_21 (by decide) ?_
    obtain rfl := Option.some.inj h
    exact G_iret (pc := 26) rfl dX9_owned_26
def F_X9_championNow_28 (K4 : Int32 → Int32 → Mm → Option (Int32 × Mm)) (x2 : Int32) (y0 : Int32) (μ : Mm) : Option (Int32 × Mm) := K4 y0 (x2 + 1) μ
set_option maxRecDepth 100000 in
set_option maxHeartbeats 4000000 in
theorem B_X9_championNow_28 (K4 : Int32 → Int32 → Mm → Option (Int32 × Mm)) (hK4 : ∀ (x1 : Int32) (x2 : Int32) (μ : Mm) (q : (Int32 × Mm)), K4 x1 x2 μ = some q → G wM RX9 cX9_championNow 3 (some .int) 1 (some (.int q.1)) q.2 4 [(0, .ref 0), (1, .int x1), (2, .int x2)] [] μ) (x2 : Int32) (y0 : Int32) (μ : Mm) (q : (Int32 × Mm))  (h : F_X9_championNow_28 K4 x2 y0 μ = some q) : G wM RX9 cX9_championNow 3 (some .int) 1 (some (.int q.1)) q.2 28 [(0, .ref 0), (2, .int x2)] [.int y0] μ := by
  unfold F_X9_championNow_28 at h
  refine G_istore_n (pc := 28) [(1, .int _), (0, .ref _), (2, .int _)] dX9_championNow_28 (Nat.le_of_ble_eq_true rfl) rfl ?_
  refine G_iinc (pc := 29) (1) 2 [(2, .int _), (1, .int _), (0, .ref _)] dX9_championNow_29 ci_1 rfl (Nat.le_of_ble_eq_true rfl) rfl ?_
  refine G_goto (pc := 32) 4 dX9_championNow_32 (by decide) ?_
  refine G_loc [2, 1, 0] [(0, .ref _), (1, .int _), (2, .int _)] rfl ?_
  exact hK4 _ _ _ _ h
def L_X9_championNow_4 : Nat → Int32 → Int32 → Mm → Option (Int32 × Mm)
  | 0, _, _, _ => none
  | n + 1, x1, x2, μ => if 6 ≤ x2 then some (x1, μ) else (F_X9_ownedBy x2 μ).bind (fun q2 => (F_X9_ownedBy x1 q2.2).bind (fun q3 => F_X9_championNow_28 (L_X9_championNow_4 n) x2 (if q2.1 ≤ q3.1 then x1 else x2) q3.2))
set_option maxRecDepth 100000 in
set_option maxHeartbeats 4000000 in
theorem L_X9_championNow_4_s (n : Nat) (x1 : Int32) (x2 : Int32) (μ : Mm) : L_X9_championNow_4  (n + 1) x1 x2 μ = (if 6 ≤ x2 then some (x1, μ) else (F_X9_ownedBy x2 μ).bind (fun q2 => (F_X9_ownedBy x1 q2.2).bind (fun q3 => F_X9_championNow_28 (L_X9_championNow_4 n) x2 (if q2.1 ≤ q3.1 then x1 else x2) q3.2))) := rfl
set_option maxRecDepth 100000 in
set_option maxHeartbeats 4000000 in
theorem B_X9_championNow_4 : ∀ (n : Nat) (x1 : Int32) (x2 : Int32) (μ : Mm) (q : (Int32 × Mm)), L_X9_championNow_4  n x1 x2 μ = some q → G wM RX9 cX9_championNow 3 (some .int) 1 (some (.int q.1)) q.2 4 [(0, .ref 0), (1, .int x1), (2, .int x2)] [] μ := by
  intro n
  induction n with
  | zero =>
    intro x1 x2 μ q  h
    cases h
  | succ n ih =>
    intro x1 x2 μ q  h
    rw [L_X9_championNow_4_s] at h
    refine G_iload_n (pc := 4) 2 dX9_championNow_4 rfl ?_
    refine G_bipush (pc := 5) (6) dX9_championNow_5 bp_6 ?_
    refine G_icmp_ge (pc := 7) 35 dX9_championNow_7 (by decide) (fun c1 => ?_) (fun c1 => ?_)
    · replace h := itp c1 h
      refine G_iload_n (pc := 35) 1 dX9_championNow_35 rfl ?_
      obtain rfl := Option.some.inj h
      exact G_iret (pc := 36) rfl dX9_championNow_36
    · replace h := itn c1 h
      refine G_aload_n (pc := 10) 0 dX9_championNow_10 rfl ?_
      refine G_iload_n (pc := 11) 2 dX9_championNow_11 rfl ?_
      obtain ⟨q2, e2, h⟩ := bnd_some h
      refine G_callV1r (pc := 12) 0 8 dX9_championNow_12 wv_X9_236 cd_X9_ownedBy (S_X9_ownedBy _ _ _ e2) (by decide) (by decide) rfl (by decide) (fun _ _ => ⟨_, rfl⟩) (Nat.le_of_ble_eq_true rfl) ?_
      refine G_aload_n (pc := 15) 0 dX9_championNow_15 rfl ?_
      refine G_iload_n (pc := 16) 1 dX9_championNow_16 rfl ?_
      obtain ⟨q3, e3, h⟩ := bnd_some h
      refine G_callV1r (pc := 17) 0 8 dX9_championNow_17 wv_X9_236 cd_X9_ownedBy (S_X9_ownedBy _ _ _ e3) (by decide) (by decide) rfl (by decide) (fun _ _ => ⟨_, rfl⟩) (Nat.le_of_ble_eq_true rfl) ?_
      refine G_icmp_le (pc := 20) 27 dX9_championNow_20 (by decide) (fun c4 => ?_) (fun c4 => ?_)
      · rw [if_pos c4] at h
        refine G_iload_n (pc := 27) 1 dX9_championNow_27 rfl ?_
        refine G_loc [0, 2] [(0, .ref _), (2, .int _)] rfl ?_
        exact B_X9_championNow_28 _ ih _ _ _ _ h
      · rw [if_neg c4] at h
        refine G_iload_n (pc := 23) 2 dX9_championNow_23 rfl ?_
        refine G_goto (pc := 24) 28 dX9_championNow_24 (by decide) ?_
        refine G_loc [0, 2] [(0, .ref _), (2, .int _)] rfl ?_
        exact B_X9_championNow_28 _ ih _ _ _ _ h
def F_X9_championNow  (μ : Mm) : Option (Int32 × Mm) := L_X9_championNow_4 FUEL 0 1 μ
set_option maxRecDepth 100000 in
set_option maxHeartbeats 4000000 in
theorem S_X9_championNow   (μ : Mm) (q : (Int32 × Mm)) (h : F_X9_championNow  μ = some q) : Cn wM yX9_championNow cX9_championNow 3 (some .int) 1 [.ref 0] μ (some (.int q.1)) q.2 := by
  refine Cn_of (by decide +kernel) (Nat.le_of_ble_eq_true rfl) ?_
  show G wM RX9 cX9_championNow 3 (some .int) 1 (some (.int q.1)) q.2 0 [(0, .ref 0)] [] μ
  unfold F_X9_championNow at h
  refine G_iconst (pc := 0) (0) dX9_championNow_0 ci_0 ?_
  refine G_istore_n (pc := 1) [(1, .int _), (0, .ref _)] dX9_championNow_1 (Nat.le_of_ble_eq_true rfl) rfl ?_
  refine G_iconst (pc := 2) (1) dX9_championNow_2 ci_1 ?_
  refine G_istore_n (pc := 3) [(2, .int _), (1, .int _), (0, .ref _)] dX9_championNow_3 (Nat.le_of_ble_eq_true rfl) rfl ?_
  refine G_loc [2, 1, 0] [(0, .ref _), (1, .int _), (2, .int _)] rfl ?_
  exact B_X9_championNow_4 _ _ _ _ _ h
def F_X9_champion  (μ : Mm) : Option (Int32 × Mm) := (F_X9_find μ).bind (fun q1 => (F_X9_championNow q1).bind (fun q2 => some (q2.1, q2.2)))
set_option maxRecDepth 100000 in
set_option maxHeartbeats 4000000 in
theorem S_X9_champion   (μ : Mm) (q : (Int32 × Mm)) (h : F_X9_champion  μ = some q) : Cn wM yX9_champion cX9_champion 1 (some .int) 6 [.ref 0] μ (some (.int q.1)) q.2 := by
  refine Cn_of (by decide +kernel) (Nat.le_of_ble_eq_true rfl) ?_
  show G wM RX9 cX9_champion 1 (some .int) 6 (some (.int q.1)) q.2 0 [(0, .ref 0)] [] μ
  unfold F_X9_champion at h
  refine G_aload_n (pc := 0) 0 dX9_champion_0 rfl ?_
  obtain ⟨q1, e1, h⟩ := bnd_some h
  refine G_callV0v (pc := 1) 0 8 dX9_champion_1 wv_X9_220 cd_X9_find (S_X9_find _ _ e1) (by decide) (by decide) rfl (by decide) (fun _ _ => ⟨_, rfl⟩) (Nat.le_of_ble_eq_true rfl) ?_
  refine G_aload_n (pc := 4) 0 dX9_champion_4 rfl ?_
  obtain ⟨q2, e2, h⟩ := bnd_some h
  refine G_callV0r (pc := 5) 0 8 dX9_champion_5 wv_X9_239 cd_X9_championNow (S_X9_championNow _ _ e2) (by decide) (by decide) rfl (by decide) (fun _ _ => ⟨_, rfl⟩) (Nat.le_of_ble_eq_true rfl) ?_
  obtain rfl := Option.some.inj h
  exact G_iret (pc := 8) rfl dX9_champion_8
def F_X9_bestNow_37 (K4 : Int32 → Int32 → Mm → Option (Int32 × Mm)) (x2 : Int32) (y0 : Int32) (μ : Mm) : Option (Int32 × Mm) := K4 y0 (x2 + 1) μ
set_option maxRecDepth 100000 in
set_option maxHeartbeats 4000000 in
theorem B_X9_bestNow_37 (K4 : Int32 → Int32 → Mm → Option (Int32 × Mm)) (hK4 : ∀ (x1 : Int32) (x2 : Int32) (μ : Mm) (q : (Int32 × Mm)), K4 x1 x2 μ = some q → G wM RX9 cX9_bestNow 3 (some .int) 0 (some (.int q.1)) q.2 4 [(0, .ref 0), (1, .int x1), (2, .int x2)] [] μ) (x2 : Int32) (y0 : Int32) (μ : Mm) (q : (Int32 × Mm))  (h : F_X9_bestNow_37 K4 x2 y0 μ = some q) : G wM RX9 cX9_bestNow 3 (some .int) 0 (some (.int q.1)) q.2 37 [(0, .ref 0), (2, .int x2)] [.int y0] μ := by
  unfold F_X9_bestNow_37 at h
  refine G_istore_n (pc := 37) [(1, .int _), (0, .ref _), (2, .int _)] dX9_bestNow_37 (Nat.le_of_ble_eq_true rfl) rfl ?_
  refine G_iinc (pc := 38) (1) 2 [(2, .int _), (1, .int _), (0, .ref _)] dX9_bestNow_38 ci_1 rfl (Nat.le_of_ble_eq_true rfl) rfl ?_
  refine G_goto (pc := 41) 4 dX9_bestNow_41 (by decide) ?_
  refine G_loc [2, 1, 0] [(0, .ref _), (1, .int _), (2, .int _)] rfl ?_
  exact hK4 _ _ _ _ h
def F_X9_bestNow_32 (K4 : Int32 → Int32 → Mm → Option (Int32 × Mm)) (x2 : Int32) (μ : Mm) : Option (Int32 × Mm) := F_X9_bestNow_37 K4 x2 x2 μ
set_option maxRecDepth 100000 in
set_option maxHeartbeats 4000000 in
theorem B_X9_bestNow_32 (K4 : Int32 → Int32 → Mm → Option (Int32 × Mm)) (hK4 : ∀ (x1 : Int32) (x2 : Int32) (μ : Mm) (q : (Int32 × Mm)), K4 x1 x2 μ = some q → G wM RX9 cX9_bestNow 3 (some .int) 0 (some (.int q.1)) q.2 4 [(0, .ref 0), (1, .int x1), (2, .int x2)] [] μ) (x2 : Int32) (μ : Mm) (q : (Int32 × Mm))  (h : F_X9_bestNow_32 K4 x2 μ = some q) : G wM RX9 cX9_bestNow 3 (some .int) 0 (some (.int q.1)) q.2 32 [(0, .ref 0), (2, .int x2)] [] μ := by
  unfold F_X9_bestNow_32 at h
  refine G_iload_n (pc := 32) 1 dX9_bestNow_32 rfl ?_
  refine G_goto (pc := 33) 37 dX9_bestNow_33 (by decide) ?_
  exact B_X9_bestNow_37 _ hK4 _ _ _ _ h
def L_X9_bestNow_4 : Nat → Int32 → Int32 → Mm → Option (Int32 × Mm)
  | 0, _, _, _ => none
  | n + 1, x1, x2, μ => if (μ.1 0 7) ≤ x2 then some (x1, μ) else if x1 = (-1) then F_X9_bestNow_32 (L_X9_bestNow_4 n) x2 μ else gi x2 10 (gi x1 10 (if (μ.1 12 x2.toNatClampNeg) ≤ (μ.1 12 x1.toNatClampNeg) then F_X9_bestNow_37 (L_X9_bestNow_4 n) x2 x1 μ else F_X9_bestNow_32 (L_X9_bestNow_4 n) x2 μ))
set_option maxRecDepth 100000 in
set_option maxHeartbeats 4000000 in
theorem L_X9_bestNow_4_s (n : Nat) (x1 : Int32) (x2 : Int32) (μ : Mm) : L_X9_bestNow_4  (n + 1) x1 x2 μ = (if (μ.1 0 7) ≤ x2 then some (x1, μ) else if x1 = (-1) then F_X9_bestNow_32 (L_X9_bestNow_4 n) x2 μ else gi x2 10 (gi x1 10 (if (μ.1 12 x2.toNatClampNeg) ≤ (μ.1 12 x1.toNatClampNeg) then F_X9_bestNow_37 (L_X9_bestNow_4 n) x2 x1 μ else F_X9_bestNow_32 (L_X9_bestNow_4 n) x2 μ))) := rfl
set_option maxRecDepth 100000 in
set_option maxHeartbeats 4000000 in
theorem B_X9_bestNow_4 : ∀ (n : Nat) (x1 : Int32) (x2 : Int32) (μ : Mm) (q : (Int32 × Mm)), L_X9_bestNow_4  n x1 x2 μ = some q → G wM RX9 cX9_bestNow 3 (some .int) 0 (some (.int q.1)) q.2 4 [(0, .ref 0), (1, .int x1), (2, .int x2)] [] μ := by
  intro n
  induction n with
  | zero =>
    intro x1 x2 μ q  h
    cases h
  | succ n ih =>
    intro x1 x2 μ q  h
    rw [L_X9_bestNow_4_s] at h
    refine G_iload_n (pc := 4) 2 dX9_bestNow_4 rfl ?_
    refine G_aload_n (pc := 5) 0 dX9_bestNow_5 rfl ?_
    refine gwM_X9_128_0 (pc := 6) dX9_bestNow_6 ?_
    refine G_icmp_ge (pc := 9) 44 dX9_bestNow_9 (by decide) (fun c1 => ?_) (fun c1 => ?_)
    · replace h := itp c1 h
      refine G_iload_n (pc := 44) 1 dX9_bestNow_44 rfl ?_
      obtain rfl := Option.some.inj h
      exact G_iret (pc := 45) rfl dX9_bestNow_45
    · replace h := itn c1 h
      refine G_iload_n (pc := 12) 1 dX9_bestNow_12 rfl ?_
      refine G_iconst (pc := 13) (-1) dX9_bestNow_13 ci_m1 ?_
      refine G_icmp_eq (pc := 14) 32 dX9_bestNow_14 (by decide) (fun c2 => ?_) (fun c2 => ?_)
      · replace h := itp c2 h
        refine G_loc [0, 2] [(0, .ref _), (2, .int _)] rfl ?_
        exact B_X9_bestNow_32 _ ih _ _ _ h
      · replace h := itn c2 h
        refine G_aload_n (pc := 17) 0 dX9_bestNow_17 rfl ?_
        refine gwM_X9_43_0 (pc := 18) dX9_bestNow_18 ?_
        refine G_iload_n (pc := 21) 2 dX9_bestNow_21 rfl ?_
        obtain ⟨g3, h⟩ := gi_some h
        refine alwM_12 (pc := 22) dX9_bestNow_22 g3 ?_
        refine G_aload_n (pc := 23) 0 dX9_bestNow_23 rfl ?_
        refine gwM_X9_43_0 (pc := 24) dX9_bestNow_24 ?_
        refine G_iload_n (pc := 27) 1 dX9_bestNow_27 rfl ?_
        obtain ⟨g4, h⟩ := gi_some h
        refine alwM_12 (pc := 28) dX9_bestNow_28 g4 ?_
        refine G_icmp_le (pc := 29) 36 dX9_bestNow_29 (by decide) (fun c5 => ?_) (fun c5 => ?_)
        · replace h := itp c5 h
          refine G_iload_n (pc := 36) 1 dX9_bestNow_36 rfl ?_
          refine G_loc [0, 2] [(0, .ref _), (2, .int _)] rfl ?_
          exact B_X9_bestNow_37 _ ih _ _ _ _ h
        · replace h := itn c5 h
          refine G_loc [0, 2] [(0, .ref _), (2, .int _)] rfl ?_
          exact B_X9_bestNow_32 _ ih _ _ _ h
def F_X9_bestNow  (μ : Mm) : Option (Int32 × Mm) := L_X9_bestNow_4 FUEL (-1) 0 μ
set_option maxRecDepth 100000 in
set_option maxHeartbeats 4000000 in
theorem S_X9_bestNow   (μ : Mm) (q : (Int32 × Mm)) (h : F_X9_bestNow  μ = some q) : Cn wM yX9_bestNow cX9_bestNow 3 (some .int) 0 [.ref 0] μ (some (.int q.1)) q.2 := by
  refine Cn_of (by decide +kernel) (Nat.le_of_ble_eq_true rfl) ?_
  show G wM RX9 cX9_bestNow 3 (some .int) 0 (some (.int q.1)) q.2 0 [(0, .ref 0)] [] μ
  unfold F_X9_bestNow at h
  refine G_iconst (pc := 0) (-1) dX9_bestNow_0 ci_m1 ?_
  refine G_istore_n (pc := 1) [(1, .int _), (0, .ref _)] dX9_bestNow_1 (Nat.le_of_ble_eq_true rfl) rfl ?_
  refine G_iconst (pc := 2) (0) dX9_bestNow_2 ci_0 ?_
  refine G_istore_n (pc := 3) [(2, .int _), (1, .int _), (0, .ref _)] dX9_bestNow_3 (Nat.le_of_ble_eq_true rfl) rfl ?_
  refine G_loc [2, 1, 0] [(0, .ref _), (1, .int _), (2, .int _)] rfl ?_
  exact B_X9_bestNow_4 _ _ _ _ _ h
def F_X9_best  (μ : Mm) : Option (Int32 × Mm) := (F_X9_find μ).bind (fun q1 => (F_X9_bestNow q1).bind (fun q2 => some (q2.1, q2.2)))
set_option maxRecDepth 100000 in
set_option maxHeartbeats 4000000 in
theorem S_X9_best   (μ : Mm) (q : (Int32 × Mm)) (h : F_X9_best  μ = some q) : Cn wM yX9_best cX9_best 1 (some .int) 6 [.ref 0] μ (some (.int q.1)) q.2 := by
  refine Cn_of (by decide +kernel) (Nat.le_of_ble_eq_true rfl) ?_
  show G wM RX9 cX9_best 1 (some .int) 6 (some (.int q.1)) q.2 0 [(0, .ref 0)] [] μ
  unfold F_X9_best at h
  refine G_aload_n (pc := 0) 0 dX9_best_0 rfl ?_
  obtain ⟨q1, e1, h⟩ := bnd_some h
  refine G_callV0v (pc := 1) 0 8 dX9_best_1 wv_X9_220 cd_X9_find (S_X9_find _ _ e1) (by decide) (by decide) rfl (by decide) (fun _ _ => ⟨_, rfl⟩) (Nat.le_of_ble_eq_true rfl) ?_
  refine G_aload_n (pc := 4) 0 dX9_best_4 rfl ?_
  obtain ⟨q2, e2, h⟩ := bnd_some h
  refine G_callV0r (pc := 5) 0 8 dX9_best_5 wv_X9_242 cd_X9_bestNow (S_X9_bestNow _ _ e2) (by decide) (by decide) rfl (by decide) (fun _ _ => ⟨_, rfl⟩) (Nat.le_of_ble_eq_true rfl) ?_
  obtain rfl := Option.some.inj h
  exact G_iret (pc := 8) rfl dX9_best_8
def F_X9_leftBy_56 (K4 : Int32 → Int32 → Int32 → Mm → Option (Int32 × Mm)) (x1 : Int32) (x3 : Int32) (y0 : Int32) (y1 : Int32) (μ : Mm) : Option (Int32 × Mm) := K4 x1 (y1 ||| y0) (x3 + 1) μ
set_option maxRecDepth 100000 in
set_option maxHeartbeats 4000000 in
theorem B_X9_leftBy_56 (K4 : Int32 → Int32 → Int32 → Mm → Option (Int32 × Mm)) (hK4 : ∀ (x1 : Int32) (x2 : Int32) (x3 : Int32) (μ : Mm) (q : (Int32 × Mm)), K4 x1 x2 x3 μ = some q → G wM RX9 cX9_leftBy 5 (some .int) 1 (some (.int q.1)) q.2 4 [(0, .ref 0), (1, .int x1), (2, .int x2), (3, .int x3)] [] μ) (x1 : Int32) (x3 : Int32) (y0 : Int32) (y1 : Int32) (μ : Mm) (q : (Int32 × Mm))  (h : F_X9_leftBy_56 K4 x1 x3 y0 y1 μ = some q) : G wM RX9 cX9_leftBy 5 (some .int) 1 (some (.int q.1)) q.2 56 [(0, .ref 0), (1, .int x1), (3, .int x3)] [.int y0, .int y1] μ := by
  unfold F_X9_leftBy_56 at h
  refine G_ior (pc := 56) dX9_leftBy_56 ?_
  refine G_istore_n (pc := 57) [(2, .int _), (0, .ref _), (1, .int _), (3, .int _)] dX9_leftBy_57 (Nat.le_of_ble_eq_true rfl) rfl ?_
  refine G_iinc (pc := 58) (1) 3 [(3, .int _), (2, .int _), (0, .ref _), (1, .int _)] dX9_leftBy_58 ci_1 rfl (Nat.le_of_ble_eq_true rfl) rfl ?_
  refine G_goto (pc := 61) 4 dX9_leftBy_61 (by decide) ?_
  refine G_loc [2, 3, 1, 0] [(0, .ref _), (1, .int _), (2, .int _), (3, .int _)] rfl ?_
  exact hK4 _ _ _ _ _ h
def F_X9_leftBy_41 (K4 : Int32 → Int32 → Int32 → Mm → Option (Int32 × Mm)) (x1 : Int32) (x2 : Int32) (x3 : Int32) (y0 : Int32) (μ : Mm) : Option (Int32 × Mm) := F_X9_leftBy_56 K4 x1 x3 (if y0 = 0 then 0 else (1 <<< (x3 &&& 31))) x2 μ
set_option maxRecDepth 100000 in
set_option maxHeartbeats 4000000 in
theorem B_X9_leftBy_41 (K4 : Int32 → Int32 → Int32 → Mm → Option (Int32 × Mm)) (hK4 : ∀ (x1 : Int32) (x2 : Int32) (x3 : Int32) (μ : Mm) (q : (Int32 × Mm)), K4 x1 x2 x3 μ = some q → G wM RX9 cX9_leftBy 5 (some .int) 1 (some (.int q.1)) q.2 4 [(0, .ref 0), (1, .int x1), (2, .int x2), (3, .int x3)] [] μ) (x1 : Int32) (x2 : Int32) (x3 : Int32) (y0 : Int32) (μ : Mm) (q : (Int32 × Mm))  (h : F_X9_leftBy_41 K4 x1 x2 x3 y0 μ = some q) : G wM RX9 cX9_leftBy 5 (some .int) 1 (some (.int q.1)) q.2 41 [(0, .ref 0), (1, .int x1), (2, .int x2), (3, .int x3)] [.int y0] μ := by
  unfold F_X9_leftBy_41 at h
  refine G_istore (pc := 41) [(4, .int _), (0, .ref _), (1, .int _), (2, .int _), (3, .int _)] dX9_leftBy_41 (Nat.le_of_ble_eq_true rfl) rfl ?_
  refine G_iload_n (pc := 43) 3 dX9_leftBy_43 rfl ?_
  refine G_iload (pc := 44) 0 dX9_leftBy_44 rfl ?_
  refine G_if_eq (pc := 46) 55 dX9_leftBy_46 (by decide) (fun c5 => ?_) (fun c5 => ?_)
  · rw [if_pos c5] at h
    refine G_iconst (pc := 55) (0) dX9_leftBy_55 ci_0 ?_
    refine G_loc [1, 2, 4] [(0, .ref _), (1, .int _), (3, .int _)] rfl ?_
    exact B_X9_leftBy_56 _ hK4 _ _ _ _ _ _ h
  · rw [if_neg c5] at h
    refine G_iconst (pc := 49) (1) dX9_leftBy_49 ci_1 ?_
    refine G_iload_n (pc := 50) 4 dX9_leftBy_50 rfl ?_
    refine G_ishl (pc := 51) dX9_leftBy_51 ?_
    refine G_goto (pc := 52) 56 dX9_leftBy_52 (by decide) ?_
    refine G_loc [1, 2, 4] [(0, .ref _), (1, .int _), (3, .int _)] rfl ?_
    exact B_X9_leftBy_56 _ hK4 _ _ _ _ _ _ h
def L_X9_leftBy_4 : Nat → Int32 → Int32 → Int32 → Mm → Option (Int32 × Mm)
  | 0, _, _, _, _ => none
  | n + 1, x1, x2, x3, μ => if (μ.1 0 7) ≤ x3 then some (x2, μ) else if x1 = 0 then gi x3 10 (F_X9_leftBy_41 (L_X9_leftBy_4 n) x1 x2 x3 (μ.1 14 x3.toNatClampNeg) μ) else (F_X9_isIn (μ.1 0 26) x3 μ).bind (fun q3 => F_X9_leftBy_41 (L_X9_leftBy_4 n) x1 x2 x3 (if q3.1 = 0 then 1 else 0) q3.2)
set_option maxRecDepth 100000 in
set_option maxHeartbeats 4000000 in
theorem L_X9_leftBy_4_s (n : Nat) (x1 : Int32) (x2 : Int32) (x3 : Int32) (μ : Mm) : L_X9_leftBy_4  (n + 1) x1 x2 x3 μ = (if (μ.1 0 7) ≤ x3 then some (x2, μ) else if x1 = 0 then gi x3 10 (F_X9_leftBy_41 (L_X9_leftBy_4 n) x1 x2 x3 (μ.1 14 x3.toNatClampNeg) μ) else (F_X9_isIn (μ.1 0 26) x3 μ).bind (fun q3 => F_X9_leftBy_41 (L_X9_leftBy_4 n) x1 x2 x3 (if q3.1 = 0 then 1 else 0) q3.2)) := rfl
set_option maxRecDepth 100000 in
set_option maxHeartbeats 4000000 in
theorem B_X9_leftBy_4 : ∀ (n : Nat) (x1 : Int32) (x2 : Int32) (x3 : Int32) (μ : Mm) (q : (Int32 × Mm)), L_X9_leftBy_4  n x1 x2 x3 μ = some q → G wM RX9 cX9_leftBy 5 (some .int) 1 (some (.int q.1)) q.2 4 [(0, .ref 0), (1, .int x1), (2, .int x2), (3, .int x3)] [] μ := by
  intro n
  induction n with
  | zero =>
    intro x1 x2 x3 μ q  h
    cases h
  | succ n ih =>
    intro x1 x2 x3 μ q  h
    rw [L_X9_leftBy_4_s] at h
    refine G_iload_n (pc := 4) 3 dX9_leftBy_4 rfl ?_
    refine G_aload_n (pc := 5) 0 dX9_leftBy_5 rfl ?_
    refine gwM_X9_128_0 (pc := 6) dX9_leftBy_6 ?_
    refine G_icmp_ge (pc := 9) 64 dX9_leftBy_9 (by decide) (fun c1 => ?_) (fun c1 => ?_)
    · replace h := itp c1 h
      refine G_iload_n (pc := 64) 2 dX9_leftBy_64 rfl ?_
      obtain rfl := Option.some.inj h
      exact G_iret (pc := 65) rfl dX9_leftBy_65
    · replace h := itn c1 h
      refine G_iload_n (pc := 12) 1 dX9_leftBy_12 rfl ?_
      refine G_if_ne (pc := 13) 25 dX9_leftBy_13 (by decide) (fun c2 => ?_) (fun c2 => ?_)
      · replace h := itn c2 h
        refine G_aload_n (pc := 25) 0 dX9_leftBy_25 rfl ?_
        refine gwM_X9_194_0 (pc := 26) dX9_leftBy_26 ?_
        refine G_iload_n (pc := 29) 3 dX9_leftBy_29 rfl ?_
        obtain ⟨q3, e3, h⟩ := bnd_some h
        refine G_callS2r (pc := 30) dX9_leftBy_30 ws_X9_187 cd_X9_isIn (S_X9_isIn _ _ _ _ e3) (by decide) (by decide) (Nat.le_of_ble_eq_true rfl) ?_
        refine G_if_ne (pc := 33) 40 dX9_leftBy_33 (by decide) (fun c4 => ?_) (fun c4 => ?_)
        · rw [if_neg c4] at h
          refine G_iconst (pc := 40) (0) dX9_leftBy_40 ci_0 ?_
          exact B_X9_leftBy_41 _ ih _ _ _ _ _ _ h
        · rw [if_pos c4] at h
          refine G_iconst (pc := 36) (1) dX9_leftBy_36 ci_1 ?_
          refine G_goto (pc := 37) 41 dX9_leftBy_37 (by decide) ?_
          exact B_X9_leftBy_41 _ ih _ _ _ _ _ _ h
      · replace h := itp c2 h
        refine G_aload_n (pc := 16) 0 dX9_leftBy_16 rfl ?_
        refine gwM_X9_49_0 (pc := 17) dX9_leftBy_17 ?_
        refine G_iload_n (pc := 20) 3 dX9_leftBy_20 rfl ?_
        obtain ⟨g6, h⟩ := gi_some h
        refine alwM_14 (pc := 21) dX9_leftBy_21 g6 ?_
        refine G_goto (pc := 22) 41 dX9_leftBy_22 (by decide) ?_
        exact B_X9_leftBy_41 _ ih _ _ _ _ _ _ h
def F_X9_leftBy (x1 : Int32) (μ : Mm) : Option (Int32 × Mm) := L_X9_leftBy_4 FUEL x1 0 0 μ
set_option maxRecDepth 100000 in
set_option maxHeartbeats 4000000 in
theorem S_X9_leftBy (x1 : Int32)  (μ : Mm) (q : (Int32 × Mm)) (h : F_X9_leftBy x1 μ = some q) : Cn wM yX9_leftBy cX9_leftBy 5 (some .int) 1 [.ref 0, .int x1] μ (some (.int q.1)) q.2 := by
  refine Cn_of (by decide +kernel) (Nat.le_of_ble_eq_true rfl) ?_
  show G wM RX9 cX9_leftBy 5 (some .int) 1 (some (.int q.1)) q.2 0 [(0, .ref 0), (1, .int x1)] [] μ
  unfold F_X9_leftBy at h
  refine G_iconst (pc := 0) (0) dX9_leftBy_0 ci_0 ?_
  refine G_istore_n (pc := 1) [(2, .int _), (0, .ref _), (1, .int _)] dX9_leftBy_1 (Nat.le_of_ble_eq_true rfl) rfl ?_
  refine G_iconst (pc := 2) (0) dX9_leftBy_2 ci_0 ?_
  refine G_istore_n (pc := 3) [(3, .int _), (2, .int _), (0, .ref _), (1, .int _)] dX9_leftBy_3 (Nat.le_of_ble_eq_true rfl) rfl ?_
  refine G_loc [2, 3, 1, 0] [(0, .ref _), (1, .int _), (2, .int _), (3, .int _)] rfl ?_
  exact B_X9_leftBy_4 _ _ _ _ _ _ h
def F_X9_left (x1 : Int32) (μ : Mm) : Option (Int32 × Mm) := (F_X9_find μ).bind (fun q1 => (F_X9_isTwo x1 q1).bind (fun q2 => if q2.1 = 0 then some ((-2), q2.2) else (F_X9_leftBy x1 q2.2).bind (fun q4 => some (q4.1, q4.2))))
set_option maxRecDepth 100000 in
set_option maxHeartbeats 4000000 in
theorem S_X9_left (x1 : Int32)  (μ : Mm) (q : (Int32 × Mm)) (h : F_X9_left x1 μ = some q) : Cn wM yX9_left cX9_left 2 (some .int) 6 [.ref 0, .int x1] μ (some (.int q.1)) q.2 := by
  refine Cn_of (by decide +kernel) (Nat.le_of_ble_eq_true rfl) ?_
  show G wM RX9 cX9_left 2 (some .int) 6 (some (.int q.1)) q.2 0 [(0, .ref 0), (1, .int x1)] [] μ
  unfold F_X9_left at h
  refine G_aload_n (pc := 0) 0 dX9_left_0 rfl ?_
  obtain ⟨q1, e1, h⟩ := bnd_some h
  refine G_callV0v (pc := 1) 0 8 dX9_left_1 wv_X9_220 cd_X9_find (S_X9_find _ _ e1) (by decide) (by decide) rfl (by decide) (fun _ _ => ⟨_, rfl⟩) (Nat.le_of_ble_eq_true rfl) ?_
  refine G_iload_n (pc := 4) 1 dX9_left_4 rfl ?_
  obtain ⟨q2, e2, h⟩ := bnd_some h
  refine G_callS1r (pc := 5) dX9_left_5 ws_X9_228 cd_X9_isTwo (S_X9_isTwo _ _ _ e2) (by decide) (by decide) (Nat.le_of_ble_eq_true rfl) ?_
  refine G_if_eq (pc := 8) 19 dX9_left_8 (by decide) (fun c3 => ?_) (fun c3 => ?_)
  · replace h := itp c3 h
    refine G_bipush (pc := 19) (-2) dX9_left_19 bp_m2 ?_
    obtain rfl := Option.some.inj h
    exact G_iret (pc := 21) rfl dX9_left_21
  · replace h := itn c3 h
    refine G_aload_n (pc := 11) 0 dX9_left_11 rfl ?_
    refine G_iload_n (pc := 12) 1 dX9_left_12 rfl ?_
    obtain ⟨q4, e4, h⟩ := bnd_some h
    refine G_callV1r (pc := 13) 0 8 dX9_left_13 wv_X9_245 cd_X9_leftBy (S_X9_leftBy _ _ _ e4) (by decide) (by decide) rfl (by decide) (fun _ _ => ⟨_, rfl⟩) (Nat.le_of_ble_eq_true rfl) ?_
    refine G_goto (pc := 16) 21 dX9_left_16 (by decide) ?_
    obtain rfl := Option.some.inj h
    exact G_iret (pc := 21) rfl dX9_left_21
def F_X9_brushOf_47 (K13 : Int32 → Int32 → Int32 → Int32 → Int32 → Mm → Option (Int32 × Mm)) (x1 : Int32) (x2 : Int32) (x4 : Int32) (x5 : Int32) (y0 : Int32) (μ : Mm) : Option (Int32 × Mm) := gi x1 10 ((F_X9_greater (μ.1 12 x1.toNatClampNeg) x4 μ).bind (fun q7 => K13 x1 x2 y0 q7.1 (x5 + 1) q7.2))
set_option maxRecDepth 100000 in
set_option maxHeartbeats 4000000 in
theorem B_X9_brushOf_47 (K13 : Int32 → Int32 → Int32 → Int32 → Int32 → Mm → Option (Int32 × Mm)) (hK13 : ∀ (x1 : Int32) (x2 : Int32) (x3 : Int32) (x4 : Int32) (x5 : Int32) (μ : Mm) (q : (Int32 × Mm)), K13 x1 x2 x3 x4 x5 μ = some q → G wM RX9 cX9_brushOf 6 (some .int) 5 (some (.int q.1)) q.2 13 [(0, .ref 0), (1, .int x1), (2, .int x2), (3, .int x3), (4, .int x4), (5, .int x5)] [] μ) (x1 : Int32) (x2 : Int32) (x4 : Int32) (x5 : Int32) (y0 : Int32) (μ : Mm) (q : (Int32 × Mm))  (h : F_X9_brushOf_47 K13 x1 x2 x4 x5 y0 μ = some q) : G wM RX9 cX9_brushOf 6 (some .int) 5 (some (.int q.1)) q.2 47 [(0, .ref 0), (1, .int x1), (2, .int x2), (4, .int x4), (5, .int x5)] [.int y0] μ := by
  unfold F_X9_brushOf_47 at h
  refine G_istore_n (pc := 47) [(3, .int _), (0, .ref _), (1, .int _), (2, .int _), (4, .int _), (5, .int _)] dX9_brushOf_47 (Nat.le_of_ble_eq_true rfl) rfl ?_
  refine G_aload_n (pc := 48) 1 dX9_brushOf_48 rfl ?_
  refine gwM_X9_43_0 (pc := 49) dX9_brushOf_49 ?_
  refine G_iload_n (pc := 52) 2 dX9_brushOf_52 rfl ?_
  obtain ⟨g6, h⟩ := gi_some h
  refine alwM_12 (pc := 53) dX9_brushOf_53 g6 ?_
  refine G_iload (pc := 54) 4 dX9_brushOf_54 rfl ?_
  obtain ⟨q7, e7, h⟩ := bnd_some h
  refine G_callS2r (pc := 56) dX9_brushOf_56 ws_X9_181 cd_X9_greater (S_X9_greater _ _ _ _ e7) (by decide) (by decide) (Nat.le_of_ble_eq_true rfl) ?_
  refine G_istore (pc := 59) [(4, .int _), (3, .int _), (0, .ref _), (1, .int _), (2, .int _), (5, .int _)] dX9_brushOf_59 (Nat.le_of_ble_eq_true rfl) rfl ?_
  refine G_iinc (pc := 61) (1) 5 [(5, .int _), (4, .int _), (3, .int _), (0, .ref _), (1, .int _), (2, .int _)] dX9_brushOf_61 ci_1 rfl (Nat.le_of_ble_eq_true rfl) rfl ?_
  refine G_goto (pc := 64) 13 dX9_brushOf_64 (by decide) ?_
  refine G_loc [3, 4, 5, 2, 1, 0] [(0, .ref _), (1, .int _), (2, .int _), (3, .int _), (4, .int _), (5, .int _)] rfl ?_
  exact hK13 _ _ _ _ _ _ _ h
def L_X9_brushOf_13 : Nat → Int32 → Int32 → Int32 → Int32 → Int32 → Mm → Option (Int32 × Mm)
  | 0, _, _, _, _, _, _ => none
  | n + 1, x1, x2, x3, x4, x5, μ => if 12 ≤ x5 then some ((if x2 = 0 then x3 else x4), (wI μ 0 16 (-1))) else (F_X9_lives (wI μ 0 16 x5)).bind (fun q3 => gi x1 10 (F_X9_brushOf_47 (L_X9_brushOf_13 n) x1 x2 x4 x5 (if (q3.1 12 x1.toNatClampNeg) ≤ x4 then x3 else x5) q3))
set_option maxRecDepth 100000 in
set_option maxHeartbeats 4000000 in
theorem L_X9_brushOf_13_s (n : Nat) (x1 : Int32) (x2 : Int32) (x3 : Int32) (x4 : Int32) (x5 : Int32) (μ : Mm) : L_X9_brushOf_13  (n + 1) x1 x2 x3 x4 x5 μ = (if 12 ≤ x5 then some ((if x2 = 0 then x3 else x4), (wI μ 0 16 (-1))) else (F_X9_lives (wI μ 0 16 x5)).bind (fun q3 => gi x1 10 (F_X9_brushOf_47 (L_X9_brushOf_13 n) x1 x2 x4 x5 (if (q3.1 12 x1.toNatClampNeg) ≤ x4 then x3 else x5) q3))) := rfl
set_option maxRecDepth 100000 in
set_option maxHeartbeats 4000000 in
theorem B_X9_brushOf_13 : ∀ (n : Nat) (x1 : Int32) (x2 : Int32) (x3 : Int32) (x4 : Int32) (x5 : Int32) (μ : Mm) (q : (Int32 × Mm)), L_X9_brushOf_13  n x1 x2 x3 x4 x5 μ = some q → G wM RX9 cX9_brushOf 6 (some .int) 5 (some (.int q.1)) q.2 13 [(0, .ref 0), (1, .int x1), (2, .int x2), (3, .int x3), (4, .int x4), (5, .int x5)] [] μ := by
  intro n
  induction n with
  | zero =>
    intro x1 x2 x3 x4 x5 μ q  h
    cases h
  | succ n ih =>
    intro x1 x2 x3 x4 x5 μ q  h
    rw [L_X9_brushOf_13_s] at h
    refine G_iload (pc := 13) 5 dX9_brushOf_13 rfl ?_
    refine G_bipush (pc := 15) (12) dX9_brushOf_15 bp_12 ?_
    refine G_icmp_ge (pc := 17) 67 dX9_brushOf_17 (by decide) (fun c1 => ?_) (fun c1 => ?_)
    · replace h := itp c1 h
      refine G_aload_n (pc := 67) 0 dX9_brushOf_67 rfl ?_
      refine G_iconst (pc := 68) (-1) dX9_brushOf_68 ci_m1 ?_
      refine pwM_X9_83_0 (pc := 69) dX9_brushOf_69 ?_
      refine G_iload_n (pc := 72) 2 dX9_brushOf_72 rfl ?_
      refine G_if_ne (pc := 73) 80 dX9_brushOf_73 (by decide) (fun c2 => ?_) (fun c2 => ?_)
      · rw [if_neg c2] at h
        refine G_iload (pc := 80) 4 dX9_brushOf_80 rfl ?_
        obtain rfl := Option.some.inj h
        exact G_iret (pc := 82) rfl dX9_brushOf_82
      · rw [if_pos c2] at h
        refine G_iload_n (pc := 76) 3 dX9_brushOf_76 rfl ?_
        refine G_goto (pc := 77) 82 dX9_brushOf_77 (by decide) ?_
        obtain rfl := Option.some.inj h
        exact G_iret (pc := 82) rfl dX9_brushOf_82
    · replace h := itn c1 h
      refine G_aload_n (pc := 20) 0 dX9_brushOf_20 rfl ?_
      refine G_iload (pc := 21) 5 dX9_brushOf_21 rfl ?_
      refine pwM_X9_83_0 (pc := 23) dX9_brushOf_23 ?_
      refine G_aload_n (pc := 26) 0 dX9_brushOf_26 rfl ?_
      obtain ⟨q3, e3, h⟩ := bnd_some h
      refine G_callV0v (pc := 27) 0 8 dX9_brushOf_27 wv_X9_217 cd_X9_lives (S_X9_lives _ _ e3) (by decide) (by decide) rfl (by decide) (fun _ _ => ⟨_, rfl⟩) (Nat.le_of_ble_eq_true rfl) ?_
      refine G_aload_n (pc := 30) 0 dX9_brushOf_30 rfl ?_
      refine gwM_X9_43_0 (pc := 31) dX9_brushOf_31 ?_
      refine G_iload_n (pc := 34) 1 dX9_brushOf_34 rfl ?_
      obtain ⟨g4, h⟩ := gi_some h
      refine alwM_12 (pc := 35) dX9_brushOf_35 g4 ?_
      refine G_iload (pc := 36) 4 dX9_brushOf_36 rfl ?_
      refine G_icmp_le (pc := 38) 46 dX9_brushOf_38 (by decide) (fun c5 => ?_) (fun c5 => ?_)
      · rw [if_pos c5] at h
        refine G_iload_n (pc := 46) 3 dX9_brushOf_46 rfl ?_
        refine G_loc [0, 1, 2, 4, 5] [(0, .ref _), (1, .int _), (2, .int _), (4, .int _), (5, .int _)] rfl ?_
        exact B_X9_brushOf_47 _ ih _ _ _ _ _ _ _ h
      · rw [if_neg c5] at h
        refine G_iload (pc := 41) 5 dX9_brushOf_41 rfl ?_
        refine G_goto (pc := 43) 47 dX9_brushOf_43 (by decide) ?_
        refine G_loc [0, 1, 2, 4, 5] [(0, .ref _), (1, .int _), (2, .int _), (4, .int _), (5, .int _)] rfl ?_
        exact B_X9_brushOf_47 _ ih _ _ _ _ _ _ _ h
def F_X9_brushOf (x1 : Int32) (x2 : Int32) (μ : Mm) : Option (Int32 × Mm) := L_X9_brushOf_13 FUEL x1 x2 (-1) (-1) 0 (wI μ 0 17 x1)
set_option maxRecDepth 100000 in
set_option maxHeartbeats 4000000 in
theorem S_X9_brushOf (x1 : Int32) (x2 : Int32)  (μ : Mm) (q : (Int32 × Mm)) (h : F_X9_brushOf x1 x2 μ = some q) : Cn wM yX9_brushOf cX9_brushOf 6 (some .int) 5 [.ref 0, .int x1, .int x2] μ (some (.int q.1)) q.2 := by
  refine Cn_of (by decide +kernel) (Nat.le_of_ble_eq_true rfl) ?_
  show G wM RX9 cX9_brushOf 6 (some .int) 5 (some (.int q.1)) q.2 0 [(0, .ref 0), (1, .int x1), (2, .int x2)] [] μ
  unfold F_X9_brushOf at h
  refine G_iconst (pc := 0) (-1) dX9_brushOf_0 ci_m1 ?_
  refine G_istore_n (pc := 1) [(3, .int _), (0, .ref _), (1, .int _), (2, .int _)] dX9_brushOf_1 (Nat.le_of_ble_eq_true rfl) rfl ?_
  refine G_iconst (pc := 2) (-1) dX9_brushOf_2 ci_m1 ?_
  refine G_istore (pc := 3) [(4, .int _), (3, .int _), (0, .ref _), (1, .int _), (2, .int _)] dX9_brushOf_3 (Nat.le_of_ble_eq_true rfl) rfl ?_
  refine G_aload_n (pc := 5) 2 dX9_brushOf_5 rfl ?_
  refine G_iload_n (pc := 6) 3 dX9_brushOf_6 rfl ?_
  refine pwM_X9_204_0 (pc := 7) dX9_brushOf_7 ?_
  refine G_iconst (pc := 10) (0) dX9_brushOf_10 ci_0 ?_
  refine G_istore (pc := 11) [(5, .int _), (4, .int _), (3, .int _), (0, .ref _), (1, .int _), (2, .int _)] dX9_brushOf_11 (Nat.le_of_ble_eq_true rfl) rfl ?_
  refine G_loc [3, 4, 5, 2, 1, 0] [(0, .ref _), (1, .int _), (2, .int _), (3, .int _), (4, .int _), (5, .int _)] rfl ?_
  exact B_X9_brushOf_13 _ _ _ _ _ _ _ _ h
def F_X9_brush (x1 : Int32) (x2 : Int32) (μ : Mm) : Option (Int32 × Mm) := (F_X9_find μ).bind (fun q1 => (F_X9_isThing x1 q1).bind (fun q2 => if q2.1 = 0 then some ((-2), q2.2) else (F_X9_isTwo x2 q2.2).bind (fun q4 => if q4.1 = 0 then some ((-2), q4.2) else (F_X9_brushOf x1 x2 q4.2).bind (fun q6 => some (q6.1, q6.2)))))
set_option maxRecDepth 100000 in
set_option maxHeartbeats 4000000 in
theorem S_X9_brush (x1 : Int32) (x2 : Int32)  (μ : Mm) (q : (Int32 × Mm)) (h : F_X9_brush x1 x2 μ = some q) : Cn wM yX9_brush cX9_brush 3 (some .int) 6 [.ref 0, .int x1, .int x2] μ (some (.int q.1)) q.2 := by
  refine Cn_of (by decide +kernel) (Nat.le_of_ble_eq_true rfl) ?_
  show G wM RX9 cX9_brush 3 (some .int) 6 (some (.int q.1)) q.2 0 [(0, .ref 0), (1, .int x1), (2, .int x2)] [] μ
  unfold F_X9_brush at h
  refine G_aload_n (pc := 0) 0 dX9_brush_0 rfl ?_
  obtain ⟨q1, e1, h⟩ := bnd_some h
  refine G_callV0v (pc := 1) 0 8 dX9_brush_1 wv_X9_220 cd_X9_find (S_X9_find _ _ e1) (by decide) (by decide) rfl (by decide) (fun _ _ => ⟨_, rfl⟩) (Nat.le_of_ble_eq_true rfl) ?_
  refine G_aload_n (pc := 4) 0 dX9_brush_4 rfl ?_
  refine G_iload_n (pc := 5) 1 dX9_brush_5 rfl ?_
  obtain ⟨q2, e2, h⟩ := bnd_some h
  refine G_callV1r (pc := 6) 0 8 dX9_brush_6 wv_X9_158 cd_X9_isThing (S_X9_isThing _ _ _ e2) (by decide) (by decide) rfl (by decide) (fun _ _ => ⟨_, rfl⟩) (Nat.le_of_ble_eq_true rfl) ?_
  refine G_if_eq (pc := 9) 28 dX9_brush_9 (by decide) (fun c3 => ?_) (fun c3 => ?_)
  · replace h := itp c3 h
    refine G_bipush (pc := 28) (-2) dX9_brush_28 bp_m2 ?_
    obtain rfl := Option.some.inj h
    exact G_iret (pc := 30) rfl dX9_brush_30
  · replace h := itn c3 h
    refine G_iload_n (pc := 12) 2 dX9_brush_12 rfl ?_
    obtain ⟨q4, e4, h⟩ := bnd_some h
    refine G_callS1r (pc := 13) dX9_brush_13 ws_X9_228 cd_X9_isTwo (S_X9_isTwo _ _ _ e4) (by decide) (by decide) (Nat.le_of_ble_eq_true rfl) ?_
    refine G_if_eq (pc := 16) 28 dX9_brush_16 (by decide) (fun c5 => ?_) (fun c5 => ?_)
    · replace h := itp c5 h
      refine G_bipush (pc := 28) (-2) dX9_brush_28 bp_m2 ?_
      obtain rfl := Option.some.inj h
      exact G_iret (pc := 30) rfl dX9_brush_30
    · replace h := itn c5 h
      refine G_aload_n (pc := 19) 0 dX9_brush_19 rfl ?_
      refine G_iload_n (pc := 20) 1 dX9_brush_20 rfl ?_
      refine G_iload_n (pc := 21) 2 dX9_brush_21 rfl ?_
      obtain ⟨q6, e6, h⟩ := bnd_some h
      refine G_callV2r (pc := 22) 0 8 dX9_brush_22 wv_X9_248 cd_X9_brushOf (S_X9_brushOf _ _ _ _ e6) (by decide) (by decide) rfl (by decide) (fun _ _ => ⟨_, rfl⟩) (Nat.le_of_ble_eq_true rfl) ?_
      refine G_goto (pc := 25) 30 dX9_brush_25 (by decide) ?_
      obtain rfl := Option.some.inj h
      exact G_iret (pc := 30) rfl dX9_brush_30
def F_X9_rivalOf_64 (K8 : Int32 → Int32 → Int32 → Int32 → Int32 → Mm → Option (Int32 × Mm)) (x1 : Int32) (x2 : Int32) (x3 : Int32) (x4 : Int32) (x5 : Int32) (μ : Mm) : Option (Int32 × Mm) := K8 x1 x2 x3 x4 (x5 + 1) μ
set_option maxRecDepth 100000 in
set_option maxHeartbeats 4000000 in
theorem B_X9_rivalOf_64 (K8 : Int32 → Int32 → Int32 → Int32 → Int32 → Mm → Option (Int32 × Mm)) (hK8 : ∀ (x1 : Int32) (x2 : Int32) (x3 : Int32) (x4 : Int32) (x5 : Int32) (μ : Mm) (q : (Int32 × Mm)), K8 x1 x2 x3 x4 x5 μ = some q → G wM RX9 cX9_rivalOf 6 (some .int) 5 (some (.int q.1)) q.2 8 [(0, .ref 0), (1, .int x1), (2, .int x2), (3, .int x3), (4, .int x4), (5, .int x5)] [] μ) (x1 : Int32) (x2 : Int32) (x3 : Int32) (x4 : Int32) (x5 : Int32) (μ : Mm) (q : (Int32 × Mm))  (h : F_X9_rivalOf_64 K8 x1 x2 x3 x4 x5 μ = some q) : G wM RX9 cX9_rivalOf 6 (some .int) 5 (some (.int q.1)) q.2 64 [(0, .ref 0), (1, .int x1), (2, .int x2), (3, .int x3), (4, .int x4), (5, .int x5)] [] μ := by
  unfold F_X9_rivalOf_64 at h
  refine G_iinc (pc := 64) (1) 5 [(5, .int _), (0, .ref _), (1, .int _), (2, .int _), (3, .int _), (4, .int _)] dX9_rivalOf_64 ci_1 rfl (Nat.le_of_ble_eq_true rfl) rfl ?_
  refine G_goto (pc := 67) 8 dX9_rivalOf_67 (by decide) ?_
  refine G_loc [1, 2, 3, 4, 5, 0] [(0, .ref _), (1, .int _), (2, .int _), (3, .int _), (4, .int _), (5, .int _)] rfl ?_
  exact hK8 _ _ _ _ _ _ _ h
def F_X9_rivalOf_50 (K8 : Int32 → Int32 → Int32 → Int32 → Int32 → Mm → Option (Int32 × Mm)) (x1 : Int32) (x2 : Int32) (x4 : Int32) (x5 : Int32) (y0 : Int32) (μ : Mm) : Option (Int32 × Mm) := gi x1 10 ((F_X9_greater (μ.1 12 x1.toNatClampNeg) x4 μ).bind (fun q8 => F_X9_rivalOf_64 K8 x1 x2 y0 q8.1 x5 q8.2))
set_option maxRecDepth 100000 in
set_option maxHeartbeats 4000000 in
theorem B_X9_rivalOf_50 (K8 : Int32 → Int32 → Int32 → Int32 → Int32 → Mm → Option (Int32 × Mm)) (hK8 : ∀ (x1 : Int32) (x2 : Int32) (x3 : Int32) (x4 : Int32) (x5 : Int32) (μ : Mm) (q : (Int32 × Mm)), K8 x1 x2 x3 x4 x5 μ = some q → G wM RX9 cX9_rivalOf 6 (some .int) 5 (some (.int q.1)) q.2 8 [(0, .ref 0), (1, .int x1), (2, .int x2), (3, .int x3), (4, .int x4), (5, .int x5)] [] μ) (x1 : Int32) (x2 : Int32) (x4 : Int32) (x5 : Int32) (y0 : Int32) (μ : Mm) (q : (Int32 × Mm))  (h : F_X9_rivalOf_50 K8 x1 x2 x4 x5 y0 μ = some q) : G wM RX9 cX9_rivalOf 6 (some .int) 5 (some (.int q.1)) q.2 50 [(0, .ref 0), (1, .int x1), (2, .int x2), (4, .int x4), (5, .int x5)] [.int y0] μ := by
  unfold F_X9_rivalOf_50 at h
  refine G_istore_n (pc := 50) [(3, .int _), (0, .ref _), (1, .int _), (2, .int _), (4, .int _), (5, .int _)] dX9_rivalOf_50 (Nat.le_of_ble_eq_true rfl) rfl ?_
  refine G_aload_n (pc := 51) 1 dX9_rivalOf_51 rfl ?_
  refine gwM_X9_43_0 (pc := 52) dX9_rivalOf_52 ?_
  refine G_iload_n (pc := 55) 2 dX9_rivalOf_55 rfl ?_
  obtain ⟨g7, h⟩ := gi_some h
  refine alwM_12 (pc := 56) dX9_rivalOf_56 g7 ?_
  refine G_iload (pc := 57) 4 dX9_rivalOf_57 rfl ?_
  obtain ⟨q8, e8, h⟩ := bnd_some h
  refine G_callS2r (pc := 59) dX9_rivalOf_59 ws_X9_181 cd_X9_greater (S_X9_greater _ _ _ _ e8) (by decide) (by decide) (Nat.le_of_ble_eq_true rfl) ?_
  refine G_istore (pc := 62) [(4, .int _), (3, .int _), (0, .ref _), (1, .int _), (2, .int _), (5, .int _)] dX9_rivalOf_62 (Nat.le_of_ble_eq_true rfl) rfl ?_
  refine G_loc [2, 3, 4, 1, 0, 5] [(0, .ref _), (1, .int _), (2, .int _), (3, .int _), (4, .int _), (5, .int _)] rfl ?_
  exact B_X9_rivalOf_64 _ hK8 _ _ _ _ _ _ _ h
def L_X9_rivalOf_8 : Nat → Int32 → Int32 → Int32 → Int32 → Int32 → Mm → Option (Int32 × Mm)
  | 0, _, _, _, _, _, _ => none
  | n + 1, x1, x2, x3, x4, x5, μ => if (μ.1 0 7) ≤ x5 then some ((if x2 = 0 then x3 else x4), (wI μ 0 18 (-1))) else if x5 = x1 then F_X9_rivalOf_64 (L_X9_rivalOf_8 n) x1 x2 x3 x4 x5 μ else (F_X9_lives (wI μ 0 18 x5)).bind (fun q4 => gi x1 10 (F_X9_rivalOf_50 (L_X9_rivalOf_8 n) x1 x2 x4 x5 (if (q4.1 12 x1.toNatClampNeg) ≤ x4 then x3 else x5) q4))
set_option maxRecDepth 100000 in
set_option maxHeartbeats 4000000 in
theorem L_X9_rivalOf_8_s (n : Nat) (x1 : Int32) (x2 : Int32) (x3 : Int32) (x4 : Int32) (x5 : Int32) (μ : Mm) : L_X9_rivalOf_8  (n + 1) x1 x2 x3 x4 x5 μ = (if (μ.1 0 7) ≤ x5 then some ((if x2 = 0 then x3 else x4), (wI μ 0 18 (-1))) else if x5 = x1 then F_X9_rivalOf_64 (L_X9_rivalOf_8 n) x1 x2 x3 x4 x5 μ else (F_X9_lives (wI μ 0 18 x5)).bind (fun q4 => gi x1 10 (F_X9_rivalOf_50 (L_X9_rivalOf_8 n) x1 x2 x4 x5 (if (q4.1 12 x1.toNatClampNeg) ≤ x4 then x3 else x5) q4))) := rfl
set_option maxRecDepth 100000 in
set_option maxHeartbeats 4000000 in
theorem B_X9_rivalOf_8 : ∀ (n : Nat) (x1 : Int32) (x2 : Int32) (x3 : Int32) (x4 : Int32) (x5 : Int32) (μ : Mm) (q : (Int32 × Mm)), L_X9_rivalOf_8  n x1 x2 x3 x4 x5 μ = some q → G wM RX9 cX9_rivalOf 6 (some .int) 5 (some (.int q.1)) q.2 8 [(0, .ref 0), (1, .int x1), (2, .int x2), (3, .int x3), (4, .int x4), (5, .int x5)] [] μ := by
  intro n
  induction n with
  | zero =>
    intro x1 x2 x3 x4 x5 μ q  h
    cases h
  | succ n ih =>
    intro x1 x2 x3 x4 x5 μ q  h
    rw [L_X9_rivalOf_8_s] at h
    refine G_iload (pc := 8) 5 dX9_rivalOf_8 rfl ?_
    refine G_aload_n (pc := 10) 0 dX9_rivalOf_10 rfl ?_
    refine gwM_X9_128_0 (pc := 11) dX9_rivalOf_11 ?_
    refine G_icmp_ge (pc := 14) 70 dX9_rivalOf_14 (by decide) (fun c1 => ?_) (fun c1 => ?_)
    · replace h := itp c1 h
      refine G_aload_n (pc := 70) 0 dX9_rivalOf_70 rfl ?_
      refine G_iconst (pc := 71) (-1) dX9_rivalOf_71 ci_m1 ?_
      refine pwM_X9_87_0 (pc := 72) dX9_rivalOf_72 ?_
      refine G_iload_n (pc := 75) 2 dX9_rivalOf_75 rfl ?_
      refine G_if_ne (pc := 76) 83 dX9_rivalOf_76 (by decide) (fun c2 => ?_) (fun c2 => ?_)
      · rw [if_neg c2] at h
        refine G_iload (pc := 83) 4 dX9_rivalOf_83 rfl ?_
        obtain rfl := Option.some.inj h
        exact G_iret (pc := 85) rfl dX9_rivalOf_85
      · rw [if_pos c2] at h
        refine G_iload_n (pc := 79) 3 dX9_rivalOf_79 rfl ?_
        refine G_goto (pc := 80) 85 dX9_rivalOf_80 (by decide) ?_
        obtain rfl := Option.some.inj h
        exact G_iret (pc := 85) rfl dX9_rivalOf_85
    · replace h := itn c1 h
      refine G_iload (pc := 17) 5 dX9_rivalOf_17 rfl ?_
      refine G_iload_n (pc := 19) 1 dX9_rivalOf_19 rfl ?_
      refine G_icmp_eq (pc := 20) 64 dX9_rivalOf_20 (by decide) (fun c3 => ?_) (fun c3 => ?_)
      · replace h := itp c3 h
        exact B_X9_rivalOf_64 _ ih _ _ _ _ _ _ _ h
      · replace h := itn c3 h
        refine G_aload_n (pc := 23) 0 dX9_rivalOf_23 rfl ?_
        refine G_iload (pc := 24) 5 dX9_rivalOf_24 rfl ?_
        refine pwM_X9_87_0 (pc := 26) dX9_rivalOf_26 ?_
        refine G_aload_n (pc := 29) 0 dX9_rivalOf_29 rfl ?_
        obtain ⟨q4, e4, h⟩ := bnd_some h
        refine G_callV0v (pc := 30) 0 8 dX9_rivalOf_30 wv_X9_217 cd_X9_lives (S_X9_lives _ _ e4) (by decide) (by decide) rfl (by decide) (fun _ _ => ⟨_, rfl⟩) (Nat.le_of_ble_eq_true rfl) ?_
        refine G_aload_n (pc := 33) 0 dX9_rivalOf_33 rfl ?_
        refine gwM_X9_43_0 (pc := 34) dX9_rivalOf_34 ?_
        refine G_iload_n (pc := 37) 1 dX9_rivalOf_37 rfl ?_
        obtain ⟨g5, h⟩ := gi_some h
        refine alwM_12 (pc := 38) dX9_rivalOf_38 g5 ?_
        refine G_iload (pc := 39) 4 dX9_rivalOf_39 rfl ?_
        refine G_icmp_le (pc := 41) 49 dX9_rivalOf_41 (by decide) (fun c6 => ?_) (fun c6 => ?_)
        · rw [if_pos c6] at h
          refine G_iload_n (pc := 49) 3 dX9_rivalOf_49 rfl ?_
          refine G_loc [0, 1, 2, 4, 5] [(0, .ref _), (1, .int _), (2, .int _), (4, .int _), (5, .int _)] rfl ?_
          exact B_X9_rivalOf_50 _ ih _ _ _ _ _ _ _ h
        · rw [if_neg c6] at h
          refine G_iload (pc := 44) 5 dX9_rivalOf_44 rfl ?_
          refine G_goto (pc := 46) 50 dX9_rivalOf_46 (by decide) ?_
          refine G_loc [0, 1, 2, 4, 5] [(0, .ref _), (1, .int _), (2, .int _), (4, .int _), (5, .int _)] rfl ?_
          exact B_X9_rivalOf_50 _ ih _ _ _ _ _ _ _ h
def F_X9_rivalOf (x1 : Int32) (x2 : Int32) (μ : Mm) : Option (Int32 × Mm) := L_X9_rivalOf_8 FUEL x1 x2 (-1) (-1) 0 μ
set_option maxRecDepth 100000 in
set_option maxHeartbeats 4000000 in
theorem S_X9_rivalOf (x1 : Int32) (x2 : Int32)  (μ : Mm) (q : (Int32 × Mm)) (h : F_X9_rivalOf x1 x2 μ = some q) : Cn wM yX9_rivalOf cX9_rivalOf 6 (some .int) 5 [.ref 0, .int x1, .int x2] μ (some (.int q.1)) q.2 := by
  refine Cn_of (by decide +kernel) (Nat.le_of_ble_eq_true rfl) ?_
  show G wM RX9 cX9_rivalOf 6 (some .int) 5 (some (.int q.1)) q.2 0 [(0, .ref 0), (1, .int x1), (2, .int x2)] [] μ
  unfold F_X9_rivalOf at h
  refine G_iconst (pc := 0) (-1) dX9_rivalOf_0 ci_m1 ?_
  refine G_istore_n (pc := 1) [(3, .int _), (0, .ref _), (1, .int _), (2, .int _)] dX9_rivalOf_1 (Nat.le_of_ble_eq_true rfl) rfl ?_
  refine G_iconst (pc := 2) (-1) dX9_rivalOf_2 ci_m1 ?_
  refine G_istore (pc := 3) [(4, .int _), (3, .int _), (0, .ref _), (1, .int _), (2, .int _)] dX9_rivalOf_3 (Nat.le_of_ble_eq_true rfl) rfl ?_
  refine G_iconst (pc := 5) (0) dX9_rivalOf_5 ci_0 ?_
  refine G_istore (pc := 6) [(5, .int _), (4, .int _), (3, .int _), (0, .ref _), (1, .int _), (2, .int _)] dX9_rivalOf_6 (Nat.le_of_ble_eq_true rfl) rfl ?_
  refine G_loc [3, 4, 5, 2, 1, 0] [(0, .ref _), (1, .int _), (2, .int _), (3, .int _), (4, .int _), (5, .int _)] rfl ?_
  exact B_X9_rivalOf_8 _ _ _ _ _ _ _ _ h
def F_X9_rival (x1 : Int32) (x2 : Int32) (μ : Mm) : Option (Int32 × Mm) := (F_X9_find μ).bind (fun q1 => (F_X9_isThing x1 q1).bind (fun q2 => if q2.1 = 0 then some ((-2), q2.2) else (F_X9_isTwo x2 q2.2).bind (fun q4 => if q4.1 = 0 then some ((-2), q4.2) else (F_X9_rivalOf x1 x2 q4.2).bind (fun q6 => some (q6.1, q6.2)))))
set_option maxRecDepth 100000 in
set_option maxHeartbeats 4000000 in
theorem S_X9_rival (x1 : Int32) (x2 : Int32)  (μ : Mm) (q : (Int32 × Mm)) (h : F_X9_rival x1 x2 μ = some q) : Cn wM yX9_rival cX9_rival 3 (some .int) 6 [.ref 0, .int x1, .int x2] μ (some (.int q.1)) q.2 := by
  refine Cn_of (by decide +kernel) (Nat.le_of_ble_eq_true rfl) ?_
  show G wM RX9 cX9_rival 3 (some .int) 6 (some (.int q.1)) q.2 0 [(0, .ref 0), (1, .int x1), (2, .int x2)] [] μ
  unfold F_X9_rival at h
  refine G_aload_n (pc := 0) 0 dX9_rival_0 rfl ?_
  obtain ⟨q1, e1, h⟩ := bnd_some h
  refine G_callV0v (pc := 1) 0 8 dX9_rival_1 wv_X9_220 cd_X9_find (S_X9_find _ _ e1) (by decide) (by decide) rfl (by decide) (fun _ _ => ⟨_, rfl⟩) (Nat.le_of_ble_eq_true rfl) ?_
  refine G_aload_n (pc := 4) 0 dX9_rival_4 rfl ?_
  refine G_iload_n (pc := 5) 1 dX9_rival_5 rfl ?_
  obtain ⟨q2, e2, h⟩ := bnd_some h
  refine G_callV1r (pc := 6) 0 8 dX9_rival_6 wv_X9_158 cd_X9_isThing (S_X9_isThing _ _ _ e2) (by decide) (by decide) rfl (by decide) (fun _ _ => ⟨_, rfl⟩) (Nat.le_of_ble_eq_true rfl) ?_
  refine G_if_eq (pc := 9) 28 dX9_rival_9 (by decide) (fun c3 => ?_) (fun c3 => ?_)
  · replace h := itp c3 h
    refine G_bipush (pc := 28) (-2) dX9_rival_28 bp_m2 ?_
    obtain rfl := Option.some.inj h
    exact G_iret (pc := 30) rfl dX9_rival_30
  · replace h := itn c3 h
    refine G_iload_n (pc := 12) 2 dX9_rival_12 rfl ?_
    obtain ⟨q4, e4, h⟩ := bnd_some h
    refine G_callS1r (pc := 13) dX9_rival_13 ws_X9_228 cd_X9_isTwo (S_X9_isTwo _ _ _ e4) (by decide) (by decide) (Nat.le_of_ble_eq_true rfl) ?_
    refine G_if_eq (pc := 16) 28 dX9_rival_16 (by decide) (fun c5 => ?_) (fun c5 => ?_)
    · replace h := itp c5 h
      refine G_bipush (pc := 28) (-2) dX9_rival_28 bp_m2 ?_
      obtain rfl := Option.some.inj h
      exact G_iret (pc := 30) rfl dX9_rival_30
    · replace h := itn c5 h
      refine G_aload_n (pc := 19) 0 dX9_rival_19 rfl ?_
      refine G_iload_n (pc := 20) 1 dX9_rival_20 rfl ?_
      refine G_iload_n (pc := 21) 2 dX9_rival_21 rfl ?_
      obtain ⟨q6, e6, h⟩ := bnd_some h
      refine G_callV2r (pc := 22) 0 8 dX9_rival_22 wv_X9_251 cd_X9_rivalOf (S_X9_rivalOf _ _ _ _ e6) (by decide) (by decide) rfl (by decide) (fun _ _ => ⟨_, rfl⟩) (Nat.le_of_ble_eq_true rfl) ?_
      refine G_goto (pc := 25) 30 dX9_rival_25 (by decide) ?_
      obtain rfl := Option.some.inj h
      exact G_iret (pc := 30) rfl dX9_rival_30
def F_X9_sendOf_59 (K17 : Int32 → Int32 → Int32 → Int32 → Int32 → Int32 → Int32 → Mm → Option (Int32 × Mm)) (x1 : Int32) (x2 : Int32) (x3 : Int32) (x4 : Int32) (x6 : Int32) (x7 : Int32) (x8 : Int32) (y0 : Int32) (μ : Mm) : Option (Int32 × Mm) := (F_X9_greater x8 x6 μ).bind (fun q9 => K17 x1 x2 x3 x4 y0 q9.1 (x7 + 1) q9.2)
set_option maxRecDepth 100000 in
set_option maxHeartbeats 4000000 in
theorem B_X9_sendOf_59 (K17 : Int32 → Int32 → Int32 → Int32 → Int32 → Int32 → Int32 → Mm → Option (Int32 × Mm)) (hK17 : ∀ (x1 : Int32) (x2 : Int32) (x3 : Int32) (x4 : Int32) (x5 : Int32) (x6 : Int32) (x7 : Int32) (μ : Mm) (q : (Int32 × Mm)), K17 x1 x2 x3 x4 x5 x6 x7 μ = some q → G wM RX9 cX9_sendOf 9 (some .int) 5 (some (.int q.1)) q.2 17 [(0, .ref 0), (1, .int x1), (2, .int x2), (3, .int x3), (4, .int x4), (5, .int x5), (6, .int x6), (7, .int x7)] [] μ) (x1 : Int32) (x2 : Int32) (x3 : Int32) (x4 : Int32) (x6 : Int32) (x7 : Int32) (x8 : Int32) (y0 : Int32) (μ : Mm) (q : (Int32 × Mm))  (h : F_X9_sendOf_59 K17 x1 x2 x3 x4 x6 x7 x8 y0 μ = some q) : G wM RX9 cX9_sendOf 9 (some .int) 5 (some (.int q.1)) q.2 59 [(0, .ref 0), (1, .int x1), (2, .int x2), (3, .int x3), (4, .int x4), (6, .int x6), (7, .int x7), (8, .int x8)] [.int y0] μ := by
  unfold F_X9_sendOf_59 at h
  refine G_istore (pc := 59) [(5, .int _), (0, .ref _), (1, .int _), (2, .int _), (3, .int _), (4, .int _), (6, .int _), (7, .int _), (8, .int _)] dX9_sendOf_59 (Nat.le_of_ble_eq_true rfl) rfl ?_
  refine G_iload (pc := 61) 8 dX9_sendOf_61 rfl ?_
  refine G_iload (pc := 63) 6 dX9_sendOf_63 rfl ?_
  obtain ⟨q9, e9, h⟩ := bnd_some h
  refine G_callS2r (pc := 65) dX9_sendOf_65 ws_X9_181 cd_X9_greater (S_X9_greater _ _ _ _ e9) (by decide) (by decide) (Nat.le_of_ble_eq_true rfl) ?_
  refine G_istore (pc := 68) [(6, .int _), (5, .int _), (0, .ref _), (1, .int _), (2, .int _), (3, .int _), (4, .int _), (7, .int _), (8, .int _)] dX9_sendOf_68 (Nat.le_of_ble_eq_true rfl) rfl ?_
  refine G_iinc (pc := 70) (1) 7 [(7, .int _), (6, .int _), (5, .int _), (0, .ref _), (1, .int _), (2, .int _), (3, .int _), (4, .int _), (8, .int _)] dX9_sendOf_70 ci_1 rfl (Nat.le_of_ble_eq_true rfl) rfl ?_
  refine G_goto (pc := 73) 17 dX9_sendOf_73 (by decide) ?_
  refine G_loc [3, 4, 5, 6, 7, 2, 1, 0] [(0, .ref _), (1, .int _), (2, .int _), (3, .int _), (4, .int _), (5, .int _), (6, .int _), (7, .int _)] rfl ?_
  exact hK17 _ _ _ _ _ _ _ _ _ h
def L_X9_sendOf_17 : Nat → Int32 → Int32 → Int32 → Int32 → Int32 → Int32 → Int32 → Mm → Option (Int32 × Mm)
  | 0, _, _, _, _, _, _, _, _ => none
  | n + 1, x1, x2, x3, x4, x5, x6, x7, μ => if (μ.1 0 9) ≤ x7 then gi x1 12 (some ((if x3 = 0 then x5 else x6), (wI μ 9 x1.toNatClampNeg x4))) else gi x1 12 ((F_X9_lives (wI μ 9 x1.toNatClampNeg x7)).bind (fun q6 => (F_X9_ownedBy x2 q6).bind (fun q7 => F_X9_sendOf_59 (L_X9_sendOf_17 n) x1 x2 x3 x4 x6 x7 q7.1 (if q7.1 ≤ x6 then x5 else x7) q7.2)))
set_option maxRecDepth 100000 in
set_option maxHeartbeats 4000000 in
theorem L_X9_sendOf_17_s (n : Nat) (x1 : Int32) (x2 : Int32) (x3 : Int32) (x4 : Int32) (x5 : Int32) (x6 : Int32) (x7 : Int32) (μ : Mm) : L_X9_sendOf_17  (n + 1) x1 x2 x3 x4 x5 x6 x7 μ = (if (μ.1 0 9) ≤ x7 then gi x1 12 (some ((if x3 = 0 then x5 else x6), (wI μ 9 x1.toNatClampNeg x4))) else gi x1 12 ((F_X9_lives (wI μ 9 x1.toNatClampNeg x7)).bind (fun q6 => (F_X9_ownedBy x2 q6).bind (fun q7 => F_X9_sendOf_59 (L_X9_sendOf_17 n) x1 x2 x3 x4 x6 x7 q7.1 (if q7.1 ≤ x6 then x5 else x7) q7.2)))) := rfl
set_option maxRecDepth 100000 in
set_option maxHeartbeats 4000000 in
theorem B_X9_sendOf_17 : ∀ (n : Nat) (x1 : Int32) (x2 : Int32) (x3 : Int32) (x4 : Int32) (x5 : Int32) (x6 : Int32) (x7 : Int32) (μ : Mm) (q : (Int32 × Mm)), L_X9_sendOf_17  n x1 x2 x3 x4 x5 x6 x7 μ = some q → G wM RX9 cX9_sendOf 9 (some .int) 5 (some (.int q.1)) q.2 17 [(0, .ref 0), (1, .int x1), (2, .int x2), (3, .int x3), (4, .int x4), (5, .int x5), (6, .int x6), (7, .int x7)] [] μ := by
  intro n
  induction n with
  | zero =>
    intro x1 x2 x3 x4 x5 x6 x7 μ q  h
    cases h
  | succ n ih =>
    intro x1 x2 x3 x4 x5 x6 x7 μ q  h
    rw [L_X9_sendOf_17_s] at h
    refine G_iload (pc := 17) 7 dX9_sendOf_17 rfl ?_
    refine G_aload_n (pc := 19) 0 dX9_sendOf_19 rfl ?_
    refine gwM_X9_134_0 (pc := 20) dX9_sendOf_20 ?_
    refine G_icmp_ge (pc := 23) 76 dX9_sendOf_23 (by decide) (fun c2 => ?_) (fun c2 => ?_)
    · replace h := itp c2 h
      refine G_aload_n (pc := 76) 0 dX9_sendOf_76 rfl ?_
      refine gwM_X9_34_0 (pc := 77) dX9_sendOf_77 ?_
      refine G_iload_n (pc := 80) 1 dX9_sendOf_80 rfl ?_
      refine G_iload (pc := 81) 4 dX9_sendOf_81 rfl ?_
      obtain ⟨g3, h⟩ := gi_some h
      refine aswM_9 (pc := 83) dX9_sendOf_83 g3 ?_
      refine G_iload_n (pc := 84) 3 dX9_sendOf_84 rfl ?_
      refine G_if_ne (pc := 85) 93 dX9_sendOf_85 (by decide) (fun c4 => ?_) (fun c4 => ?_)
      · rw [if_neg c4] at h
        refine G_iload (pc := 93) 6 dX9_sendOf_93 rfl ?_
        obtain rfl := Option.some.inj h
        exact G_iret (pc := 95) rfl dX9_sendOf_95
      · rw [if_pos c4] at h
        refine G_iload (pc := 88) 5 dX9_sendOf_88 rfl ?_
        refine G_goto (pc := 90) 95 dX9_sendOf_90 (by decide) ?_
        obtain rfl := Option.some.inj h
        exact G_iret (pc := 95) rfl dX9_sendOf_95
    · replace h := itn c2 h
      refine G_aload_n (pc := 26) 0 dX9_sendOf_26 rfl ?_
      refine gwM_X9_34_0 (pc := 27) dX9_sendOf_27 ?_
      refine G_iload_n (pc := 30) 1 dX9_sendOf_30 rfl ?_
      refine G_iload (pc := 31) 7 dX9_sendOf_31 rfl ?_
      obtain ⟨g5, h⟩ := gi_some h
      refine aswM_9 (pc := 33) dX9_sendOf_33 g5 ?_
      refine G_aload_n (pc := 34) 0 dX9_sendOf_34 rfl ?_
      obtain ⟨q6, e6, h⟩ := bnd_some h
      refine G_callV0v (pc := 35) 0 8 dX9_sendOf_35 wv_X9_217 cd_X9_lives (S_X9_lives _ _ e6) (by decide) (by decide) rfl (by decide) (fun _ _ => ⟨_, rfl⟩) (Nat.le_of_ble_eq_true rfl) ?_
      refine G_aload_n (pc := 38) 0 dX9_sendOf_38 rfl ?_
      refine G_iload_n (pc := 39) 2 dX9_sendOf_39 rfl ?_
      obtain ⟨q7, e7, h⟩ := bnd_some h
      refine G_callV1r (pc := 40) 0 8 dX9_sendOf_40 wv_X9_236 cd_X9_ownedBy (S_X9_ownedBy _ _ _ e7) (by decide) (by decide) rfl (by decide) (fun _ _ => ⟨_, rfl⟩) (Nat.le_of_ble_eq_true rfl) ?_
      refine G_istore (pc := 43) [(8, .int _), (0, .ref _), (1, .int _), (2, .int _), (3, .int _), (4, .int _), (5, .int _), (6, .int _), (7, .int _)] dX9_sendOf_43 (Nat.le_of_ble_eq_true rfl) rfl ?_
      refine G_iload (pc := 45) 0 dX9_sendOf_45 rfl ?_
      refine G_iload (pc := 47) 7 dX9_sendOf_47 rfl ?_
      refine G_icmp_le (pc := 49) 57 dX9_sendOf_49 (by decide) (fun c8 => ?_) (fun c8 => ?_)
      · rw [if_pos c8] at h
        refine G_iload (pc := 57) 6 dX9_sendOf_57 rfl ?_
        refine G_loc [1, 2, 3, 4, 5, 7, 8, 0] [(0, .ref _), (1, .int _), (2, .int _), (3, .int _), (4, .int _), (6, .int _), (7, .int _), (8, .int _)] rfl ?_
        exact B_X9_sendOf_59 _ ih _ _ _ _ _ _ _ _ _ _ h
      · rw [if_neg c8] at h
        refine G_iload (pc := 52) 8 dX9_sendOf_52 rfl ?_
        refine G_goto (pc := 54) 59 dX9_sendOf_54 (by decide) ?_
        refine G_loc [1, 2, 3, 4, 5, 7, 8, 0] [(0, .ref _), (1, .int _), (2, .int _), (3, .int _), (4, .int _), (6, .int _), (7, .int _), (8, .int _)] rfl ?_
        exact B_X9_sendOf_59 _ ih _ _ _ _ _ _ _ _ _ _ h
def F_X9_sendOf (x1 : Int32) (x2 : Int32) (x3 : Int32) (μ : Mm) : Option (Int32 × Mm) := gi x1 12 (L_X9_sendOf_17 FUEL x1 x2 x3 (μ.1 9 x1.toNatClampNeg) (-1) (-1) 0 μ)
set_option maxRecDepth 100000 in
set_option maxHeartbeats 4000000 in
theorem S_X9_sendOf (x1 : Int32) (x2 : Int32) (x3 : Int32)  (μ : Mm) (q : (Int32 × Mm)) (h : F_X9_sendOf x1 x2 x3 μ = some q) : Cn wM yX9_sendOf cX9_sendOf 9 (some .int) 5 [.ref 0, .int x1, .int x2, .int x3] μ (some (.int q.1)) q.2 := by
  refine Cn_of (by decide +kernel) (Nat.le_of_ble_eq_true rfl) ?_
  show G wM RX9 cX9_sendOf 9 (some .int) 5 (some (.int q.1)) q.2 0 [(0, .ref 0), (1, .int x1), (2, .int x2), (3, .int x3)] [] μ
  unfold F_X9_sendOf at h
  refine G_aload_n (pc := 0) 0 dX9_sendOf_0 rfl ?_
  refine gwM_X9_34_0 (pc := 1) dX9_sendOf_1 ?_
  refine G_iload_n (pc := 4) 1 dX9_sendOf_4 rfl ?_
  obtain ⟨g1, h⟩ := gi_some h
  refine alwM_9 (pc := 5) dX9_sendOf_5 g1 ?_
  refine G_istore (pc := 6) [(4, .int _), (0, .ref _), (1, .int _), (2, .int _), (3, .int _)] dX9_sendOf_6 (Nat.le_of_ble_eq_true rfl) rfl ?_
  refine G_iconst (pc := 8) (-1) dX9_sendOf_8 ci_m1 ?_
  refine G_istore (pc := 9) [(5, .int _), (4, .int _), (0, .ref _), (1, .int _), (2, .int _), (3, .int _)] dX9_sendOf_9 (Nat.le_of_ble_eq_true rfl) rfl ?_
  refine G_iconst (pc := 11) (-1) dX9_sendOf_11 ci_m1 ?_
  refine G_istore (pc := 12) [(6, .int _), (5, .int _), (4, .int _), (0, .ref _), (1, .int _), (2, .int _), (3, .int _)] dX9_sendOf_12 (Nat.le_of_ble_eq_true rfl) rfl ?_
  refine G_iconst (pc := 14) (0) dX9_sendOf_14 ci_0 ?_
  refine G_istore (pc := 15) [(7, .int _), (6, .int _), (5, .int _), (4, .int _), (0, .ref _), (1, .int _), (2, .int _), (3, .int _)] dX9_sendOf_15 (Nat.le_of_ble_eq_true rfl) rfl ?_
  refine G_loc [4, 5, 6, 7, 3, 2, 1, 0] [(0, .ref _), (1, .int _), (2, .int _), (3, .int _), (4, .int _), (5, .int _), (6, .int _), (7, .int _)] rfl ?_
  exact B_X9_sendOf_17 _ _ _ _ _ _ _ _ _ _ h
def F_X9_send (x1 : Int32) (x2 : Int32) (x3 : Int32) (μ : Mm) : Option (Int32 × Mm) := (F_X9_find μ).bind (fun q1 => (F_X9_isWeek x1 q1).bind (fun q2 => if q2.1 = 0 then some ((-2), q2.2) else (F_X9_in x2.toInt64 0 5 q2.2).bind (fun q4 => if q4.1 = 0 then some ((-2), q4.2) else (F_X9_isTwo x3 q4.2).bind (fun q6 => if q6.1 = 0 then some ((-2), q6.2) else (F_X9_sendOf x1 x2 x3 q6.2).bind (fun q8 => some (q8.1, q8.2))))))
set_option maxRecDepth 100000 in
set_option maxHeartbeats 4000000 in
theorem S_X9_send (x1 : Int32) (x2 : Int32) (x3 : Int32)  (μ : Mm) (q : (Int32 × Mm)) (h : F_X9_send x1 x2 x3 μ = some q) : Cn wM yX9_send cX9_send 4 (some .int) 6 [.ref 0, .int x1, .int x2, .int x3] μ (some (.int q.1)) q.2 := by
  refine Cn_of (by decide +kernel) (Nat.le_of_ble_eq_true rfl) ?_
  show G wM RX9 cX9_send 4 (some .int) 6 (some (.int q.1)) q.2 0 [(0, .ref 0), (1, .int x1), (2, .int x2), (3, .int x3)] [] μ
  unfold F_X9_send at h
  refine G_aload_n (pc := 0) 0 dX9_send_0 rfl ?_
  obtain ⟨q1, e1, h⟩ := bnd_some h
  refine G_callV0v (pc := 1) 0 8 dX9_send_1 wv_X9_220 cd_X9_find (S_X9_find _ _ e1) (by decide) (by decide) rfl (by decide) (fun _ _ => ⟨_, rfl⟩) (Nat.le_of_ble_eq_true rfl) ?_
  refine G_iload_n (pc := 4) 1 dX9_send_4 rfl ?_
  obtain ⟨q2, e2, h⟩ := bnd_some h
  refine G_callS1r (pc := 5) dX9_send_5 ws_X9_164 cd_X9_isWeek (S_X9_isWeek _ _ _ e2) (by decide) (by decide) (Nat.le_of_ble_eq_true rfl) ?_
  refine G_if_eq (pc := 8) 40 dX9_send_8 (by decide) (fun c3 => ?_) (fun c3 => ?_)
  · replace h := itp c3 h
    refine G_bipush (pc := 40) (-2) dX9_send_40 bp_m2 ?_
    obtain rfl := Option.some.inj h
    exact G_iret (pc := 42) rfl dX9_send_42
  · replace h := itn c3 h
    refine G_iload_n (pc := 11) 2 dX9_send_11 rfl ?_
    refine G_i2l (pc := 12) dX9_send_12 ?_
    refine G_lconst (pc := 13) (0) dX9_send_13 lc_0 ?_
    refine G_ldc2 (pc := 14) (5) dX9_send_14 kl_X9_234 ?_
    obtain ⟨q4, e4, h⟩ := bnd_some h
    refine G_callS3r (pc := 17) dX9_send_17 ws_X9_92 cd_X9_in (S_X9_in _ _ _ _ _ e4) (by decide) (by decide) (Nat.le_of_ble_eq_true rfl) ?_
    refine G_if_eq (pc := 20) 40 dX9_send_20 (by decide) (fun c5 => ?_) (fun c5 => ?_)
    · replace h := itp c5 h
      refine G_bipush (pc := 40) (-2) dX9_send_40 bp_m2 ?_
      obtain rfl := Option.some.inj h
      exact G_iret (pc := 42) rfl dX9_send_42
    · replace h := itn c5 h
      refine G_iload_n (pc := 23) 3 dX9_send_23 rfl ?_
      obtain ⟨q6, e6, h⟩ := bnd_some h
      refine G_callS1r (pc := 24) dX9_send_24 ws_X9_228 cd_X9_isTwo (S_X9_isTwo _ _ _ e6) (by decide) (by decide) (Nat.le_of_ble_eq_true rfl) ?_
      refine G_if_eq (pc := 27) 40 dX9_send_27 (by decide) (fun c7 => ?_) (fun c7 => ?_)
      · replace h := itp c7 h
        refine G_bipush (pc := 40) (-2) dX9_send_40 bp_m2 ?_
        obtain rfl := Option.some.inj h
        exact G_iret (pc := 42) rfl dX9_send_42
      · replace h := itn c7 h
        refine G_aload_n (pc := 30) 0 dX9_send_30 rfl ?_
        refine G_iload_n (pc := 31) 1 dX9_send_31 rfl ?_
        refine G_iload_n (pc := 32) 2 dX9_send_32 rfl ?_
        refine G_iload_n (pc := 33) 3 dX9_send_33 rfl ?_
        obtain ⟨q8, e8, h⟩ := bnd_some h
        refine G_callV3r (pc := 34) 0 8 dX9_send_34 wv_X9_254 cd_X9_sendOf (S_X9_sendOf _ _ _ _ _ e8) (by decide) (by decide) rfl (by decide) (fun _ _ => ⟨_, rfl⟩) (Nat.le_of_ble_eq_true rfl) ?_
        refine G_goto (pc := 37) 42 dX9_send_37 (by decide) ?_
        obtain rfl := Option.some.inj h
        exact G_iret (pc := 42) rfl dX9_send_42
