def F_X9_isSpared (x1 : Int32) (μ : Mm) : Option (Int32 × Mm) := (F_X9_lives (wI μ 0 15 x1)).bind (fun q1 => (F_X9_leftBy 0 (wI q1 0 15 0)).bind (fun q2 => some ((if q2.1 = 0 then 1 else 0), q2.2)))
set_option maxRecDepth 100000 in
set_option maxHeartbeats 4000000 in
theorem S_X9_isSpared (x1 : Int32)  (μ : Mm) (q : (Int32 × Mm)) (h : F_X9_isSpared x1 μ = some q) : Cn wM yX9_isSpared cX9_isSpared 2 (some .boolean) 5 [.ref 0, .int x1] μ (some (.int q.1)) q.2 := by
  refine Cn_of (by decide +kernel) (Nat.le_of_ble_eq_true rfl) ?_
  show G wM RX9 cX9_isSpared 2 (some .boolean) 5 (some (.int q.1)) q.2 0 [(0, .ref 0), (1, .int x1)] [] μ
  unfold F_X9_isSpared at h
  refine G_aload_n (pc := 0) 0 dX9_isSpared_0 rfl ?_
  refine G_iload_n (pc := 1) 1 dX9_isSpared_1 rfl ?_
  refine pwM_X9_197_0 (pc := 2) dX9_isSpared_2 ?_
  refine G_aload_n (pc := 5) 0 dX9_isSpared_5 rfl ?_
  obtain ⟨q1, e1, h⟩ := bnd_some h
  refine G_callV0v (pc := 6) 0 8 dX9_isSpared_6 wv_X9_217 cd_X9_lives (S_X9_lives _ _ e1) (by decide) (by decide) rfl (by decide) (fun _ _ => ⟨_, rfl⟩) (Nat.le_of_ble_eq_true rfl) ?_
  refine G_aload_n (pc := 9) 0 dX9_isSpared_9 rfl ?_
  refine G_iconst (pc := 10) (0) dX9_isSpared_10 ci_0 ?_
  refine pwM_X9_197_0 (pc := 11) dX9_isSpared_11 ?_
  refine G_aload_n (pc := 14) 0 dX9_isSpared_14 rfl ?_
  refine G_iconst (pc := 15) (0) dX9_isSpared_15 ci_0 ?_
  obtain ⟨q2, e2, h⟩ := bnd_some h
  refine G_callV1r (pc := 16) 0 8 dX9_isSpared_16 wv_X9_245 cd_X9_leftBy (S_X9_leftBy _ _ _ e2) (by decide) (by decide) rfl (by decide) (fun _ _ => ⟨_, rfl⟩) (Nat.le_of_ble_eq_true rfl) ?_
  refine G_if_ne (pc := 19) 26 dX9_isSpared_19 (by decide) (fun c3 => ?_) (fun c3 => ?_)
  · rw [if_neg c3] at h
    refine G_iconst (pc := 26) (0) dX9_isSpared_26 ci_0 ?_
    obtain rfl := Option.some.inj h
    exact G_zret (pc := 27) rfl (Or.inl rfl) dX9_isSpared_27
  · rw [if_pos c3] at h
    refine G_iconst (pc := 22) (1) dX9_isSpared_22 ci_1 ?_
    refine G_goto (pc := 23) 27 dX9_isSpared_23 (by decide) ?_
    obtain rfl := Option.some.inj h
    exact G_zret (pc := 27) rfl (Or.inr rfl) dX9_isSpared_27
def L_X9_spareBy_78 (K66 : Int32 → Int32 → Mm → Option (Int32 × Mm)) : Nat → Int32 → Int32 → Int32 → Mm → Option (Int32 × Mm)
  | 0, _, _, _, _ => none
  | n + 1, x1, x2, x3, μ => if (μ.1 0 13) ≤ x3 then K66 x1 (x2 + 1) μ else (F_X9_isSpared ((1 <<< (x2 &&& 31)) ||| (1 <<< (x3 &&& 31))) μ).bind (fun q6 => if q6.1 = 0 then L_X9_spareBy_78 K66 n x1 x2 (x3 + 1) q6.2 else some ((if x1 = (-1) then 2 else (if x1 = 0 then x2 else x3)), q6.2))
set_option maxRecDepth 100000 in
set_option maxHeartbeats 4000000 in
theorem L_X9_spareBy_78_s (K66 : Int32 → Int32 → Mm → Option (Int32 × Mm)) (n : Nat) (x1 : Int32) (x2 : Int32) (x3 : Int32) (μ : Mm) : L_X9_spareBy_78 K66 (n + 1) x1 x2 x3 μ = (if (μ.1 0 13) ≤ x3 then K66 x1 (x2 + 1) μ else (F_X9_isSpared ((1 <<< (x2 &&& 31)) ||| (1 <<< (x3 &&& 31))) μ).bind (fun q6 => if q6.1 = 0 then L_X9_spareBy_78 K66 n x1 x2 (x3 + 1) q6.2 else some ((if x1 = (-1) then 2 else (if x1 = 0 then x2 else x3)), q6.2))) := rfl
set_option maxRecDepth 100000 in
set_option maxHeartbeats 4000000 in
theorem B_X9_spareBy_78 (K66 : Int32 → Int32 → Mm → Option (Int32 × Mm)) (hK66 : ∀ (x1 : Int32) (x2 : Int32) (μ : Mm) (q : (Int32 × Mm)), K66 x1 x2 μ = some q → G wM RX9 cX9_spareBy 4 (some .int) 6 (some (.int q.1)) q.2 66 [(0, .ref 0), (1, .int x1), (2, .int x2)] [] μ) : ∀ (n : Nat) (x1 : Int32) (x2 : Int32) (x3 : Int32) (μ : Mm) (q : (Int32 × Mm)), L_X9_spareBy_78 K66 n x1 x2 x3 μ = some q → G wM RX9 cX9_spareBy 4 (some .int) 6 (some (.int q.1)) q.2 78 [(0, .ref 0), (1, .int x1), (2, .int x2), (3, .int x3)] [] μ := by
  intro n
  induction n with
  | zero =>
    intro x1 x2 x3 μ q  h
    cases h
  | succ n ih =>
    intro x1 x2 x3 μ q  h
    rw [L_X9_spareBy_78_s] at h
    refine G_iload_n (pc := 78) 3 dX9_spareBy_78 rfl ?_
    refine G_aload_n (pc := 79) 0 dX9_spareBy_79 rfl ?_
    refine gwM_X9_169_0 (pc := 80) dX9_spareBy_80 ?_
    refine G_icmp_ge (pc := 83) 125 dX9_spareBy_83 (by decide) (fun c5 => ?_) (fun c5 => ?_)
    · replace h := itp c5 h
      refine G_iinc (pc := 125) (1) 2 [(2, .int _), (0, .ref _), (1, .int _), (3, .int _)] dX9_spareBy_125 ci_1 rfl (Nat.le_of_ble_eq_true rfl) rfl ?_
      refine G_goto (pc := 128) 66 dX9_spareBy_128 (by decide) ?_
      refine G_loc [1, 2, 0] [(0, .ref _), (1, .int _), (2, .int _)] rfl ?_
      exact hK66 _ _ _ _ h
    · replace h := itn c5 h
      refine G_aload_n (pc := 86) 0 dX9_spareBy_86 rfl ?_
      refine G_iconst (pc := 87) (1) dX9_spareBy_87 ci_1 ?_
      refine G_iload_n (pc := 88) 2 dX9_spareBy_88 rfl ?_
      refine G_ishl (pc := 89) dX9_spareBy_89 ?_
      refine G_iconst (pc := 90) (1) dX9_spareBy_90 ci_1 ?_
      refine G_iload_n (pc := 91) 3 dX9_spareBy_91 rfl ?_
      refine G_ishl (pc := 92) dX9_spareBy_92 ?_
      refine G_ior (pc := 93) dX9_spareBy_93 ?_
      obtain ⟨q6, e6, h⟩ := bnd_some h
      refine G_callV1r (pc := 94) 0 8 dX9_spareBy_94 wv_X9_257 cd_X9_isSpared (S_X9_isSpared _ _ _ e6) (by decide) (by decide) rfl (by decide) (fun _ _ => ⟨_, rfl⟩) (Nat.le_of_ble_eq_true rfl) ?_
      refine G_if_eq (pc := 97) 119 dX9_spareBy_97 (by decide) (fun c7 => ?_) (fun c7 => ?_)
      · replace h := itp c7 h
        refine G_iinc (pc := 119) (1) 3 [(3, .int _), (0, .ref _), (1, .int _), (2, .int _)] dX9_spareBy_119 ci_1 rfl (Nat.le_of_ble_eq_true rfl) rfl ?_
        refine G_goto (pc := 122) 78 dX9_spareBy_122 (by decide) ?_
        refine G_loc [1, 2, 3, 0] [(0, .ref _), (1, .int _), (2, .int _), (3, .int _)] rfl ?_
        exact ih _ _ _ _ _ h
      · replace h := itn c7 h
        refine G_iload_n (pc := 100) 1 dX9_spareBy_100 rfl ?_
        refine G_iconst (pc := 101) (-1) dX9_spareBy_101 ci_m1 ?_
        refine G_icmp_ne (pc := 102) 109 dX9_spareBy_102 (by decide) (fun c8 => ?_) (fun c8 => ?_)
        · rw [if_neg c8] at h
          refine G_iload_n (pc := 109) 1 dX9_spareBy_109 rfl ?_
          refine G_if_ne (pc := 110) 117 dX9_spareBy_110 (by decide) (fun c9 => ?_) (fun c9 => ?_)
          · rw [if_neg c9] at h
            refine G_iload_n (pc := 117) 3 dX9_spareBy_117 rfl ?_
            obtain rfl := Option.some.inj h
            exact G_iret (pc := 118) rfl dX9_spareBy_118
          · rw [if_pos c9] at h
            refine G_iload_n (pc := 113) 2 dX9_spareBy_113 rfl ?_
            refine G_goto (pc := 114) 118 dX9_spareBy_114 (by decide) ?_
            obtain rfl := Option.some.inj h
            exact G_iret (pc := 118) rfl dX9_spareBy_118
        · rw [if_pos c8] at h
          refine G_iconst (pc := 105) (2) dX9_spareBy_105 ci_2 ?_
          refine G_goto (pc := 106) 118 dX9_spareBy_106 (by decide) ?_
          obtain rfl := Option.some.inj h
          exact G_iret (pc := 118) rfl dX9_spareBy_118
def L_X9_spareBy_66 : Nat → Int32 → Int32 → Mm → Option (Int32 × Mm)
  | 0, _, _, _ => none
  | n + 1, x1, x2, μ => if (μ.1 0 13) ≤ x2 then some ((-1), μ) else L_X9_spareBy_78 (L_X9_spareBy_66 n) FUEL x1 x2 (x2 + 1) μ
set_option maxRecDepth 100000 in
set_option maxHeartbeats 4000000 in
theorem L_X9_spareBy_66_s (n : Nat) (x1 : Int32) (x2 : Int32) (μ : Mm) : L_X9_spareBy_66  (n + 1) x1 x2 μ = (if (μ.1 0 13) ≤ x2 then some ((-1), μ) else L_X9_spareBy_78 (L_X9_spareBy_66 n) FUEL x1 x2 (x2 + 1) μ) := rfl
set_option maxRecDepth 100000 in
set_option maxHeartbeats 4000000 in
theorem B_X9_spareBy_66 : ∀ (n : Nat) (x1 : Int32) (x2 : Int32) (μ : Mm) (q : (Int32 × Mm)), L_X9_spareBy_66  n x1 x2 μ = some q → G wM RX9 cX9_spareBy 4 (some .int) 6 (some (.int q.1)) q.2 66 [(0, .ref 0), (1, .int x1), (2, .int x2)] [] μ := by
  intro n
  induction n with
  | zero =>
    intro x1 x2 μ q  h
    cases h
  | succ n ih =>
    intro x1 x2 μ q  h
    rw [L_X9_spareBy_66_s] at h
    refine G_iload_n (pc := 66) 2 dX9_spareBy_66 rfl ?_
    refine G_aload_n (pc := 67) 0 dX9_spareBy_67 rfl ?_
    refine gwM_X9_169_0 (pc := 68) dX9_spareBy_68 ?_
    refine G_icmp_ge (pc := 71) 131 dX9_spareBy_71 (by decide) (fun c4 => ?_) (fun c4 => ?_)
    · replace h := itp c4 h
      refine G_iconst (pc := 131) (-1) dX9_spareBy_131 ci_m1 ?_
      obtain rfl := Option.some.inj h
      exact G_iret (pc := 132) rfl dX9_spareBy_132
    · replace h := itn c4 h
      refine G_iload_n (pc := 74) 2 dX9_spareBy_74 rfl ?_
      refine G_iconst (pc := 75) (1) dX9_spareBy_75 ci_1 ?_
      refine G_iadd (pc := 76) dX9_spareBy_76 ?_
      refine G_istore_n (pc := 77) [(3, .int _), (0, .ref _), (1, .int _), (2, .int _)] dX9_spareBy_77 (Nat.le_of_ble_eq_true rfl) rfl ?_
      refine G_loc [1, 2, 3, 0] [(0, .ref _), (1, .int _), (2, .int _), (3, .int _)] rfl ?_
      exact B_X9_spareBy_78 _ ih _ _ _ _ _ _ h
def L_X9_spareBy_21 : Nat → Int32 → Int32 → Mm → Option (Int32 × Mm)
  | 0, _, _, _ => none
  | n + 1, x1, x2, μ => if (μ.1 0 13) ≤ x2 then L_X9_spareBy_66 FUEL x1 0 μ else (F_X9_isSpared (1 <<< (x2 &&& 31)) μ).bind (fun q10 => if q10.1 = 0 then L_X9_spareBy_21 n x1 (x2 + 1) q10.2 else some ((if x1 = (-1) then 1 else (if x1 = 0 then x2 else (-1))), q10.2))
set_option maxRecDepth 100000 in
set_option maxHeartbeats 4000000 in
theorem L_X9_spareBy_21_s (n : Nat) (x1 : Int32) (x2 : Int32) (μ : Mm) : L_X9_spareBy_21  (n + 1) x1 x2 μ = (if (μ.1 0 13) ≤ x2 then L_X9_spareBy_66 FUEL x1 0 μ else (F_X9_isSpared (1 <<< (x2 &&& 31)) μ).bind (fun q10 => if q10.1 = 0 then L_X9_spareBy_21 n x1 (x2 + 1) q10.2 else some ((if x1 = (-1) then 1 else (if x1 = 0 then x2 else (-1))), q10.2))) := rfl
set_option maxRecDepth 100000 in
set_option maxHeartbeats 4000000 in
theorem B_X9_spareBy_21 : ∀ (n : Nat) (x1 : Int32) (x2 : Int32) (μ : Mm) (q : (Int32 × Mm)), L_X9_spareBy_21  n x1 x2 μ = some q → G wM RX9 cX9_spareBy 4 (some .int) 6 (some (.int q.1)) q.2 21 [(0, .ref 0), (1, .int x1), (2, .int x2)] [] μ := by
  intro n
  induction n with
  | zero =>
    intro x1 x2 μ q  h
    cases h
  | succ n ih =>
    intro x1 x2 μ q  h
    rw [L_X9_spareBy_21_s] at h
    refine G_iload_n (pc := 21) 2 dX9_spareBy_21 rfl ?_
    refine G_aload_n (pc := 22) 0 dX9_spareBy_22 rfl ?_
    refine gwM_X9_169_0 (pc := 23) dX9_spareBy_23 ?_
    refine G_icmp_ge (pc := 26) 64 dX9_spareBy_26 (by decide) (fun c3 => ?_) (fun c3 => ?_)
    · replace h := itp c3 h
      refine G_iconst (pc := 64) (0) dX9_spareBy_64 ci_0 ?_
      refine G_istore_n (pc := 65) [(2, .int _), (0, .ref _), (1, .int _)] dX9_spareBy_65 (Nat.le_of_ble_eq_true rfl) rfl ?_
      refine G_loc [1, 2, 0] [(0, .ref _), (1, .int _), (2, .int _)] rfl ?_
      exact B_X9_spareBy_66 _ _ _ _ _ h
    · replace h := itn c3 h
      refine G_aload_n (pc := 29) 0 dX9_spareBy_29 rfl ?_
      refine G_iconst (pc := 30) (1) dX9_spareBy_30 ci_1 ?_
      refine G_iload_n (pc := 31) 2 dX9_spareBy_31 rfl ?_
      refine G_ishl (pc := 32) dX9_spareBy_32 ?_
      obtain ⟨q10, e10, h⟩ := bnd_some h
      refine G_callV1r (pc := 33) 0 8 dX9_spareBy_33 wv_X9_257 cd_X9_isSpared (S_X9_isSpared _ _ _ e10) (by decide) (by decide) rfl (by decide) (fun _ _ => ⟨_, rfl⟩) (Nat.le_of_ble_eq_true rfl) ?_
      refine G_if_eq (pc := 36) 58 dX9_spareBy_36 (by decide) (fun c11 => ?_) (fun c11 => ?_)
      · replace h := itp c11 h
        refine G_iinc (pc := 58) (1) 2 [(2, .int _), (0, .ref _), (1, .int _)] dX9_spareBy_58 ci_1 rfl (Nat.le_of_ble_eq_true rfl) rfl ?_
        refine G_goto (pc := 61) 21 dX9_spareBy_61 (by decide) ?_
        refine G_loc [1, 2, 0] [(0, .ref _), (1, .int _), (2, .int _)] rfl ?_
        exact ih _ _ _ _ h
      · replace h := itn c11 h
        refine G_iload_n (pc := 39) 1 dX9_spareBy_39 rfl ?_
        refine G_iconst (pc := 40) (-1) dX9_spareBy_40 ci_m1 ?_
        refine G_icmp_ne (pc := 41) 48 dX9_spareBy_41 (by decide) (fun c12 => ?_) (fun c12 => ?_)
        · rw [if_neg c12] at h
          refine G_iload_n (pc := 48) 1 dX9_spareBy_48 rfl ?_
          refine G_if_ne (pc := 49) 56 dX9_spareBy_49 (by decide) (fun c13 => ?_) (fun c13 => ?_)
          · rw [if_neg c13] at h
            refine G_iconst (pc := 56) (-1) dX9_spareBy_56 ci_m1 ?_
            obtain rfl := Option.some.inj h
            exact G_iret (pc := 57) rfl dX9_spareBy_57
          · rw [if_pos c13] at h
            refine G_iload_n (pc := 52) 2 dX9_spareBy_52 rfl ?_
            refine G_goto (pc := 53) 57 dX9_spareBy_53 (by decide) ?_
            obtain rfl := Option.some.inj h
            exact G_iret (pc := 57) rfl dX9_spareBy_57
        · rw [if_pos c12] at h
          refine G_iconst (pc := 44) (1) dX9_spareBy_44 ci_1 ?_
          refine G_goto (pc := 45) 57 dX9_spareBy_45 (by decide) ?_
          obtain rfl := Option.some.inj h
          exact G_iret (pc := 57) rfl dX9_spareBy_57
def F_X9_spareBy (x1 : Int32) (μ : Mm) : Option (Int32 × Mm) := (F_X9_isSpared 0 μ).bind (fun q1 => if q1.1 = 0 then L_X9_spareBy_21 FUEL x1 0 q1.2 else some ((if x1 = (-1) then 0 else (-1)), q1.2))
set_option maxRecDepth 100000 in
set_option maxHeartbeats 4000000 in
theorem S_X9_spareBy (x1 : Int32)  (μ : Mm) (q : (Int32 × Mm)) (h : F_X9_spareBy x1 μ = some q) : Cn wM yX9_spareBy cX9_spareBy 4 (some .int) 6 [.ref 0, .int x1] μ (some (.int q.1)) q.2 := by
  refine Cn_of (by decide +kernel) (Nat.le_of_ble_eq_true rfl) ?_
  show G wM RX9 cX9_spareBy 4 (some .int) 6 (some (.int q.1)) q.2 0 [(0, .ref 0), (1, .int x1)] [] μ
  unfold F_X9_spareBy at h
  refine G_aload_n (pc := 0) 0 dX9_spareBy_0 rfl ?_
  refine G_iconst (pc := 1) (0) dX9_spareBy_1 ci_0 ?_
  obtain ⟨q1, e1, h⟩ := bnd_some h
  refine G_callV1r (pc := 2) 0 8 dX9_spareBy_2 wv_X9_257 cd_X9_isSpared (S_X9_isSpared _ _ _ e1) (by decide) (by decide) rfl (by decide) (fun _ _ => ⟨_, rfl⟩) (Nat.le_of_ble_eq_true rfl) ?_
  refine G_if_eq (pc := 5) 19 dX9_spareBy_5 (by decide) (fun c2 => ?_) (fun c2 => ?_)
  · replace h := itp c2 h
    refine G_iconst (pc := 19) (0) dX9_spareBy_19 ci_0 ?_
    refine G_istore_n (pc := 20) [(2, .int _), (0, .ref _), (1, .int _)] dX9_spareBy_20 (Nat.le_of_ble_eq_true rfl) rfl ?_
    refine G_loc [1, 2, 0] [(0, .ref _), (1, .int _), (2, .int _)] rfl ?_
    exact B_X9_spareBy_21 _ _ _ _ _ h
  · replace h := itn c2 h
    refine G_iload_n (pc := 8) 1 dX9_spareBy_8 rfl ?_
    refine G_iconst (pc := 9) (-1) dX9_spareBy_9 ci_m1 ?_
    refine G_icmp_ne (pc := 10) 17 dX9_spareBy_10 (by decide) (fun c14 => ?_) (fun c14 => ?_)
    · rw [if_neg c14] at h
      refine G_iconst (pc := 17) (-1) dX9_spareBy_17 ci_m1 ?_
      obtain rfl := Option.some.inj h
      exact G_iret (pc := 18) rfl dX9_spareBy_18
    · rw [if_pos c14] at h
      refine G_iconst (pc := 13) (0) dX9_spareBy_13 ci_0 ?_
      refine G_goto (pc := 14) 18 dX9_spareBy_14 (by decide) ?_
      obtain rfl := Option.some.inj h
      exact G_iret (pc := 18) rfl dX9_spareBy_18
def F_X9_spare (x1 : Int32) (μ : Mm) : Option (Int32 × Mm) := (F_X9_find μ).bind (fun q1 => (F_X9_in x1.toInt64 (-1) 1 q1).bind (fun q2 => if q2.1 = 0 then some ((-2), q2.2) else (F_X9_spareBy x1 q2.2).bind (fun q4 => some (q4.1, q4.2))))
set_option maxRecDepth 100000 in
set_option maxHeartbeats 4000000 in
theorem S_X9_spare (x1 : Int32)  (μ : Mm) (q : (Int32 × Mm)) (h : F_X9_spare x1 μ = some q) : Cn wM yX9_spare cX9_spare 2 (some .int) 7 [.ref 0, .int x1] μ (some (.int q.1)) q.2 := by
  refine Cn_of (by decide +kernel) (Nat.le_of_ble_eq_true rfl) ?_
  show G wM RX9 cX9_spare 2 (some .int) 7 (some (.int q.1)) q.2 0 [(0, .ref 0), (1, .int x1)] [] μ
  unfold F_X9_spare at h
  refine G_aload_n (pc := 0) 0 dX9_spare_0 rfl ?_
  obtain ⟨q1, e1, h⟩ := bnd_some h
  refine G_callV0v (pc := 1) 0 8 dX9_spare_1 wv_X9_220 cd_X9_find (S_X9_find _ _ e1) (by decide) (by decide) rfl (by decide) (fun _ _ => ⟨_, rfl⟩) (Nat.le_of_ble_eq_true rfl) ?_
  refine G_iload_n (pc := 4) 1 dX9_spare_4 rfl ?_
  refine G_i2l (pc := 5) dX9_spare_5 ?_
  refine G_ldc2 (pc := 6) (-1) dX9_spare_6 kl_X9_260 ?_
  refine G_lconst (pc := 9) (1) dX9_spare_9 lc_1 ?_
  obtain ⟨q2, e2, h⟩ := bnd_some h
  refine G_callS3r (pc := 10) dX9_spare_10 ws_X9_92 cd_X9_in (S_X9_in _ _ _ _ _ e2) (by decide) (by decide) (Nat.le_of_ble_eq_true rfl) ?_
  refine G_if_eq (pc := 13) 24 dX9_spare_13 (by decide) (fun c3 => ?_) (fun c3 => ?_)
  · replace h := itp c3 h
    refine G_bipush (pc := 24) (-2) dX9_spare_24 bp_m2 ?_
    obtain rfl := Option.some.inj h
    exact G_iret (pc := 26) rfl dX9_spare_26
  · replace h := itn c3 h
    refine G_aload_n (pc := 16) 0 dX9_spare_16 rfl ?_
    refine G_iload_n (pc := 17) 1 dX9_spare_17 rfl ?_
    obtain ⟨q4, e4, h⟩ := bnd_some h
    refine G_callV1r (pc := 18) 0 8 dX9_spare_18 wv_X9_262 cd_X9_spareBy (S_X9_spareBy _ _ _ e4) (by decide) (by decide) rfl (by decide) (fun _ _ => ⟨_, rfl⟩) (Nat.le_of_ble_eq_true rfl) ?_
    refine G_goto (pc := 21) 26 dX9_spare_21 (by decide) ?_
    obtain rfl := Option.some.inj h
    exact G_iret (pc := 26) rfl dX9_spare_26
def F_X9_seen (x1 : Int32) (x2 : Int32) (x3 : Int32) (μ : Mm) : Option (Int32 × Mm) := (F_X9_isWeek x1 μ).bind (fun q1 => if q1.1 = 0 then some ((-2), q1.2) else (F_X9_in x2.toInt64 0 9 q1.2).bind (fun q3 => if q3.1 = 0 then some ((-2), q3.2) else (F_X9_in x3.toInt64 0 3 q3.2).bind (fun q5 => if q5.1 = 0 then some ((-2), q5.2) else if (q5.2.1 0 33) = 8 then some ((-4), q5.2) else gi (3 * (q5.2.1 0 33)) 24 (gi ((3 * ((wI q5.2 23 (3 * (q5.2.1 0 33)).toNatClampNeg x1).1 0 33)) + 1) 24 (gi ((3 * ((wI (wI q5.2 23 (3 * (q5.2.1 0 33)).toNatClampNeg x1) 23 ((3 * ((wI q5.2 23 (3 * (q5.2.1 0 33)).toNatClampNeg x1).1 0 33)) + 1).toNatClampNeg x2).1 0 33)) + 2) 24 (some (((wI (wI (wI (wI q5.2 23 (3 * (q5.2.1 0 33)).toNatClampNeg x1) 23 ((3 * ((wI q5.2 23 (3 * (q5.2.1 0 33)).toNatClampNeg x1).1 0 33)) + 1).toNatClampNeg x2) 23 ((3 * ((wI (wI q5.2 23 (3 * (q5.2.1 0 33)).toNatClampNeg x1) 23 ((3 * ((wI q5.2 23 (3 * (q5.2.1 0 33)).toNatClampNeg x1).1 0 33)) + 1).toNatClampNeg x2).1 0 33)) + 2).toNatClampNeg x3) 0 33 (((wI (wI (wI q5.2 23 (3 * (q5.2.1 0 33)).toNatClampNeg x1) 23 ((3 * ((wI q5.2 23 (3 * (q5.2.1 0 33)).toNatClampNeg x1).1 0 33)) + 1).toNatClampNeg x2) 23 ((3 * ((wI (wI q5.2 23 (3 * (q5.2.1 0 33)).toNatClampNeg x1) 23 ((3 * ((wI q5.2 23 (3 * (q5.2.1 0 33)).toNatClampNeg x1).1 0 33)) + 1).toNatClampNeg x2).1 0 33)) + 2).toNatClampNeg x3).1 0 33) + 1)).1 0 33), (wI (wI (wI (wI q5.2 23 (3 * (q5.2.1 0 33)).toNatClampNeg x1) 23 ((3 * ((wI q5.2 23 (3 * (q5.2.1 0 33)).toNatClampNeg x1).1 0 33)) + 1).toNatClampNeg x2) 23 ((3 * ((wI (wI q5.2 23 (3 * (q5.2.1 0 33)).toNatClampNeg x1) 23 ((3 * ((wI q5.2 23 (3 * (q5.2.1 0 33)).toNatClampNeg x1).1 0 33)) + 1).toNatClampNeg x2).1 0 33)) + 2).toNatClampNeg x3) 0 33 (((wI (wI (wI q5.2 23 (3 * (q5.2.1 0 33)).toNatClampNeg x1) 23 ((3 * ((wI q5.2 23 (3 * (q5.2.1 0 33)).toNatClampNeg x1).1 0 33)) + 1).toNatClampNeg x2) 23 ((3 * ((wI (wI q5.2 23 (3 * (q5.2.1 0 33)).toNatClampNeg x1) 23 ((3 * ((wI q5.2 23 (3 * (q5.2.1 0 33)).toNatClampNeg x1).1 0 33)) + 1).toNatClampNeg x2).1 0 33)) + 2).toNatClampNeg x3).1 0 33) + 1)))))))))
set_option maxRecDepth 100000 in
set_option maxHeartbeats 4000000 in
theorem S_X9_seen (x1 : Int32) (x2 : Int32) (x3 : Int32)  (μ : Mm) (q : (Int32 × Mm)) (h : F_X9_seen x1 x2 x3 μ = some q) : Cn wM yX9_seen cX9_seen 4 (some .int) 2 [.ref 0, .int x1, .int x2, .int x3] μ (some (.int q.1)) q.2 := by
  refine Cn_of (by decide +kernel) (Nat.le_of_ble_eq_true rfl) ?_
  show G wM RX9 cX9_seen 4 (some .int) 2 (some (.int q.1)) q.2 0 [(0, .ref 0), (1, .int x1), (2, .int x2), (3, .int x3)] [] μ
  unfold F_X9_seen at h
  refine G_iload_n (pc := 0) 1 dX9_seen_0 rfl ?_
  obtain ⟨q1, e1, h⟩ := bnd_some h
  refine G_callS1r (pc := 1) dX9_seen_1 ws_X9_164 cd_X9_isWeek (S_X9_isWeek _ _ _ e1) (by decide) (by decide) (Nat.le_of_ble_eq_true rfl) ?_
  refine G_if_eq (pc := 4) 31 dX9_seen_4 (by decide) (fun c2 => ?_) (fun c2 => ?_)
  · replace h := itp c2 h
    refine G_bipush (pc := 31) (-2) dX9_seen_31 bp_m2 ?_
    obtain rfl := Option.some.inj h
    exact G_iret (pc := 33) rfl dX9_seen_33
  · replace h := itn c2 h
    refine G_iload_n (pc := 7) 2 dX9_seen_7 rfl ?_
    refine G_i2l (pc := 8) dX9_seen_8 ?_
    refine G_lconst (pc := 9) (0) dX9_seen_9 lc_0 ?_
    refine G_ldc2 (pc := 10) (9) dX9_seen_10 kl_X9_167 ?_
    obtain ⟨q3, e3, h⟩ := bnd_some h
    refine G_callS3r (pc := 13) dX9_seen_13 ws_X9_92 cd_X9_in (S_X9_in _ _ _ _ _ e3) (by decide) (by decide) (Nat.le_of_ble_eq_true rfl) ?_
    refine G_if_eq (pc := 16) 31 dX9_seen_16 (by decide) (fun c4 => ?_) (fun c4 => ?_)
    · replace h := itp c4 h
      refine G_bipush (pc := 31) (-2) dX9_seen_31 bp_m2 ?_
      obtain rfl := Option.some.inj h
      exact G_iret (pc := 33) rfl dX9_seen_33
    · replace h := itn c4 h
      refine G_iload_n (pc := 19) 3 dX9_seen_19 rfl ?_
      refine G_i2l (pc := 20) dX9_seen_20 ?_
      refine G_lconst (pc := 21) (0) dX9_seen_21 lc_0 ?_
      refine G_ldc2 (pc := 22) (3) dX9_seen_22 kl_X9_99 ?_
      obtain ⟨q5, e5, h⟩ := bnd_some h
      refine G_callS3r (pc := 25) dX9_seen_25 ws_X9_92 cd_X9_in (S_X9_in _ _ _ _ _ e5) (by decide) (by decide) (Nat.le_of_ble_eq_true rfl) ?_
      refine G_if_ne (pc := 28) 34 dX9_seen_28 (by decide) (fun c6 => ?_) (fun c6 => ?_)
      · replace h := itn c6 h
        refine G_aload_n (pc := 34) 0 dX9_seen_34 rfl ?_
        refine gwM_X9_265_0 (pc := 35) dX9_seen_35 ?_
        refine G_bipush (pc := 38) (8) dX9_seen_38 bp_8 ?_
        refine G_icmp_ne (pc := 40) 46 dX9_seen_40 (by decide) (fun c7 => ?_) (fun c7 => ?_)
        · replace h := itn c7 h
          refine G_aload_n (pc := 46) 0 dX9_seen_46 rfl ?_
          refine gwM_X9_77_0 (pc := 47) dX9_seen_47 ?_
          refine G_iconst (pc := 50) (3) dX9_seen_50 ci_3 ?_
          refine G_aload_n (pc := 51) 0 dX9_seen_51 rfl ?_
          refine gwM_X9_265_0 (pc := 52) dX9_seen_52 ?_
          refine G_imul (pc := 55) dX9_seen_55 ?_
          refine G_iload_n (pc := 56) 1 dX9_seen_56 rfl ?_
          obtain ⟨g8, h⟩ := gi_some h
          refine aswM_23 (pc := 57) dX9_seen_57 g8 ?_
          refine G_aload_n (pc := 58) 0 dX9_seen_58 rfl ?_
          refine gwM_X9_77_0 (pc := 59) dX9_seen_59 ?_
          refine G_iconst (pc := 62) (3) dX9_seen_62 ci_3 ?_
          refine G_aload_n (pc := 63) 0 dX9_seen_63 rfl ?_
          refine gwM_X9_265_0 (pc := 64) dX9_seen_64 ?_
          refine G_imul (pc := 67) dX9_seen_67 ?_
          refine G_iconst (pc := 68) (1) dX9_seen_68 ci_1 ?_
          refine G_iadd (pc := 69) dX9_seen_69 ?_
          refine G_iload_n (pc := 70) 2 dX9_seen_70 rfl ?_
          obtain ⟨g9, h⟩ := gi_some h
          refine aswM_23 (pc := 71) dX9_seen_71 g9 ?_
          refine G_aload_n (pc := 72) 0 dX9_seen_72 rfl ?_
          refine gwM_X9_77_0 (pc := 73) dX9_seen_73 ?_
          refine G_iconst (pc := 76) (3) dX9_seen_76 ci_3 ?_
          refine G_aload_n (pc := 77) 0 dX9_seen_77 rfl ?_
          refine gwM_X9_265_0 (pc := 78) dX9_seen_78 ?_
          refine G_imul (pc := 81) dX9_seen_81 ?_
          refine G_iconst (pc := 82) (2) dX9_seen_82 ci_2 ?_
          refine G_iadd (pc := 83) dX9_seen_83 ?_
          refine G_iload_n (pc := 84) 3 dX9_seen_84 rfl ?_
          obtain ⟨g10, h⟩ := gi_some h
          refine aswM_23 (pc := 85) dX9_seen_85 g10 ?_
          refine G_aload_n (pc := 86) 0 dX9_seen_86 rfl ?_
          refine G_dup (pc := 87) dX9_seen_87 rfl ?_
          refine gwM_X9_265_0 (pc := 88) dX9_seen_88 ?_
          refine G_iconst (pc := 91) (1) dX9_seen_91 ci_1 ?_
          refine G_iadd (pc := 92) dX9_seen_92 ?_
          refine pwM_X9_265_0 (pc := 93) dX9_seen_93 ?_
          refine G_aload_n (pc := 96) 0 dX9_seen_96 rfl ?_
          refine gwM_X9_265_0 (pc := 97) dX9_seen_97 ?_
          obtain rfl := Option.some.inj h
          exact G_iret (pc := 100) rfl dX9_seen_100
        · replace h := itp c7 h
          refine G_bipush (pc := 43) (-4) dX9_seen_43 bp_m4 ?_
          obtain rfl := Option.some.inj h
          exact G_iret (pc := 45) rfl dX9_seen_45
      · replace h := itp c6 h
        refine G_bipush (pc := 31) (-2) dX9_seen_31 bp_m2 ?_
        obtain rfl := Option.some.inj h
        exact G_iret (pc := 33) rfl dX9_seen_33
def F_X9_forget  (μ : Mm) : Option (Int32 × Mm) := some ((μ.1 0 33), (wI μ 0 33 0))
set_option maxRecDepth 100000 in
set_option maxHeartbeats 4000000 in
theorem S_X9_forget   (μ : Mm) (q : (Int32 × Mm)) (h : F_X9_forget  μ = some q) : Cn wM yX9_forget cX9_forget 2 (some .int) 0 [.ref 0] μ (some (.int q.1)) q.2 := by
  refine Cn_of (by decide +kernel) (Nat.le_of_ble_eq_true rfl) ?_
  show G wM RX9 cX9_forget 2 (some .int) 0 (some (.int q.1)) q.2 0 [(0, .ref 0)] [] μ
  unfold F_X9_forget at h
  refine G_aload_n (pc := 0) 0 dX9_forget_0 rfl ?_
  refine gwM_X9_265_0 (pc := 1) dX9_forget_1 ?_
  refine G_istore_n (pc := 4) [(1, .int _), (0, .ref _)] dX9_forget_4 (Nat.le_of_ble_eq_true rfl) rfl ?_
  refine G_aload_n (pc := 5) 1 dX9_forget_5 rfl ?_
  refine G_iconst (pc := 6) (0) dX9_forget_6 ci_0 ?_
  refine pwM_X9_265_0 (pc := 7) dX9_forget_7 ?_
  refine G_iload_n (pc := 10) 0 dX9_forget_10 rfl ?_
  obtain rfl := Option.some.inj h
  exact G_iret (pc := 11) rfl dX9_forget_11
def F_X9_placeOf_32 (K5 : Int32 → Int32 → Int32 → Int32 → Mm → Option (Int32 × Mm)) (x1 : Int32) (x2 : Int32) (x4 : Int32) (y0 : Int32) (μ : Mm) : Option (Int32 × Mm) := K5 x1 x2 y0 (x4 + 1) μ
set_option maxRecDepth 100000 in
set_option maxHeartbeats 4000000 in
theorem B_X9_placeOf_32 (K5 : Int32 → Int32 → Int32 → Int32 → Mm → Option (Int32 × Mm)) (hK5 : ∀ (x1 : Int32) (x2 : Int32) (x3 : Int32) (x4 : Int32) (μ : Mm) (q : (Int32 × Mm)), K5 x1 x2 x3 x4 μ = some q → G wM RX9 cX9_placeOf 5 (some .int) 0 (some (.int q.1)) q.2 5 [(0, .ref 0), (1, .int x1), (2, .int x2), (3, .int x3), (4, .int x4)] [] μ) (x1 : Int32) (x2 : Int32) (x4 : Int32) (y0 : Int32) (μ : Mm) (q : (Int32 × Mm))  (h : F_X9_placeOf_32 K5 x1 x2 x4 y0 μ = some q) : G wM RX9 cX9_placeOf 5 (some .int) 0 (some (.int q.1)) q.2 32 [(0, .ref 0), (1, .int x1), (2, .int x2), (4, .int x4)] [.int y0] μ := by
  unfold F_X9_placeOf_32 at h
  refine G_istore_n (pc := 32) [(3, .int _), (0, .ref _), (1, .int _), (2, .int _), (4, .int _)] dX9_placeOf_32 (Nat.le_of_ble_eq_true rfl) rfl ?_
  refine G_iinc (pc := 33) (1) 4 [(4, .int _), (3, .int _), (0, .ref _), (1, .int _), (2, .int _)] dX9_placeOf_33 ci_1 rfl (Nat.le_of_ble_eq_true rfl) rfl ?_
  refine G_goto (pc := 36) 5 dX9_placeOf_36 (by decide) ?_
  refine G_loc [2, 3, 4, 1, 0] [(0, .ref _), (1, .int _), (2, .int _), (3, .int _), (4, .int _)] rfl ?_
  exact hK5 _ _ _ _ _ _ h
def L_X9_placeOf_5 : Nat → Int32 → Int32 → Int32 → Int32 → Mm → Option (Int32 × Mm)
  | 0, _, _, _, _, _ => none
  | n + 1, x1, x2, x3, x4, μ => if 3 ≤ x4 then some (x3, μ) else gi ((3 * x1) + x4) 36 (F_X9_placeOf_32 (L_X9_placeOf_5 n) x1 x2 x4 (if (μ.1 22 ((3 * x1) + x4).toNatClampNeg) = x2 then x4 else x3) μ)
set_option maxRecDepth 100000 in
set_option maxHeartbeats 4000000 in
theorem L_X9_placeOf_5_s (n : Nat) (x1 : Int32) (x2 : Int32) (x3 : Int32) (x4 : Int32) (μ : Mm) : L_X9_placeOf_5  (n + 1) x1 x2 x3 x4 μ = (if 3 ≤ x4 then some (x3, μ) else gi ((3 * x1) + x4) 36 (F_X9_placeOf_32 (L_X9_placeOf_5 n) x1 x2 x4 (if (μ.1 22 ((3 * x1) + x4).toNatClampNeg) = x2 then x4 else x3) μ)) := rfl
set_option maxRecDepth 100000 in
set_option maxHeartbeats 4000000 in
theorem B_X9_placeOf_5 : ∀ (n : Nat) (x1 : Int32) (x2 : Int32) (x3 : Int32) (x4 : Int32) (μ : Mm) (q : (Int32 × Mm)), L_X9_placeOf_5  n x1 x2 x3 x4 μ = some q → G wM RX9 cX9_placeOf 5 (some .int) 0 (some (.int q.1)) q.2 5 [(0, .ref 0), (1, .int x1), (2, .int x2), (3, .int x3), (4, .int x4)] [] μ := by
  intro n
  induction n with
  | zero =>
    intro x1 x2 x3 x4 μ q  h
    cases h
  | succ n ih =>
    intro x1 x2 x3 x4 μ q  h
    rw [L_X9_placeOf_5_s] at h
    refine G_iload (pc := 5) 4 dX9_placeOf_5 rfl ?_
    refine G_iconst (pc := 7) (3) dX9_placeOf_7 ci_3 ?_
    refine G_icmp_ge (pc := 8) 39 dX9_placeOf_8 (by decide) (fun c1 => ?_) (fun c1 => ?_)
    · replace h := itp c1 h
      refine G_iload_n (pc := 39) 3 dX9_placeOf_39 rfl ?_
      obtain rfl := Option.some.inj h
      exact G_iret (pc := 40) rfl dX9_placeOf_40
    · replace h := itn c1 h
      refine G_aload_n (pc := 11) 0 dX9_placeOf_11 rfl ?_
      refine gwM_X9_74_0 (pc := 12) dX9_placeOf_12 ?_
      refine G_iconst (pc := 15) (3) dX9_placeOf_15 ci_3 ?_
      refine G_iload_n (pc := 16) 1 dX9_placeOf_16 rfl ?_
      refine G_imul (pc := 17) dX9_placeOf_17 ?_
      refine G_iload (pc := 18) 4 dX9_placeOf_18 rfl ?_
      refine G_iadd (pc := 20) dX9_placeOf_20 ?_
      obtain ⟨g2, h⟩ := gi_some h
      refine alwM_22 (pc := 21) dX9_placeOf_21 g2 ?_
      refine G_iload_n (pc := 22) 2 dX9_placeOf_22 rfl ?_
      refine G_icmp_ne (pc := 23) 31 dX9_placeOf_23 (by decide) (fun c3 => ?_) (fun c3 => ?_)
      · rw [if_neg c3] at h
        refine G_iload_n (pc := 31) 3 dX9_placeOf_31 rfl ?_
        refine G_loc [0, 1, 2, 4] [(0, .ref _), (1, .int _), (2, .int _), (4, .int _)] rfl ?_
        exact B_X9_placeOf_32 _ ih _ _ _ _ _ _ h
      · rw [if_pos c3] at h
        refine G_iload (pc := 26) 4 dX9_placeOf_26 rfl ?_
        refine G_goto (pc := 28) 32 dX9_placeOf_28 (by decide) ?_
        refine G_loc [0, 1, 2, 4] [(0, .ref _), (1, .int _), (2, .int _), (4, .int _)] rfl ?_
        exact B_X9_placeOf_32 _ ih _ _ _ _ _ _ h
def F_X9_placeOf (x1 : Int32) (x2 : Int32) (μ : Mm) : Option (Int32 × Mm) := L_X9_placeOf_5 FUEL x1 x2 3 0 μ
set_option maxRecDepth 100000 in
set_option maxHeartbeats 4000000 in
theorem S_X9_placeOf (x1 : Int32) (x2 : Int32)  (μ : Mm) (q : (Int32 × Mm)) (h : F_X9_placeOf x1 x2 μ = some q) : Cn wM yX9_placeOf cX9_placeOf 5 (some .int) 0 [.ref 0, .int x1, .int x2] μ (some (.int q.1)) q.2 := by
  refine Cn_of (by decide +kernel) (Nat.le_of_ble_eq_true rfl) ?_
  show G wM RX9 cX9_placeOf 5 (some .int) 0 (some (.int q.1)) q.2 0 [(0, .ref 0), (1, .int x1), (2, .int x2)] [] μ
  unfold F_X9_placeOf at h
  refine G_iconst (pc := 0) (3) dX9_placeOf_0 ci_3 ?_
  refine G_istore_n (pc := 1) [(3, .int _), (0, .ref _), (1, .int _), (2, .int _)] dX9_placeOf_1 (Nat.le_of_ble_eq_true rfl) rfl ?_
  refine G_iconst (pc := 2) (0) dX9_placeOf_2 ci_0 ?_
  refine G_istore (pc := 3) [(4, .int _), (3, .int _), (0, .ref _), (1, .int _), (2, .int _)] dX9_placeOf_3 (Nat.le_of_ble_eq_true rfl) rfl ?_
  refine G_loc [2, 3, 4, 1, 0] [(0, .ref _), (1, .int _), (2, .int _), (3, .int _), (4, .int _)] rfl ?_
  exact B_X9_placeOf_5 _ _ _ _ _ _ _ h
def F_X9_isSeen_70 (K8 : Int32 → Int32 → Mm → Option (Int32 × Mm)) (x2 : Int32) (y0 : Int32) (μ : Mm) : Option (Int32 × Mm) := K8 y0 (x2 + 1) μ
set_option maxRecDepth 100000 in
set_option maxHeartbeats 4000000 in
theorem B_X9_isSeen_70 (K8 : Int32 → Int32 → Mm → Option (Int32 × Mm)) (hK8 : ∀ (x1 : Int32) (x2 : Int32) (μ : Mm) (q : (Int32 × Mm)), K8 x1 x2 μ = some q → G wM RX9 cX9_isSeen 4 (some .boolean) 5 (some (.int q.1)) q.2 8 [(0, .ref 0), (1, .int x1), (2, .int x2)] [] μ) (x2 : Int32) (y0 : Int32) (μ : Mm) (q : (Int32 × Mm))  (h : F_X9_isSeen_70 K8 x2 y0 μ = some q) : G wM RX9 cX9_isSeen 4 (some .boolean) 5 (some (.int q.1)) q.2 70 [(0, .ref 0), (2, .int x2)] [.int y0] μ := by
  unfold F_X9_isSeen_70 at h
  refine G_istore_n (pc := 70) [(1, .int _), (0, .ref _), (2, .int _)] dX9_isSeen_70 (Nat.le_of_ble_eq_true rfl) rfl ?_
  refine G_iinc (pc := 71) (1) 2 [(2, .int _), (1, .int _), (0, .ref _)] dX9_isSeen_71 ci_1 rfl (Nat.le_of_ble_eq_true rfl) rfl ?_
  refine G_goto (pc := 74) 8 dX9_isSeen_74 (by decide) ?_
  refine G_loc [2, 1, 0] [(0, .ref _), (1, .int _), (2, .int _)] rfl ?_
  exact hK8 _ _ _ _ h
def F_X9_isSeen_69 (K8 : Int32 → Int32 → Mm → Option (Int32 × Mm)) (x2 : Int32) (μ : Mm) : Option (Int32 × Mm) := F_X9_isSeen_70 K8 x2 0 μ
set_option maxRecDepth 100000 in
set_option maxHeartbeats 4000000 in
theorem B_X9_isSeen_69 (K8 : Int32 → Int32 → Mm → Option (Int32 × Mm)) (hK8 : ∀ (x1 : Int32) (x2 : Int32) (μ : Mm) (q : (Int32 × Mm)), K8 x1 x2 μ = some q → G wM RX9 cX9_isSeen 4 (some .boolean) 5 (some (.int q.1)) q.2 8 [(0, .ref 0), (1, .int x1), (2, .int x2)] [] μ) (x2 : Int32) (μ : Mm) (q : (Int32 × Mm))  (h : F_X9_isSeen_69 K8 x2 μ = some q) : G wM RX9 cX9_isSeen 4 (some .boolean) 5 (some (.int q.1)) q.2 69 [(0, .ref 0), (2, .int x2)] [] μ := by
  unfold F_X9_isSeen_69 at h
  refine G_iconst (pc := 69) (0) dX9_isSeen_69 ci_0 ?_
  exact B_X9_isSeen_70 _ hK8 _ _ _ _ h
def L_X9_isSeen_8 : Nat → Int32 → Int32 → Mm → Option (Int32 × Mm)
  | 0, _, _, _ => none
  | n + 1, x1, x2, μ => if (μ.1 0 33) ≤ x2 then gb x1 (some (x1, μ)) else gi ((3 * x2) + 1) 24 (if x1 = 0 then F_X9_isSeen_69 (L_X9_isSeen_8 n) x2 μ else (F_X9_isThing (μ.1 23 ((3 * x2) + 1).toNatClampNeg) μ).bind (fun q6 => if q6.1 = 0 then F_X9_isSeen_69 (L_X9_isSeen_8 n) x2 q6.2 else gi (3 * x2) 24 ((F_X9_placeOf (q6.2.1 23 (3 * x2).toNatClampNeg) (μ.1 23 ((3 * x2) + 1).toNatClampNeg) q6.2).bind (fun q9 => gi ((3 * x2) + 2) 24 (if q9.1 = (q9.2.1 23 ((3 * x2) + 2).toNatClampNeg) then F_X9_isSeen_70 (L_X9_isSeen_8 n) x2 1 q9.2 else F_X9_isSeen_69 (L_X9_isSeen_8 n) x2 q9.2)))))
set_option maxRecDepth 100000 in
set_option maxHeartbeats 4000000 in
theorem L_X9_isSeen_8_s (n : Nat) (x1 : Int32) (x2 : Int32) (μ : Mm) : L_X9_isSeen_8  (n + 1) x1 x2 μ = (if (μ.1 0 33) ≤ x2 then gb x1 (some (x1, μ)) else gi ((3 * x2) + 1) 24 (if x1 = 0 then F_X9_isSeen_69 (L_X9_isSeen_8 n) x2 μ else (F_X9_isThing (μ.1 23 ((3 * x2) + 1).toNatClampNeg) μ).bind (fun q6 => if q6.1 = 0 then F_X9_isSeen_69 (L_X9_isSeen_8 n) x2 q6.2 else gi (3 * x2) 24 ((F_X9_placeOf (q6.2.1 23 (3 * x2).toNatClampNeg) (μ.1 23 ((3 * x2) + 1).toNatClampNeg) q6.2).bind (fun q9 => gi ((3 * x2) + 2) 24 (if q9.1 = (q9.2.1 23 ((3 * x2) + 2).toNatClampNeg) then F_X9_isSeen_70 (L_X9_isSeen_8 n) x2 1 q9.2 else F_X9_isSeen_69 (L_X9_isSeen_8 n) x2 q9.2)))))) := rfl
set_option maxRecDepth 100000 in
set_option maxHeartbeats 4000000 in
theorem B_X9_isSeen_8 : ∀ (n : Nat) (x1 : Int32) (x2 : Int32) (μ : Mm) (q : (Int32 × Mm)), L_X9_isSeen_8  n x1 x2 μ = some q → G wM RX9 cX9_isSeen 4 (some .boolean) 5 (some (.int q.1)) q.2 8 [(0, .ref 0), (1, .int x1), (2, .int x2)] [] μ := by
  intro n
  induction n with
  | zero =>
    intro x1 x2 μ q  h
    cases h
  | succ n ih =>
    intro x1 x2 μ q  h
    rw [L_X9_isSeen_8_s] at h
    refine G_iload_n (pc := 8) 2 dX9_isSeen_8 rfl ?_
    refine G_aload_n (pc := 9) 0 dX9_isSeen_9 rfl ?_
    refine gwM_X9_265_0 (pc := 10) dX9_isSeen_10 ?_
    refine G_icmp_ge (pc := 13) 77 dX9_isSeen_13 (by decide) (fun c2 => ?_) (fun c2 => ?_)
    · replace h := itp c2 h
      refine G_iload_n (pc := 77) 1 dX9_isSeen_77 rfl ?_
      obtain ⟨g3, h⟩ := gb_some h
      obtain rfl := Option.some.inj h
      exact G_zret (pc := 78) rfl g3 dX9_isSeen_78
    · replace h := itn c2 h
      refine G_aload_n (pc := 16) 0 dX9_isSeen_16 rfl ?_
      refine gwM_X9_77_0 (pc := 17) dX9_isSeen_17 ?_
      refine G_iconst (pc := 20) (3) dX9_isSeen_20 ci_3 ?_
      refine G_iload_n (pc := 21) 2 dX9_isSeen_21 rfl ?_
      refine G_imul (pc := 22) dX9_isSeen_22 ?_
      refine G_iconst (pc := 23) (1) dX9_isSeen_23 ci_1 ?_
      refine G_iadd (pc := 24) dX9_isSeen_24 ?_
      obtain ⟨g4, h⟩ := gi_some h
      refine alwM_23 (pc := 25) dX9_isSeen_25 g4 ?_
      refine G_istore_n (pc := 26) [(3, .int _), (0, .ref _), (1, .int _), (2, .int _)] dX9_isSeen_26 (Nat.le_of_ble_eq_true rfl) rfl ?_
      refine G_iload_n (pc := 27) 2 dX9_isSeen_27 rfl ?_
      refine G_if_eq (pc := 28) 69 dX9_isSeen_28 (by decide) (fun c5 => ?_) (fun c5 => ?_)
      · replace h := itp c5 h
        refine G_loc [1, 3] [(0, .ref _), (2, .int _)] rfl ?_
        exact B_X9_isSeen_69 _ ih _ _ _ h
      · replace h := itn c5 h
        refine G_aload_n (pc := 31) 1 dX9_isSeen_31 rfl ?_
        refine G_iload_n (pc := 32) 0 dX9_isSeen_32 rfl ?_
        obtain ⟨q6, e6, h⟩ := bnd_some h
        refine G_callV1r (pc := 33) 0 8 dX9_isSeen_33 wv_X9_158 cd_X9_isThing (S_X9_isThing _ _ _ e6) (by decide) (by decide) rfl (by decide) (fun _ _ => ⟨_, rfl⟩) (Nat.le_of_ble_eq_true rfl) ?_
        refine G_if_eq (pc := 36) 69 dX9_isSeen_36 (by decide) (fun c7 => ?_) (fun c7 => ?_)
        · replace h := itp c7 h
          refine G_loc [1, 3] [(0, .ref _), (2, .int _)] rfl ?_
          exact B_X9_isSeen_69 _ ih _ _ _ h
        · replace h := itn c7 h
          refine G_aload_n (pc := 39) 1 dX9_isSeen_39 rfl ?_
          refine G_aload_n (pc := 40) 1 dX9_isSeen_40 rfl ?_
          refine gwM_X9_77_0 (pc := 41) dX9_isSeen_41 ?_
          refine G_iconst (pc := 44) (3) dX9_isSeen_44 ci_3 ?_
          refine G_iload_n (pc := 45) 3 dX9_isSeen_45 rfl ?_
          refine G_imul (pc := 46) dX9_isSeen_46 ?_
          obtain ⟨g8, h⟩ := gi_some h
          refine alwM_23 (pc := 47) dX9_isSeen_47 g8 ?_
          refine G_iload_n (pc := 48) 0 dX9_isSeen_48 rfl ?_
          obtain ⟨q9, e9, h⟩ := bnd_some h
          refine G_callV2r (pc := 49) 0 8 dX9_isSeen_49 wv_X9_268 cd_X9_placeOf (S_X9_placeOf _ _ _ _ e9) (by decide) (by decide) rfl (by decide) (fun _ _ => ⟨_, rfl⟩) (Nat.le_of_ble_eq_true rfl) ?_
          refine G_aload_n (pc := 52) 1 dX9_isSeen_52 rfl ?_
          refine gwM_X9_77_0 (pc := 53) dX9_isSeen_53 ?_
          refine G_iconst (pc := 56) (3) dX9_isSeen_56 ci_3 ?_
          refine G_iload_n (pc := 57) 3 dX9_isSeen_57 rfl ?_
          refine G_imul (pc := 58) dX9_isSeen_58 ?_
          refine G_iconst (pc := 59) (2) dX9_isSeen_59 ci_2 ?_
          refine G_iadd (pc := 60) dX9_isSeen_60 ?_
          obtain ⟨g10, h⟩ := gi_some h
          refine alwM_23 (pc := 61) dX9_isSeen_61 g10 ?_
          refine G_icmp_ne (pc := 62) 69 dX9_isSeen_62 (by decide) (fun c11 => ?_) (fun c11 => ?_)
          · replace h := itn c11 h
            refine G_loc [1, 3] [(0, .ref _), (2, .int _)] rfl ?_
            exact B_X9_isSeen_69 _ ih _ _ _ h
          · replace h := itp c11 h
            refine G_iconst (pc := 65) (1) dX9_isSeen_65 ci_1 ?_
            refine G_goto (pc := 66) 70 dX9_isSeen_66 (by decide) ?_
            refine G_loc [1, 3] [(0, .ref _), (2, .int _)] rfl ?_
            exact B_X9_isSeen_70 _ ih _ _ _ _ h
def F_X9_isSeen  (μ : Mm) : Option (Int32 × Mm) := (F_X9_lives μ).bind (fun q1 => L_X9_isSeen_8 FUEL 1 0 q1)
set_option maxRecDepth 100000 in
set_option maxHeartbeats 4000000 in
theorem S_X9_isSeen   (μ : Mm) (q : (Int32 × Mm)) (h : F_X9_isSeen  μ = some q) : Cn wM yX9_isSeen cX9_isSeen 4 (some .boolean) 5 [.ref 0] μ (some (.int q.1)) q.2 := by
  refine Cn_of (by decide +kernel) (Nat.le_of_ble_eq_true rfl) ?_
  show G wM RX9 cX9_isSeen 4 (some .boolean) 5 (some (.int q.1)) q.2 0 [(0, .ref 0)] [] μ
  unfold F_X9_isSeen at h
  refine G_aload_n (pc := 0) 0 dX9_isSeen_0 rfl ?_
  obtain ⟨q1, e1, h⟩ := bnd_some h
  refine G_callV0v (pc := 1) 0 8 dX9_isSeen_1 wv_X9_217 cd_X9_lives (S_X9_lives _ _ e1) (by decide) (by decide) rfl (by decide) (fun _ _ => ⟨_, rfl⟩) (Nat.le_of_ble_eq_true rfl) ?_
  refine G_iconst (pc := 4) (1) dX9_isSeen_4 ci_1 ?_
  refine G_istore_n (pc := 5) [(1, .int _), (0, .ref _)] dX9_isSeen_5 (Nat.le_of_ble_eq_true rfl) rfl ?_
  refine G_iconst (pc := 6) (0) dX9_isSeen_6 ci_0 ?_
  refine G_istore_n (pc := 7) [(2, .int _), (1, .int _), (0, .ref _)] dX9_isSeen_7 (Nat.le_of_ble_eq_true rfl) rfl ?_
  refine G_loc [2, 1, 0] [(0, .ref _), (1, .int _), (2, .int _)] rfl ?_
  exact B_X9_isSeen_8 _ _ _ _ _ h
def F_X9_neverNow_34 (K4 : Int32 → Int32 → Mm → Option (Int32 × Mm)) (x2 : Int32) (y0 : Int32) (y1 : Int32) (μ : Mm) : Option (Int32 × Mm) := K4 (y1 ||| y0) (x2 + 1) μ
set_option maxRecDepth 100000 in
set_option maxHeartbeats 4000000 in
theorem B_X9_neverNow_34 (K4 : Int32 → Int32 → Mm → Option (Int32 × Mm)) (hK4 : ∀ (x1 : Int32) (x2 : Int32) (μ : Mm) (q : (Int32 × Mm)), K4 x1 x2 μ = some q → G wM RX9 cX9_neverNow 3 (some .int) 6 (some (.int q.1)) q.2 4 [(0, .ref 0), (1, .int x1), (2, .int x2)] [] μ) (x2 : Int32) (y0 : Int32) (y1 : Int32) (μ : Mm) (q : (Int32 × Mm))  (h : F_X9_neverNow_34 K4 x2 y0 y1 μ = some q) : G wM RX9 cX9_neverNow 3 (some .int) 6 (some (.int q.1)) q.2 34 [(0, .ref 0), (2, .int x2)] [.int y0, .int y1] μ := by
  unfold F_X9_neverNow_34 at h
  refine G_ior (pc := 34) dX9_neverNow_34 ?_
  refine G_istore_n (pc := 35) [(1, .int _), (0, .ref _), (2, .int _)] dX9_neverNow_35 (Nat.le_of_ble_eq_true rfl) rfl ?_
  refine G_iinc (pc := 36) (1) 2 [(2, .int _), (1, .int _), (0, .ref _)] dX9_neverNow_36 ci_1 rfl (Nat.le_of_ble_eq_true rfl) rfl ?_
  refine G_goto (pc := 39) 4 dX9_neverNow_39 (by decide) ?_
  refine G_loc [2, 1, 0] [(0, .ref _), (1, .int _), (2, .int _)] rfl ?_
  exact hK4 _ _ _ _ h
def L_X9_neverNow_4 : Nat → Int32 → Int32 → Mm → Option (Int32 × Mm)
  | 0, _, _, _ => none
  | n + 1, x1, x2, μ => if (μ.1 0 13) ≤ x2 then some (x1, (wI μ 0 15 0)) else (F_X9_isSeen (wI μ 0 15 (1 <<< (x2 &&& 31)))).bind (fun q2 => F_X9_neverNow_34 (L_X9_neverNow_4 n) x2 (if q2.1 = 0 then 0 else (1 <<< (x2 &&& 31))) x1 q2.2)
set_option maxRecDepth 100000 in
set_option maxHeartbeats 4000000 in
theorem L_X9_neverNow_4_s (n : Nat) (x1 : Int32) (x2 : Int32) (μ : Mm) : L_X9_neverNow_4  (n + 1) x1 x2 μ = (if (μ.1 0 13) ≤ x2 then some (x1, (wI μ 0 15 0)) else (F_X9_isSeen (wI μ 0 15 (1 <<< (x2 &&& 31)))).bind (fun q2 => F_X9_neverNow_34 (L_X9_neverNow_4 n) x2 (if q2.1 = 0 then 0 else (1 <<< (x2 &&& 31))) x1 q2.2)) := rfl
set_option maxRecDepth 100000 in
set_option maxHeartbeats 4000000 in
theorem B_X9_neverNow_4 : ∀ (n : Nat) (x1 : Int32) (x2 : Int32) (μ : Mm) (q : (Int32 × Mm)), L_X9_neverNow_4  n x1 x2 μ = some q → G wM RX9 cX9_neverNow 3 (some .int) 6 (some (.int q.1)) q.2 4 [(0, .ref 0), (1, .int x1), (2, .int x2)] [] μ := by
  intro n
  induction n with
  | zero =>
    intro x1 x2 μ q  h
    cases h
  | succ n ih =>
    intro x1 x2 μ q  h
    rw [L_X9_neverNow_4_s] at h
    refine G_iload_n (pc := 4) 2 dX9_neverNow_4 rfl ?_
    refine G_aload_n (pc := 5) 0 dX9_neverNow_5 rfl ?_
    refine gwM_X9_169_0 (pc := 6) dX9_neverNow_6 ?_
    refine G_icmp_ge (pc := 9) 42 dX9_neverNow_9 (by decide) (fun c1 => ?_) (fun c1 => ?_)
    · replace h := itp c1 h
      refine G_aload_n (pc := 42) 0 dX9_neverNow_42 rfl ?_
      refine G_iconst (pc := 43) (0) dX9_neverNow_43 ci_0 ?_
      refine pwM_X9_197_0 (pc := 44) dX9_neverNow_44 ?_
      refine G_iload_n (pc := 47) 1 dX9_neverNow_47 rfl ?_
      obtain rfl := Option.some.inj h
      exact G_iret (pc := 48) rfl dX9_neverNow_48
    · replace h := itn c1 h
      refine G_aload_n (pc := 12) 0 dX9_neverNow_12 rfl ?_
      refine G_iconst (pc := 13) (1) dX9_neverNow_13 ci_1 ?_
      refine G_iload_n (pc := 14) 2 dX9_neverNow_14 rfl ?_
      refine G_ishl (pc := 15) dX9_neverNow_15 ?_
      refine pwM_X9_197_0 (pc := 16) dX9_neverNow_16 ?_
      refine G_iload_n (pc := 19) 1 dX9_neverNow_19 rfl ?_
      refine G_aload_n (pc := 20) 0 dX9_neverNow_20 rfl ?_
      obtain ⟨q2, e2, h⟩ := bnd_some h
      refine G_callV0r (pc := 21) 0 8 dX9_neverNow_21 wv_X9_271 cd_X9_isSeen (S_X9_isSeen _ _ e2) (by decide) (by decide) rfl (by decide) (fun _ _ => ⟨_, rfl⟩) (Nat.le_of_ble_eq_true rfl) ?_
      refine G_if_eq (pc := 24) 33 dX9_neverNow_24 (by decide) (fun c3 => ?_) (fun c3 => ?_)
      · rw [if_pos c3] at h
        refine G_iconst (pc := 33) (0) dX9_neverNow_33 ci_0 ?_
        refine G_loc [0, 2] [(0, .ref _), (2, .int _)] rfl ?_
        exact B_X9_neverNow_34 _ ih _ _ _ _ _ h
      · rw [if_neg c3] at h
        refine G_iconst (pc := 27) (1) dX9_neverNow_27 ci_1 ?_
        refine G_iload_n (pc := 28) 2 dX9_neverNow_28 rfl ?_
        refine G_ishl (pc := 29) dX9_neverNow_29 ?_
        refine G_goto (pc := 30) 34 dX9_neverNow_30 (by decide) ?_
        refine G_loc [0, 2] [(0, .ref _), (2, .int _)] rfl ?_
        exact B_X9_neverNow_34 _ ih _ _ _ _ _ h
def F_X9_neverNow  (μ : Mm) : Option (Int32 × Mm) := L_X9_neverNow_4 FUEL 0 0 μ
set_option maxRecDepth 100000 in
set_option maxHeartbeats 4000000 in
theorem S_X9_neverNow   (μ : Mm) (q : (Int32 × Mm)) (h : F_X9_neverNow  μ = some q) : Cn wM yX9_neverNow cX9_neverNow 3 (some .int) 6 [.ref 0] μ (some (.int q.1)) q.2 := by
  refine Cn_of (by decide +kernel) (Nat.le_of_ble_eq_true rfl) ?_
  show G wM RX9 cX9_neverNow 3 (some .int) 6 (some (.int q.1)) q.2 0 [(0, .ref 0)] [] μ
  unfold F_X9_neverNow at h
  refine G_iconst (pc := 0) (0) dX9_neverNow_0 ci_0 ?_
  refine G_istore_n (pc := 1) [(1, .int _), (0, .ref _)] dX9_neverNow_1 (Nat.le_of_ble_eq_true rfl) rfl ?_
  refine G_iconst (pc := 2) (0) dX9_neverNow_2 ci_0 ?_
  refine G_istore_n (pc := 3) [(2, .int _), (1, .int _), (0, .ref _)] dX9_neverNow_3 (Nat.le_of_ble_eq_true rfl) rfl ?_
  refine G_loc [2, 1, 0] [(0, .ref _), (1, .int _), (2, .int _)] rfl ?_
  exact B_X9_neverNow_4 _ _ _ _ _ h
def F_X9_never  (μ : Mm) : Option (Int32 × Mm) := (F_X9_find μ).bind (fun q1 => (F_X9_neverNow q1).bind (fun q2 => some (q2.1, q2.2)))
set_option maxRecDepth 100000 in
set_option maxHeartbeats 4000000 in
theorem S_X9_never   (μ : Mm) (q : (Int32 × Mm)) (h : F_X9_never  μ = some q) : Cn wM yX9_never cX9_never 1 (some .int) 7 [.ref 0] μ (some (.int q.1)) q.2 := by
  refine Cn_of (by decide +kernel) (Nat.le_of_ble_eq_true rfl) ?_
  show G wM RX9 cX9_never 1 (some .int) 7 (some (.int q.1)) q.2 0 [(0, .ref 0)] [] μ
  unfold F_X9_never at h
  refine G_aload_n (pc := 0) 0 dX9_never_0 rfl ?_
  obtain ⟨q1, e1, h⟩ := bnd_some h
  refine G_callV0v (pc := 1) 0 8 dX9_never_1 wv_X9_220 cd_X9_find (S_X9_find _ _ e1) (by decide) (by decide) rfl (by decide) (fun _ _ => ⟨_, rfl⟩) (Nat.le_of_ble_eq_true rfl) ?_
  refine G_aload_n (pc := 4) 0 dX9_never_4 rfl ?_
  obtain ⟨q2, e2, h⟩ := bnd_some h
  refine G_callV0r (pc := 5) 0 8 dX9_never_5 wv_X9_275 cd_X9_neverNow (S_X9_neverNow _ _ e2) (by decide) (by decide) rfl (by decide) (fun _ _ => ⟨_, rfl⟩) (Nat.le_of_ble_eq_true rfl) ?_
  obtain rfl := Option.some.inj h
  exact G_iret (pc := 8) rfl dX9_never_8
def L_X9_lookedOf_56 (K16 : Int32 → Int32 → Int32 → Int32 → Mm → Option (Int32 × Mm)) : Nat → Int32 → Int32 → Int32 → Int32 → Int32 → Mm → Option (Int32 × Mm)
  | 0, _, _, _, _, _, _ => none
  | n + 1, x1, x2, x3, x4, x5, μ => if 12 ≤ x5 then K16 x1 x2 x3 (x4 + 1) μ else (F_X9_placeOf x5 x1 μ).bind (fun q8 => gi ((12 * x4) + x5) 120 (L_X9_lookedOf_56 K16 n x1 x2 x3 x4 (x5 + 1) (wI q8.2 24 ((12 * x4) + x5).toNatClampNeg q8.1)))
set_option maxRecDepth 100000 in
set_option maxHeartbeats 4000000 in
theorem L_X9_lookedOf_56_s (K16 : Int32 → Int32 → Int32 → Int32 → Mm → Option (Int32 × Mm)) (n : Nat) (x1 : Int32) (x2 : Int32) (x3 : Int32) (x4 : Int32) (x5 : Int32) (μ : Mm) : L_X9_lookedOf_56 K16 (n + 1) x1 x2 x3 x4 x5 μ = (if 12 ≤ x5 then K16 x1 x2 x3 (x4 + 1) μ else (F_X9_placeOf x5 x1 μ).bind (fun q8 => gi ((12 * x4) + x5) 120 (L_X9_lookedOf_56 K16 n x1 x2 x3 x4 (x5 + 1) (wI q8.2 24 ((12 * x4) + x5).toNatClampNeg q8.1)))) := rfl
set_option maxRecDepth 100000 in
set_option maxHeartbeats 4000000 in
theorem B_X9_lookedOf_56 (K16 : Int32 → Int32 → Int32 → Int32 → Mm → Option (Int32 × Mm)) (hK16 : ∀ (x1 : Int32) (x2 : Int32) (x3 : Int32) (x4 : Int32) (μ : Mm) (q : (Int32 × Mm)), K16 x1 x2 x3 x4 μ = some q → G wM RX9 cX9_lookedOf 6 (some .int) 6 (some (.int q.1)) q.2 16 [(0, .ref 0), (1, .int x1), (2, .int x2), (3, .int x3), (4, .int x4)] [] μ) : ∀ (n : Nat) (x1 : Int32) (x2 : Int32) (x3 : Int32) (x4 : Int32) (x5 : Int32) (μ : Mm) (q : (Int32 × Mm)), L_X9_lookedOf_56 K16 n x1 x2 x3 x4 x5 μ = some q → G wM RX9 cX9_lookedOf 6 (some .int) 6 (some (.int q.1)) q.2 56 [(0, .ref 0), (1, .int x1), (2, .int x2), (3, .int x3), (4, .int x4), (5, .int x5)] [] μ := by
  intro n
  induction n with
  | zero =>
    intro x1 x2 x3 x4 x5 μ q  h
    cases h
  | succ n ih =>
    intro x1 x2 x3 x4 x5 μ q  h
    rw [L_X9_lookedOf_56_s] at h
    refine G_iload (pc := 56) 5 dX9_lookedOf_56 rfl ?_
    refine G_bipush (pc := 58) (12) dX9_lookedOf_58 bp_12 ?_
    refine G_icmp_ge (pc := 60) 89 dX9_lookedOf_60 (by decide) (fun c7 => ?_) (fun c7 => ?_)
    · replace h := itp c7 h
      refine G_iinc (pc := 89) (1) 4 [(4, .int _), (0, .ref _), (1, .int _), (2, .int _), (3, .int _), (5, .int _)] dX9_lookedOf_89 ci_1 rfl (Nat.le_of_ble_eq_true rfl) rfl ?_
      refine G_goto (pc := 92) 16 dX9_lookedOf_92 (by decide) ?_
      refine G_loc [1, 2, 3, 4, 0] [(0, .ref _), (1, .int _), (2, .int _), (3, .int _), (4, .int _)] rfl ?_
      exact hK16 _ _ _ _ _ _ h
    · replace h := itn c7 h
      refine G_aload_n (pc := 63) 0 dX9_lookedOf_63 rfl ?_
      refine gwM_X9_80_0 (pc := 64) dX9_lookedOf_64 ?_
      refine G_bipush (pc := 67) (12) dX9_lookedOf_67 bp_12 ?_
      refine G_iload (pc := 69) 4 dX9_lookedOf_69 rfl ?_
      refine G_imul (pc := 71) dX9_lookedOf_71 ?_
      refine G_iload (pc := 72) 5 dX9_lookedOf_72 rfl ?_
      refine G_iadd (pc := 74) dX9_lookedOf_74 ?_
      refine G_aload_n (pc := 75) 0 dX9_lookedOf_75 rfl ?_
      refine G_iload (pc := 76) 5 dX9_lookedOf_76 rfl ?_
      refine G_iload_n (pc := 78) 1 dX9_lookedOf_78 rfl ?_
      obtain ⟨q8, e8, h⟩ := bnd_some h
      refine G_callV2r (pc := 79) 0 8 dX9_lookedOf_79 wv_X9_268 cd_X9_placeOf (S_X9_placeOf _ _ _ _ e8) (by decide) (by decide) rfl (by decide) (fun _ _ => ⟨_, rfl⟩) (Nat.le_of_ble_eq_true rfl) ?_
      obtain ⟨g9, h⟩ := gi_some h
      refine aswM_24 (pc := 82) dX9_lookedOf_82 g9 ?_
      refine G_iinc (pc := 83) (1) 5 [(5, .int _), (0, .ref _), (1, .int _), (2, .int _), (3, .int _), (4, .int _)] dX9_lookedOf_83 ci_1 rfl (Nat.le_of_ble_eq_true rfl) rfl ?_
      refine G_goto (pc := 86) 56 dX9_lookedOf_86 (by decide) ?_
      refine G_loc [1, 2, 3, 4, 5, 0] [(0, .ref _), (1, .int _), (2, .int _), (3, .int _), (4, .int _), (5, .int _)] rfl ?_
      exact ih _ _ _ _ _ _ _ h
def F_X9_lookedOf_51 (K16 : Int32 → Int32 → Int32 → Int32 → Mm → Option (Int32 × Mm)) (x1 : Int32) (x2 : Int32) (x4 : Int32) (y0 : Int32) (y1 : Int32) (μ : Mm) : Option (Int32 × Mm) := L_X9_lookedOf_56 K16 FUEL x1 x2 (y1 ||| y0) x4 0 μ
set_option maxRecDepth 100000 in
set_option maxHeartbeats 4000000 in
theorem B_X9_lookedOf_51 (K16 : Int32 → Int32 → Int32 → Int32 → Mm → Option (Int32 × Mm)) (hK16 : ∀ (x1 : Int32) (x2 : Int32) (x3 : Int32) (x4 : Int32) (μ : Mm) (q : (Int32 × Mm)), K16 x1 x2 x3 x4 μ = some q → G wM RX9 cX9_lookedOf 6 (some .int) 6 (some (.int q.1)) q.2 16 [(0, .ref 0), (1, .int x1), (2, .int x2), (3, .int x3), (4, .int x4)] [] μ) (x1 : Int32) (x2 : Int32) (x4 : Int32) (y0 : Int32) (y1 : Int32) (μ : Mm) (q : (Int32 × Mm))  (h : F_X9_lookedOf_51 K16 x1 x2 x4 y0 y1 μ = some q) : G wM RX9 cX9_lookedOf 6 (some .int) 6 (some (.int q.1)) q.2 51 [(0, .ref 0), (1, .int x1), (2, .int x2), (4, .int x4)] [.int y0, .int y1] μ := by
  unfold F_X9_lookedOf_51 at h
  refine G_ior (pc := 51) dX9_lookedOf_51 ?_
  refine G_istore_n (pc := 52) [(3, .int _), (0, .ref _), (1, .int _), (2, .int _), (4, .int _)] dX9_lookedOf_52 (Nat.le_of_ble_eq_true rfl) rfl ?_
  refine G_iconst (pc := 53) (0) dX9_lookedOf_53 ci_0 ?_
  refine G_istore (pc := 54) [(5, .int _), (3, .int _), (0, .ref _), (1, .int _), (2, .int _), (4, .int _)] dX9_lookedOf_54 (Nat.le_of_ble_eq_true rfl) rfl ?_
  refine G_loc [2, 3, 4, 1, 5, 0] [(0, .ref _), (1, .int _), (2, .int _), (3, .int _), (4, .int _), (5, .int _)] rfl ?_
  exact B_X9_lookedOf_56 _ hK16 _ _ _ _ _ _ _ _ h
def L_X9_lookedOf_16 : Nat → Int32 → Int32 → Int32 → Int32 → Mm → Option (Int32 × Mm)
  | 0, _, _, _, _, _ => none
  | n + 1, x1, x2, x3, x4, μ => if 10 ≤ x4 then gi ((3 * x1) + 1) 30 (some (x3, (wI μ 7 ((3 * x1) + 1).toNatClampNeg x2))) else gi ((3 * x1) + 1) 30 ((F_X9_isSeen (wI μ 7 ((3 * x1) + 1).toNatClampNeg x4)).bind (fun q5 => F_X9_lookedOf_51 (L_X9_lookedOf_16 n) x1 x2 x4 (if q5.1 = 0 then 0 else (1 <<< (x4 &&& 31))) x3 q5.2))
set_option maxRecDepth 100000 in
set_option maxHeartbeats 4000000 in
theorem L_X9_lookedOf_16_s (n : Nat) (x1 : Int32) (x2 : Int32) (x3 : Int32) (x4 : Int32) (μ : Mm) : L_X9_lookedOf_16  (n + 1) x1 x2 x3 x4 μ = (if 10 ≤ x4 then gi ((3 * x1) + 1) 30 (some (x3, (wI μ 7 ((3 * x1) + 1).toNatClampNeg x2))) else gi ((3 * x1) + 1) 30 ((F_X9_isSeen (wI μ 7 ((3 * x1) + 1).toNatClampNeg x4)).bind (fun q5 => F_X9_lookedOf_51 (L_X9_lookedOf_16 n) x1 x2 x4 (if q5.1 = 0 then 0 else (1 <<< (x4 &&& 31))) x3 q5.2))) := rfl
set_option maxRecDepth 100000 in
set_option maxHeartbeats 4000000 in
theorem B_X9_lookedOf_16 : ∀ (n : Nat) (x1 : Int32) (x2 : Int32) (x3 : Int32) (x4 : Int32) (μ : Mm) (q : (Int32 × Mm)), L_X9_lookedOf_16  n x1 x2 x3 x4 μ = some q → G wM RX9 cX9_lookedOf 6 (some .int) 6 (some (.int q.1)) q.2 16 [(0, .ref 0), (1, .int x1), (2, .int x2), (3, .int x3), (4, .int x4)] [] μ := by
  intro n
  induction n with
  | zero =>
    intro x1 x2 x3 x4 μ q  h
    cases h
  | succ n ih =>
    intro x1 x2 x3 x4 μ q  h
    rw [L_X9_lookedOf_16_s] at h
    refine G_iload (pc := 16) 4 dX9_lookedOf_16 rfl ?_
    refine G_bipush (pc := 18) (10) dX9_lookedOf_18 bp_10 ?_
    refine G_icmp_ge (pc := 20) 95 dX9_lookedOf_20 (by decide) (fun c2 => ?_) (fun c2 => ?_)
    · replace h := itp c2 h
      refine G_aload_n (pc := 95) 0 dX9_lookedOf_95 rfl ?_
      refine gwM_X9_28_0 (pc := 96) dX9_lookedOf_96 ?_
      refine G_iconst (pc := 99) (3) dX9_lookedOf_99 ci_3 ?_
      refine G_iload_n (pc := 100) 1 dX9_lookedOf_100 rfl ?_
      refine G_imul (pc := 101) dX9_lookedOf_101 ?_
      refine G_iconst (pc := 102) (1) dX9_lookedOf_102 ci_1 ?_
      refine G_iadd (pc := 103) dX9_lookedOf_103 ?_
      refine G_iload_n (pc := 104) 2 dX9_lookedOf_104 rfl ?_
      obtain ⟨g3, h⟩ := gi_some h
      refine aswM_7 (pc := 105) dX9_lookedOf_105 g3 ?_
      refine G_iload_n (pc := 106) 3 dX9_lookedOf_106 rfl ?_
      obtain rfl := Option.some.inj h
      exact G_iret (pc := 107) rfl dX9_lookedOf_107
    · replace h := itn c2 h
      refine G_aload_n (pc := 23) 0 dX9_lookedOf_23 rfl ?_
      refine gwM_X9_28_0 (pc := 24) dX9_lookedOf_24 ?_
      refine G_iconst (pc := 27) (3) dX9_lookedOf_27 ci_3 ?_
      refine G_iload_n (pc := 28) 1 dX9_lookedOf_28 rfl ?_
      refine G_imul (pc := 29) dX9_lookedOf_29 ?_
      refine G_iconst (pc := 30) (1) dX9_lookedOf_30 ci_1 ?_
      refine G_iadd (pc := 31) dX9_lookedOf_31 ?_
      refine G_iload (pc := 32) 4 dX9_lookedOf_32 rfl ?_
      obtain ⟨g4, h⟩ := gi_some h
      refine aswM_7 (pc := 34) dX9_lookedOf_34 g4 ?_
      refine G_iload_n (pc := 35) 3 dX9_lookedOf_35 rfl ?_
      refine G_aload_n (pc := 36) 0 dX9_lookedOf_36 rfl ?_
      obtain ⟨q5, e5, h⟩ := bnd_some h
      refine G_callV0r (pc := 37) 0 8 dX9_lookedOf_37 wv_X9_271 cd_X9_isSeen (S_X9_isSeen _ _ e5) (by decide) (by decide) rfl (by decide) (fun _ _ => ⟨_, rfl⟩) (Nat.le_of_ble_eq_true rfl) ?_
      refine G_if_eq (pc := 40) 50 dX9_lookedOf_40 (by decide) (fun c6 => ?_) (fun c6 => ?_)
      · rw [if_pos c6] at h
        refine G_iconst (pc := 50) (0) dX9_lookedOf_50 ci_0 ?_
        refine G_loc [0, 1, 2, 4] [(0, .ref _), (1, .int _), (2, .int _), (4, .int _)] rfl ?_
        exact B_X9_lookedOf_51 _ ih _ _ _ _ _ _ _ h
      · rw [if_neg c6] at h
        refine G_iconst (pc := 43) (1) dX9_lookedOf_43 ci_1 ?_
        refine G_iload (pc := 44) 4 dX9_lookedOf_44 rfl ?_
        refine G_ishl (pc := 46) dX9_lookedOf_46 ?_
        refine G_goto (pc := 47) 51 dX9_lookedOf_47 (by decide) ?_
        refine G_loc [0, 1, 2, 4] [(0, .ref _), (1, .int _), (2, .int _), (4, .int _)] rfl ?_
        exact B_X9_lookedOf_51 _ ih _ _ _ _ _ _ _ h
def F_X9_lookedOf (x1 : Int32) (μ : Mm) : Option (Int32 × Mm) := gi ((3 * x1) + 1) 30 (L_X9_lookedOf_16 FUEL x1 (μ.1 7 ((3 * x1) + 1).toNatClampNeg) 0 0 μ)
set_option maxRecDepth 100000 in
set_option maxHeartbeats 4000000 in
theorem S_X9_lookedOf (x1 : Int32)  (μ : Mm) (q : (Int32 × Mm)) (h : F_X9_lookedOf x1 μ = some q) : Cn wM yX9_lookedOf cX9_lookedOf 6 (some .int) 6 [.ref 0, .int x1] μ (some (.int q.1)) q.2 := by
  refine Cn_of (by decide +kernel) (Nat.le_of_ble_eq_true rfl) ?_
  show G wM RX9 cX9_lookedOf 6 (some .int) 6 (some (.int q.1)) q.2 0 [(0, .ref 0), (1, .int x1)] [] μ
  unfold F_X9_lookedOf at h
  refine G_aload_n (pc := 0) 0 dX9_lookedOf_0 rfl ?_
  refine gwM_X9_28_0 (pc := 1) dX9_lookedOf_1 ?_
  refine G_iconst (pc := 4) (3) dX9_lookedOf_4 ci_3 ?_
  refine G_iload_n (pc := 5) 1 dX9_lookedOf_5 rfl ?_
  refine G_imul (pc := 6) dX9_lookedOf_6 ?_
  refine G_iconst (pc := 7) (1) dX9_lookedOf_7 ci_1 ?_
  refine G_iadd (pc := 8) dX9_lookedOf_8 ?_
  obtain ⟨g1, h⟩ := gi_some h
  refine alwM_7 (pc := 9) dX9_lookedOf_9 g1 ?_
  refine G_istore_n (pc := 10) [(2, .int _), (0, .ref _), (1, .int _)] dX9_lookedOf_10 (Nat.le_of_ble_eq_true rfl) rfl ?_
  refine G_iconst (pc := 11) (0) dX9_lookedOf_11 ci_0 ?_
  refine G_istore_n (pc := 12) [(3, .int _), (2, .int _), (0, .ref _), (1, .int _)] dX9_lookedOf_12 (Nat.le_of_ble_eq_true rfl) rfl ?_
  refine G_iconst (pc := 13) (0) dX9_lookedOf_13 ci_0 ?_
  refine G_istore (pc := 14) [(4, .int _), (3, .int _), (2, .int _), (0, .ref _), (1, .int _)] dX9_lookedOf_14 (Nat.le_of_ble_eq_true rfl) rfl ?_
  refine G_loc [3, 4, 2, 1, 0] [(0, .ref _), (1, .int _), (2, .int _), (3, .int _), (4, .int _)] rfl ?_
  exact B_X9_lookedOf_16 _ _ _ _ _ _ _ h
def F_X9_looked (x1 : Int32) (μ : Mm) : Option (Int32 × Mm) := (F_X9_find μ).bind (fun q1 => (F_X9_isThing x1 q1).bind (fun q2 => if q2.1 = 0 then some ((-2), q2.2) else (F_X9_lookedOf x1 q2.2).bind (fun q4 => some (q4.1, q4.2))))
set_option maxRecDepth 100000 in
set_option maxHeartbeats 4000000 in
theorem S_X9_looked (x1 : Int32)  (μ : Mm) (q : (Int32 × Mm)) (h : F_X9_looked x1 μ = some q) : Cn wM yX9_looked cX9_looked 2 (some .int) 7 [.ref 0, .int x1] μ (some (.int q.1)) q.2 := by
  refine Cn_of (by decide +kernel) (Nat.le_of_ble_eq_true rfl) ?_
  show G wM RX9 cX9_looked 2 (some .int) 7 (some (.int q.1)) q.2 0 [(0, .ref 0), (1, .int x1)] [] μ
  unfold F_X9_looked at h
  refine G_aload_n (pc := 0) 0 dX9_looked_0 rfl ?_
  obtain ⟨q1, e1, h⟩ := bnd_some h
  refine G_callV0v (pc := 1) 0 8 dX9_looked_1 wv_X9_220 cd_X9_find (S_X9_find _ _ e1) (by decide) (by decide) rfl (by decide) (fun _ _ => ⟨_, rfl⟩) (Nat.le_of_ble_eq_true rfl) ?_
  refine G_aload_n (pc := 4) 0 dX9_looked_4 rfl ?_
  refine G_iload_n (pc := 5) 1 dX9_looked_5 rfl ?_
  obtain ⟨q2, e2, h⟩ := bnd_some h
  refine G_callV1r (pc := 6) 0 8 dX9_looked_6 wv_X9_158 cd_X9_isThing (S_X9_isThing _ _ _ e2) (by decide) (by decide) rfl (by decide) (fun _ _ => ⟨_, rfl⟩) (Nat.le_of_ble_eq_true rfl) ?_
  refine G_if_eq (pc := 9) 20 dX9_looked_9 (by decide) (fun c3 => ?_) (fun c3 => ?_)
  · replace h := itp c3 h
    refine G_bipush (pc := 20) (-2) dX9_looked_20 bp_m2 ?_
    obtain rfl := Option.some.inj h
    exact G_iret (pc := 22) rfl dX9_looked_22
  · replace h := itn c3 h
    refine G_aload_n (pc := 12) 0 dX9_looked_12 rfl ?_
    refine G_iload_n (pc := 13) 1 dX9_looked_13 rfl ?_
    obtain ⟨q4, e4, h⟩ := bnd_some h
    refine G_callV1r (pc := 14) 0 8 dX9_looked_14 wv_X9_278 cd_X9_lookedOf (S_X9_lookedOf _ _ _ e4) (by decide) (by decide) rfl (by decide) (fun _ _ => ⟨_, rfl⟩) (Nat.le_of_ble_eq_true rfl) ?_
    refine G_goto (pc := 17) 22 dX9_looked_17 (by decide) ?_
    obtain rfl := Option.some.inj h
    exact G_iret (pc := 22) rfl dX9_looked_22
def F_X9_tastesOf_46 (K14 : Int32 → Int32 → Int32 → Int32 → Mm → Option (Int32 × Mm)) (x1 : Int32) (x2 : Int32) (x4 : Int32) (y0 : Int32) (y1 : Int32) (μ : Mm) : Option (Int32 × Mm) := K14 x1 x2 (y1 ||| y0) (x4 + 1) μ
set_option maxRecDepth 100000 in
set_option maxHeartbeats 4000000 in
theorem B_X9_tastesOf_46 (K14 : Int32 → Int32 → Int32 → Int32 → Mm → Option (Int32 × Mm)) (hK14 : ∀ (x1 : Int32) (x2 : Int32) (x3 : Int32) (x4 : Int32) (μ : Mm) (q : (Int32 × Mm)), K14 x1 x2 x3 x4 μ = some q → G wM RX9 cX9_tastesOf 5 (some .int) 6 (some (.int q.1)) q.2 14 [(0, .ref 0), (1, .int x1), (2, .int x2), (3, .int x3), (4, .int x4)] [] μ) (x1 : Int32) (x2 : Int32) (x4 : Int32) (y0 : Int32) (y1 : Int32) (μ : Mm) (q : (Int32 × Mm))  (h : F_X9_tastesOf_46 K14 x1 x2 x4 y0 y1 μ = some q) : G wM RX9 cX9_tastesOf 5 (some .int) 6 (some (.int q.1)) q.2 46 [(0, .ref 0), (1, .int x1), (2, .int x2), (4, .int x4)] [.int y0, .int y1] μ := by
  unfold F_X9_tastesOf_46 at h
  refine G_ior (pc := 46) dX9_tastesOf_46 ?_
  refine G_istore_n (pc := 47) [(3, .int _), (0, .ref _), (1, .int _), (2, .int _), (4, .int _)] dX9_tastesOf_47 (Nat.le_of_ble_eq_true rfl) rfl ?_
  refine G_iinc (pc := 48) (1) 4 [(4, .int _), (3, .int _), (0, .ref _), (1, .int _), (2, .int _)] dX9_tastesOf_48 ci_1 rfl (Nat.le_of_ble_eq_true rfl) rfl ?_
  refine G_goto (pc := 51) 14 dX9_tastesOf_51 (by decide) ?_
  refine G_loc [2, 3, 4, 1, 0] [(0, .ref _), (1, .int _), (2, .int _), (3, .int _), (4, .int _)] rfl ?_
  exact hK14 _ _ _ _ _ _ h
def L_X9_tastesOf_14 : Nat → Int32 → Int32 → Int32 → Int32 → Mm → Option (Int32 × Mm)
  | 0, _, _, _, _, _ => none
  | n + 1, x1, x2, x3, x4, μ => if 3 ≤ x4 then gi (3 * x1) 12 (some (x3, (wI μ 8 (3 * x1).toNatClampNeg x2))) else gi (3 * x1) 12 ((F_X9_isSeen (wI μ 8 (3 * x1).toNatClampNeg x4)).bind (fun q5 => F_X9_tastesOf_46 (L_X9_tastesOf_14 n) x1 x2 x4 (if q5.1 = 0 then 0 else (1 <<< (x4 &&& 31))) x3 q5.2))
set_option maxRecDepth 100000 in
set_option maxHeartbeats 4000000 in
theorem L_X9_tastesOf_14_s (n : Nat) (x1 : Int32) (x2 : Int32) (x3 : Int32) (x4 : Int32) (μ : Mm) : L_X9_tastesOf_14  (n + 1) x1 x2 x3 x4 μ = (if 3 ≤ x4 then gi (3 * x1) 12 (some (x3, (wI μ 8 (3 * x1).toNatClampNeg x2))) else gi (3 * x1) 12 ((F_X9_isSeen (wI μ 8 (3 * x1).toNatClampNeg x4)).bind (fun q5 => F_X9_tastesOf_46 (L_X9_tastesOf_14 n) x1 x2 x4 (if q5.1 = 0 then 0 else (1 <<< (x4 &&& 31))) x3 q5.2))) := rfl
set_option maxRecDepth 100000 in
set_option maxHeartbeats 4000000 in
theorem B_X9_tastesOf_14 : ∀ (n : Nat) (x1 : Int32) (x2 : Int32) (x3 : Int32) (x4 : Int32) (μ : Mm) (q : (Int32 × Mm)), L_X9_tastesOf_14  n x1 x2 x3 x4 μ = some q → G wM RX9 cX9_tastesOf 5 (some .int) 6 (some (.int q.1)) q.2 14 [(0, .ref 0), (1, .int x1), (2, .int x2), (3, .int x3), (4, .int x4)] [] μ := by
  intro n
  induction n with
  | zero =>
    intro x1 x2 x3 x4 μ q  h
    cases h
  | succ n ih =>
    intro x1 x2 x3 x4 μ q  h
    rw [L_X9_tastesOf_14_s] at h
    refine G_iload (pc := 14) 4 dX9_tastesOf_14 rfl ?_
    refine G_iconst (pc := 16) (3) dX9_tastesOf_16 ci_3 ?_
    refine G_icmp_ge (pc := 17) 54 dX9_tastesOf_17 (by decide) (fun c2 => ?_) (fun c2 => ?_)
    · replace h := itp c2 h
      refine G_aload_n (pc := 54) 0 dX9_tastesOf_54 rfl ?_
      refine gwM_X9_31_0 (pc := 55) dX9_tastesOf_55 ?_
      refine G_iconst (pc := 58) (3) dX9_tastesOf_58 ci_3 ?_
      refine G_iload_n (pc := 59) 1 dX9_tastesOf_59 rfl ?_
      refine G_imul (pc := 60) dX9_tastesOf_60 ?_
      refine G_iload_n (pc := 61) 2 dX9_tastesOf_61 rfl ?_
      obtain ⟨g3, h⟩ := gi_some h
      refine aswM_8 (pc := 62) dX9_tastesOf_62 g3 ?_
      refine G_iload_n (pc := 63) 3 dX9_tastesOf_63 rfl ?_
      obtain rfl := Option.some.inj h
      exact G_iret (pc := 64) rfl dX9_tastesOf_64
    · replace h := itn c2 h
      refine G_aload_n (pc := 20) 0 dX9_tastesOf_20 rfl ?_
      refine gwM_X9_31_0 (pc := 21) dX9_tastesOf_21 ?_
      refine G_iconst (pc := 24) (3) dX9_tastesOf_24 ci_3 ?_
      refine G_iload_n (pc := 25) 1 dX9_tastesOf_25 rfl ?_
      refine G_imul (pc := 26) dX9_tastesOf_26 ?_
      refine G_iload (pc := 27) 4 dX9_tastesOf_27 rfl ?_
      obtain ⟨g4, h⟩ := gi_some h
      refine aswM_8 (pc := 29) dX9_tastesOf_29 g4 ?_
      refine G_iload_n (pc := 30) 3 dX9_tastesOf_30 rfl ?_
      refine G_aload_n (pc := 31) 0 dX9_tastesOf_31 rfl ?_
      obtain ⟨q5, e5, h⟩ := bnd_some h
      refine G_callV0r (pc := 32) 0 8 dX9_tastesOf_32 wv_X9_271 cd_X9_isSeen (S_X9_isSeen _ _ e5) (by decide) (by decide) rfl (by decide) (fun _ _ => ⟨_, rfl⟩) (Nat.le_of_ble_eq_true rfl) ?_
      refine G_if_eq (pc := 35) 45 dX9_tastesOf_35 (by decide) (fun c6 => ?_) (fun c6 => ?_)
      · rw [if_pos c6] at h
        refine G_iconst (pc := 45) (0) dX9_tastesOf_45 ci_0 ?_
        refine G_loc [0, 1, 2, 4] [(0, .ref _), (1, .int _), (2, .int _), (4, .int _)] rfl ?_
        exact B_X9_tastesOf_46 _ ih _ _ _ _ _ _ _ h
      · rw [if_neg c6] at h
        refine G_iconst (pc := 38) (1) dX9_tastesOf_38 ci_1 ?_
        refine G_iload (pc := 39) 4 dX9_tastesOf_39 rfl ?_
        refine G_ishl (pc := 41) dX9_tastesOf_41 ?_
        refine G_goto (pc := 42) 46 dX9_tastesOf_42 (by decide) ?_
        refine G_loc [0, 1, 2, 4] [(0, .ref _), (1, .int _), (2, .int _), (4, .int _)] rfl ?_
        exact B_X9_tastesOf_46 _ ih _ _ _ _ _ _ _ h
def F_X9_tastesOf (x1 : Int32) (μ : Mm) : Option (Int32 × Mm) := gi (3 * x1) 12 (L_X9_tastesOf_14 FUEL x1 (μ.1 8 (3 * x1).toNatClampNeg) 0 0 μ)
set_option maxRecDepth 100000 in
set_option maxHeartbeats 4000000 in
theorem S_X9_tastesOf (x1 : Int32)  (μ : Mm) (q : (Int32 × Mm)) (h : F_X9_tastesOf x1 μ = some q) : Cn wM yX9_tastesOf cX9_tastesOf 5 (some .int) 6 [.ref 0, .int x1] μ (some (.int q.1)) q.2 := by
  refine Cn_of (by decide +kernel) (Nat.le_of_ble_eq_true rfl) ?_
  show G wM RX9 cX9_tastesOf 5 (some .int) 6 (some (.int q.1)) q.2 0 [(0, .ref 0), (1, .int x1)] [] μ
  unfold F_X9_tastesOf at h
  refine G_aload_n (pc := 0) 0 dX9_tastesOf_0 rfl ?_
  refine gwM_X9_31_0 (pc := 1) dX9_tastesOf_1 ?_
  refine G_iconst (pc := 4) (3) dX9_tastesOf_4 ci_3 ?_
  refine G_iload_n (pc := 5) 1 dX9_tastesOf_5 rfl ?_
  refine G_imul (pc := 6) dX9_tastesOf_6 ?_
  obtain ⟨g1, h⟩ := gi_some h
  refine alwM_8 (pc := 7) dX9_tastesOf_7 g1 ?_
  refine G_istore_n (pc := 8) [(2, .int _), (0, .ref _), (1, .int _)] dX9_tastesOf_8 (Nat.le_of_ble_eq_true rfl) rfl ?_
  refine G_iconst (pc := 9) (0) dX9_tastesOf_9 ci_0 ?_
  refine G_istore_n (pc := 10) [(3, .int _), (2, .int _), (0, .ref _), (1, .int _)] dX9_tastesOf_10 (Nat.le_of_ble_eq_true rfl) rfl ?_
  refine G_iconst (pc := 11) (0) dX9_tastesOf_11 ci_0 ?_
  refine G_istore (pc := 12) [(4, .int _), (3, .int _), (2, .int _), (0, .ref _), (1, .int _)] dX9_tastesOf_12 (Nat.le_of_ble_eq_true rfl) rfl ?_
  refine G_loc [3, 4, 2, 1, 0] [(0, .ref _), (1, .int _), (2, .int _), (3, .int _), (4, .int _)] rfl ?_
  exact B_X9_tastesOf_14 _ _ _ _ _ _ _ h
def F_X9_tastes (x1 : Int32) (μ : Mm) : Option (Int32 × Mm) := (F_X9_find μ).bind (fun q1 => (F_X9_isJudge x1 q1).bind (fun q2 => if q2.1 = 0 then some ((-2), q2.2) else (F_X9_tastesOf x1 q2.2).bind (fun q4 => some (q4.1, q4.2))))
set_option maxRecDepth 100000 in
set_option maxHeartbeats 4000000 in
theorem S_X9_tastes (x1 : Int32)  (μ : Mm) (q : (Int32 × Mm)) (h : F_X9_tastes x1 μ = some q) : Cn wM yX9_tastes cX9_tastes 2 (some .int) 7 [.ref 0, .int x1] μ (some (.int q.1)) q.2 := by
  refine Cn_of (by decide +kernel) (Nat.le_of_ble_eq_true rfl) ?_
  show G wM RX9 cX9_tastes 2 (some .int) 7 (some (.int q.1)) q.2 0 [(0, .ref 0), (1, .int x1)] [] μ
  unfold F_X9_tastes at h
  refine G_aload_n (pc := 0) 0 dX9_tastes_0 rfl ?_
  obtain ⟨q1, e1, h⟩ := bnd_some h
  refine G_callV0v (pc := 1) 0 8 dX9_tastes_1 wv_X9_220 cd_X9_find (S_X9_find _ _ e1) (by decide) (by decide) rfl (by decide) (fun _ _ => ⟨_, rfl⟩) (Nat.le_of_ble_eq_true rfl) ?_
  refine G_aload_n (pc := 4) 0 dX9_tastes_4 rfl ?_
  refine G_iload_n (pc := 5) 1 dX9_tastes_5 rfl ?_
  obtain ⟨q2, e2, h⟩ := bnd_some h
  refine G_callV1r (pc := 6) 0 8 dX9_tastes_6 wv_X9_161 cd_X9_isJudge (S_X9_isJudge _ _ _ e2) (by decide) (by decide) rfl (by decide) (fun _ _ => ⟨_, rfl⟩) (Nat.le_of_ble_eq_true rfl) ?_
  refine G_if_eq (pc := 9) 20 dX9_tastes_9 (by decide) (fun c3 => ?_) (fun c3 => ?_)
  · replace h := itp c3 h
    refine G_bipush (pc := 20) (-2) dX9_tastes_20 bp_m2 ?_
    obtain rfl := Option.some.inj h
    exact G_iret (pc := 22) rfl dX9_tastes_22
  · replace h := itn c3 h
    refine G_aload_n (pc := 12) 0 dX9_tastes_12 rfl ?_
    refine G_iload_n (pc := 13) 1 dX9_tastes_13 rfl ?_
    obtain ⟨q4, e4, h⟩ := bnd_some h
    refine G_callV1r (pc := 14) 0 8 dX9_tastes_14 wv_X9_281 cd_X9_tastesOf (S_X9_tastesOf _ _ _ e4) (by decide) (by decide) rfl (by decide) (fun _ _ => ⟨_, rfl⟩) (Nat.le_of_ble_eq_true rfl) ?_
    refine G_goto (pc := 17) 22 dX9_tastes_17 (by decide) ?_
    obtain rfl := Option.some.inj h
    exact G_iret (pc := 22) rfl dX9_tastes_22
def F_X9_alike_77 (K5 : Int32 → Int32 → Int32 → Int32 → Mm → Option (Int32 × Mm)) (K18 : Int32 → Int32 → Int32 → Int32 → Int32 → Int32 → Mm → Option (Int32 × Mm)) (x1 : Int32) (x2 : Int32) (x3 : Int32) (x4 : Int32) (x6 : Int32) (y0 : Int32) (y1 : Int32) (μ : Mm) : Option (Int32 × Mm) := K18 x1 x2 x3 x4 (y1 + y0) (x6 + 1) μ
set_option maxRecDepth 100000 in
set_option maxHeartbeats 4000000 in
theorem B_X9_alike_77 (K5 : Int32 → Int32 → Int32 → Int32 → Mm → Option (Int32 × Mm)) (K18 : Int32 → Int32 → Int32 → Int32 → Int32 → Int32 → Mm → Option (Int32 × Mm)) (hK5 : ∀ (x1 : Int32) (x2 : Int32) (x3 : Int32) (x4 : Int32) (μ : Mm) (q : (Int32 × Mm)), K5 x1 x2 x3 x4 μ = some q → G wM RX9 cX9_alike 7 (some .int) 1 (some (.int q.1)) q.2 5 [(0, .ref 0), (1, .int x1), (2, .int x2), (3, .int x3), (4, .int x4)] [] μ) (hK18 : ∀ (x1 : Int32) (x2 : Int32) (x3 : Int32) (x4 : Int32) (x5 : Int32) (x6 : Int32) (μ : Mm) (q : (Int32 × Mm)), K18 x1 x2 x3 x4 x5 x6 μ = some q → G wM RX9 cX9_alike 7 (some .int) 1 (some (.int q.1)) q.2 18 [(0, .ref 0), (1, .int x1), (2, .int x2), (3, .int x3), (4, .int x4), (5, .int x5), (6, .int x6)] [] μ) (x1 : Int32) (x2 : Int32) (x3 : Int32) (x4 : Int32) (x6 : Int32) (y0 : Int32) (y1 : Int32) (μ : Mm) (q : (Int32 × Mm))  (h : F_X9_alike_77 K5 K18 x1 x2 x3 x4 x6 y0 y1 μ = some q) : G wM RX9 cX9_alike 7 (some .int) 1 (some (.int q.1)) q.2 77 [(0, .ref 0), (1, .int x1), (2, .int x2), (3, .int x3), (4, .int x4), (6, .int x6)] [.int y0, .int y1] μ := by
  unfold F_X9_alike_77 at h
  refine G_iadd (pc := 77) dX9_alike_77 ?_
  refine G_istore (pc := 78) [(5, .int _), (0, .ref _), (1, .int _), (2, .int _), (3, .int _), (4, .int _), (6, .int _)] dX9_alike_78 (Nat.le_of_ble_eq_true rfl) rfl ?_
  refine G_iinc (pc := 80) (1) 6 [(6, .int _), (5, .int _), (0, .ref _), (1, .int _), (2, .int _), (3, .int _), (4, .int _)] dX9_alike_80 ci_1 rfl (Nat.le_of_ble_eq_true rfl) rfl ?_
  refine G_goto (pc := 83) 18 dX9_alike_83 (by decide) ?_
  refine G_loc [2, 3, 4, 5, 6, 1, 0] [(0, .ref _), (1, .int _), (2, .int _), (3, .int _), (4, .int _), (5, .int _), (6, .int _)] rfl ?_
  exact hK18 _ _ _ _ _ _ _ _ h
def F_X9_alike_76 (K5 : Int32 → Int32 → Int32 → Int32 → Mm → Option (Int32 × Mm)) (K18 : Int32 → Int32 → Int32 → Int32 → Int32 → Int32 → Mm → Option (Int32 × Mm)) (x1 : Int32) (x2 : Int32) (x3 : Int32) (x4 : Int32) (x6 : Int32) (y0 : Int32) (μ : Mm) : Option (Int32 × Mm) := F_X9_alike_77 K5 K18 x1 x2 x3 x4 x6 0 y0 μ
set_option maxRecDepth 100000 in
set_option maxHeartbeats 4000000 in
theorem B_X9_alike_76 (K5 : Int32 → Int32 → Int32 → Int32 → Mm → Option (Int32 × Mm)) (K18 : Int32 → Int32 → Int32 → Int32 → Int32 → Int32 → Mm → Option (Int32 × Mm)) (hK5 : ∀ (x1 : Int32) (x2 : Int32) (x3 : Int32) (x4 : Int32) (μ : Mm) (q : (Int32 × Mm)), K5 x1 x2 x3 x4 μ = some q → G wM RX9 cX9_alike 7 (some .int) 1 (some (.int q.1)) q.2 5 [(0, .ref 0), (1, .int x1), (2, .int x2), (3, .int x3), (4, .int x4)] [] μ) (hK18 : ∀ (x1 : Int32) (x2 : Int32) (x3 : Int32) (x4 : Int32) (x5 : Int32) (x6 : Int32) (μ : Mm) (q : (Int32 × Mm)), K18 x1 x2 x3 x4 x5 x6 μ = some q → G wM RX9 cX9_alike 7 (some .int) 1 (some (.int q.1)) q.2 18 [(0, .ref 0), (1, .int x1), (2, .int x2), (3, .int x3), (4, .int x4), (5, .int x5), (6, .int x6)] [] μ) (x1 : Int32) (x2 : Int32) (x3 : Int32) (x4 : Int32) (x6 : Int32) (y0 : Int32) (μ : Mm) (q : (Int32 × Mm))  (h : F_X9_alike_76 K5 K18 x1 x2 x3 x4 x6 y0 μ = some q) : G wM RX9 cX9_alike 7 (some .int) 1 (some (.int q.1)) q.2 76 [(0, .ref 0), (1, .int x1), (2, .int x2), (3, .int x3), (4, .int x4), (6, .int x6)] [.int y0] μ := by
  unfold F_X9_alike_76 at h
  refine G_iconst (pc := 76) (0) dX9_alike_76 ci_0 ?_
  exact B_X9_alike_77 _ _ hK5 hK18 _ _ _ _ _ _ _ _ _ h
def L_X9_alike_18 (K5 : Int32 → Int32 → Int32 → Int32 → Mm → Option (Int32 × Mm)) : Nat → Int32 → Int32 → Int32 → Int32 → Int32 → Int32 → Mm → Option (Int32 × Mm)
  | 0, _, _, _, _, _, _, _ => none
  | n + 1, x1, x2, x3, x4, x5, x6, μ => if 10 ≤ x6 then (F_X9_greater x5 x3 μ).bind (fun q3 => K5 x1 x2 q3.1 (x4 + 1) q3.2) else (F_X9_isIn x1 x4 μ).bind (fun q4 => if q4.1 = 0 then F_X9_alike_76 K5 (L_X9_alike_18 K5 n) x1 x2 x3 x4 x6 x5 q4.2 else (F_X9_isIn x1 x6 q4.2).bind (fun q6 => if q6.1 = 0 then F_X9_alike_76 K5 (L_X9_alike_18 K5 n) x1 x2 x3 x4 x6 x5 q6.2 else gi ((12 * x4) + x2) 120 (gi ((12 * x6) + x2) 120 (if (q6.2.1 24 ((12 * x4) + x2).toNatClampNeg) = (q6.2.1 24 ((12 * x6) + x2).toNatClampNeg) then F_X9_alike_77 K5 (L_X9_alike_18 K5 n) x1 x2 x3 x4 x6 1 x5 q6.2 else F_X9_alike_76 K5 (L_X9_alike_18 K5 n) x1 x2 x3 x4 x6 x5 q6.2))))
set_option maxRecDepth 100000 in
set_option maxHeartbeats 4000000 in
theorem L_X9_alike_18_s (K5 : Int32 → Int32 → Int32 → Int32 → Mm → Option (Int32 × Mm)) (n : Nat) (x1 : Int32) (x2 : Int32) (x3 : Int32) (x4 : Int32) (x5 : Int32) (x6 : Int32) (μ : Mm) : L_X9_alike_18 K5 (n + 1) x1 x2 x3 x4 x5 x6 μ = (if 10 ≤ x6 then (F_X9_greater x5 x3 μ).bind (fun q3 => K5 x1 x2 q3.1 (x4 + 1) q3.2) else (F_X9_isIn x1 x4 μ).bind (fun q4 => if q4.1 = 0 then F_X9_alike_76 K5 (L_X9_alike_18 K5 n) x1 x2 x3 x4 x6 x5 q4.2 else (F_X9_isIn x1 x6 q4.2).bind (fun q6 => if q6.1 = 0 then F_X9_alike_76 K5 (L_X9_alike_18 K5 n) x1 x2 x3 x4 x6 x5 q6.2 else gi ((12 * x4) + x2) 120 (gi ((12 * x6) + x2) 120 (if (q6.2.1 24 ((12 * x4) + x2).toNatClampNeg) = (q6.2.1 24 ((12 * x6) + x2).toNatClampNeg) then F_X9_alike_77 K5 (L_X9_alike_18 K5 n) x1 x2 x3 x4 x6 1 x5 q6.2 else F_X9_alike_76 K5 (L_X9_alike_18 K5 n) x1 x2 x3 x4 x6 x5 q6.2))))) := rfl
set_option maxRecDepth 100000 in
set_option maxHeartbeats 4000000 in
theorem B_X9_alike_18 (K5 : Int32 → Int32 → Int32 → Int32 → Mm → Option (Int32 × Mm)) (hK5 : ∀ (x1 : Int32) (x2 : Int32) (x3 : Int32) (x4 : Int32) (μ : Mm) (q : (Int32 × Mm)), K5 x1 x2 x3 x4 μ = some q → G wM RX9 cX9_alike 7 (some .int) 1 (some (.int q.1)) q.2 5 [(0, .ref 0), (1, .int x1), (2, .int x2), (3, .int x3), (4, .int x4)] [] μ) : ∀ (n : Nat) (x1 : Int32) (x2 : Int32) (x3 : Int32) (x4 : Int32) (x5 : Int32) (x6 : Int32) (μ : Mm) (q : (Int32 × Mm)), L_X9_alike_18 K5 n x1 x2 x3 x4 x5 x6 μ = some q → G wM RX9 cX9_alike 7 (some .int) 1 (some (.int q.1)) q.2 18 [(0, .ref 0), (1, .int x1), (2, .int x2), (3, .int x3), (4, .int x4), (5, .int x5), (6, .int x6)] [] μ := by
  intro n
  induction n with
  | zero =>
    intro x1 x2 x3 x4 x5 x6 μ q  h
    cases h
  | succ n ih =>
    intro x1 x2 x3 x4 x5 x6 μ q  h
    rw [L_X9_alike_18_s] at h
    refine G_iload (pc := 18) 6 dX9_alike_18 rfl ?_
    refine G_bipush (pc := 20) (10) dX9_alike_20 bp_10 ?_
    refine G_icmp_ge (pc := 22) 86 dX9_alike_22 (by decide) (fun c2 => ?_) (fun c2 => ?_)
    · replace h := itp c2 h
      refine G_iload (pc := 86) 5 dX9_alike_86 rfl ?_
      refine G_iload_n (pc := 88) 3 dX9_alike_88 rfl ?_
      obtain ⟨q3, e3, h⟩ := bnd_some h
      refine G_callS2r (pc := 89) dX9_alike_89 ws_X9_181 cd_X9_greater (S_X9_greater _ _ _ _ e3) (by decide) (by decide) (Nat.le_of_ble_eq_true rfl) ?_
      refine G_istore_n (pc := 92) [(3, .int _), (0, .ref _), (1, .int _), (2, .int _), (4, .int _), (5, .int _), (6, .int _)] dX9_alike_92 (Nat.le_of_ble_eq_true rfl) rfl ?_
      refine G_iinc (pc := 93) (1) 4 [(4, .int _), (3, .int _), (0, .ref _), (1, .int _), (2, .int _), (5, .int _), (6, .int _)] dX9_alike_93 ci_1 rfl (Nat.le_of_ble_eq_true rfl) rfl ?_
      refine G_goto (pc := 96) 5 dX9_alike_96 (by decide) ?_
      refine G_loc [2, 3, 4, 1, 0] [(0, .ref _), (1, .int _), (2, .int _), (3, .int _), (4, .int _)] rfl ?_
      exact hK5 _ _ _ _ _ _ h
    · replace h := itn c2 h
      refine G_iload (pc := 25) 5 dX9_alike_25 rfl ?_
      refine G_iload_n (pc := 27) 1 dX9_alike_27 rfl ?_
      refine G_iload (pc := 28) 4 dX9_alike_28 rfl ?_
      obtain ⟨q4, e4, h⟩ := bnd_some h
      refine G_callS2r (pc := 30) dX9_alike_30 ws_X9_187 cd_X9_isIn (S_X9_isIn _ _ _ _ e4) (by decide) (by decide) (Nat.le_of_ble_eq_true rfl) ?_
      refine G_if_eq (pc := 33) 76 dX9_alike_33 (by decide) (fun c5 => ?_) (fun c5 => ?_)
      · replace h := itp c5 h
        refine G_loc [0, 1, 2, 3, 4, 6] [(0, .ref _), (1, .int _), (2, .int _), (3, .int _), (4, .int _), (6, .int _)] rfl ?_
        exact B_X9_alike_76 _ _ hK5 ih _ _ _ _ _ _ _ _ h
      · replace h := itn c5 h
        refine G_iload_n (pc := 36) 1 dX9_alike_36 rfl ?_
        refine G_iload (pc := 37) 6 dX9_alike_37 rfl ?_
        obtain ⟨q6, e6, h⟩ := bnd_some h
        refine G_callS2r (pc := 39) dX9_alike_39 ws_X9_187 cd_X9_isIn (S_X9_isIn _ _ _ _ e6) (by decide) (by decide) (Nat.le_of_ble_eq_true rfl) ?_
        refine G_if_eq (pc := 42) 76 dX9_alike_42 (by decide) (fun c7 => ?_) (fun c7 => ?_)
        · replace h := itp c7 h
          refine G_loc [0, 1, 2, 3, 4, 6] [(0, .ref _), (1, .int _), (2, .int _), (3, .int _), (4, .int _), (6, .int _)] rfl ?_
          exact B_X9_alike_76 _ _ hK5 ih _ _ _ _ _ _ _ _ h
        · replace h := itn c7 h
          refine G_aload_n (pc := 45) 0 dX9_alike_45 rfl ?_
          refine gwM_X9_80_0 (pc := 46) dX9_alike_46 ?_
          refine G_bipush (pc := 49) (12) dX9_alike_49 bp_12 ?_
          refine G_iload (pc := 51) 4 dX9_alike_51 rfl ?_
          refine G_imul (pc := 53) dX9_alike_53 ?_
          refine G_iload_n (pc := 54) 2 dX9_alike_54 rfl ?_
          refine G_iadd (pc := 55) dX9_alike_55 ?_
          obtain ⟨g8, h⟩ := gi_some h
          refine alwM_24 (pc := 56) dX9_alike_56 g8 ?_
          refine G_aload_n (pc := 57) 0 dX9_alike_57 rfl ?_
          refine gwM_X9_80_0 (pc := 58) dX9_alike_58 ?_
          refine G_bipush (pc := 61) (12) dX9_alike_61 bp_12 ?_
          refine G_iload (pc := 63) 6 dX9_alike_63 rfl ?_
          refine G_imul (pc := 65) dX9_alike_65 ?_
          refine G_iload_n (pc := 66) 2 dX9_alike_66 rfl ?_
          refine G_iadd (pc := 67) dX9_alike_67 ?_
          obtain ⟨g9, h⟩ := gi_some h
          refine alwM_24 (pc := 68) dX9_alike_68 g9 ?_
          refine G_icmp_ne (pc := 69) 76 dX9_alike_69 (by decide) (fun c10 => ?_) (fun c10 => ?_)
          · replace h := itn c10 h
            refine G_loc [0, 1, 2, 3, 4, 6] [(0, .ref _), (1, .int _), (2, .int _), (3, .int _), (4, .int _), (6, .int _)] rfl ?_
            exact B_X9_alike_76 _ _ hK5 ih _ _ _ _ _ _ _ _ h
          · replace h := itp c10 h
            refine G_iconst (pc := 72) (1) dX9_alike_72 ci_1 ?_
            refine G_goto (pc := 73) 77 dX9_alike_73 (by decide) ?_
            refine G_loc [0, 1, 2, 3, 4, 6] [(0, .ref _), (1, .int _), (2, .int _), (3, .int _), (4, .int _), (6, .int _)] rfl ?_
            exact B_X9_alike_77 _ _ hK5 ih _ _ _ _ _ _ _ _ _ h
def L_X9_alike_5 : Nat → Int32 → Int32 → Int32 → Int32 → Mm → Option (Int32 × Mm)
  | 0, _, _, _, _, _ => none
  | n + 1, x1, x2, x3, x4, μ => if 10 ≤ x4 then some (x3, μ) else L_X9_alike_18 (L_X9_alike_5 n) FUEL x1 x2 x3 x4 0 0 μ
set_option maxRecDepth 100000 in
set_option maxHeartbeats 4000000 in
theorem L_X9_alike_5_s (n : Nat) (x1 : Int32) (x2 : Int32) (x3 : Int32) (x4 : Int32) (μ : Mm) : L_X9_alike_5  (n + 1) x1 x2 x3 x4 μ = (if 10 ≤ x4 then some (x3, μ) else L_X9_alike_18 (L_X9_alike_5 n) FUEL x1 x2 x3 x4 0 0 μ) := rfl
set_option maxRecDepth 100000 in
set_option maxHeartbeats 4000000 in
theorem B_X9_alike_5 : ∀ (n : Nat) (x1 : Int32) (x2 : Int32) (x3 : Int32) (x4 : Int32) (μ : Mm) (q : (Int32 × Mm)), L_X9_alike_5  n x1 x2 x3 x4 μ = some q → G wM RX9 cX9_alike 7 (some .int) 1 (some (.int q.1)) q.2 5 [(0, .ref 0), (1, .int x1), (2, .int x2), (3, .int x3), (4, .int x4)] [] μ := by
  intro n
  induction n with
  | zero =>
    intro x1 x2 x3 x4 μ q  h
    cases h
  | succ n ih =>
    intro x1 x2 x3 x4 μ q  h
    rw [L_X9_alike_5_s] at h
    refine G_iload (pc := 5) 4 dX9_alike_5 rfl ?_
    refine G_bipush (pc := 7) (10) dX9_alike_7 bp_10 ?_
    refine G_icmp_ge (pc := 9) 99 dX9_alike_9 (by decide) (fun c1 => ?_) (fun c1 => ?_)
    · replace h := itp c1 h
      refine G_iload_n (pc := 99) 3 dX9_alike_99 rfl ?_
      obtain rfl := Option.some.inj h
      exact G_iret (pc := 100) rfl dX9_alike_100
    · replace h := itn c1 h
      refine G_iconst (pc := 12) (0) dX9_alike_12 ci_0 ?_
      refine G_istore (pc := 13) [(5, .int _), (0, .ref _), (1, .int _), (2, .int _), (3, .int _), (4, .int _)] dX9_alike_13 (Nat.le_of_ble_eq_true rfl) rfl ?_
      refine G_iconst (pc := 15) (0) dX9_alike_15 ci_0 ?_
      refine G_istore (pc := 16) [(6, .int _), (5, .int _), (0, .ref _), (1, .int _), (2, .int _), (3, .int _), (4, .int _)] dX9_alike_16 (Nat.le_of_ble_eq_true rfl) rfl ?_
      refine G_loc [2, 3, 4, 5, 6, 1, 0] [(0, .ref _), (1, .int _), (2, .int _), (3, .int _), (4, .int _), (5, .int _), (6, .int _)] rfl ?_
      exact B_X9_alike_18 _ ih _ _ _ _ _ _ _ _ _ h
def F_X9_alike (x1 : Int32) (x2 : Int32) (μ : Mm) : Option (Int32 × Mm) := L_X9_alike_5 FUEL x1 x2 0 0 μ
set_option maxRecDepth 100000 in
set_option maxHeartbeats 4000000 in
theorem S_X9_alike (x1 : Int32) (x2 : Int32)  (μ : Mm) (q : (Int32 × Mm)) (h : F_X9_alike x1 x2 μ = some q) : Cn wM yX9_alike cX9_alike 7 (some .int) 1 [.ref 0, .int x1, .int x2] μ (some (.int q.1)) q.2 := by
  refine Cn_of (by decide +kernel) (Nat.le_of_ble_eq_true rfl) ?_
  show G wM RX9 cX9_alike 7 (some .int) 1 (some (.int q.1)) q.2 0 [(0, .ref 0), (1, .int x1), (2, .int x2)] [] μ
  unfold F_X9_alike at h
  refine G_iconst (pc := 0) (0) dX9_alike_0 ci_0 ?_
  refine G_istore_n (pc := 1) [(3, .int _), (0, .ref _), (1, .int _), (2, .int _)] dX9_alike_1 (Nat.le_of_ble_eq_true rfl) rfl ?_
  refine G_iconst (pc := 2) (0) dX9_alike_2 ci_0 ?_
  refine G_istore (pc := 3) [(4, .int _), (3, .int _), (0, .ref _), (1, .int _), (2, .int _)] dX9_alike_3 (Nat.le_of_ble_eq_true rfl) rfl ?_
  refine G_loc [2, 3, 4, 1, 0] [(0, .ref _), (1, .int _), (2, .int _), (3, .int _), (4, .int _)] rfl ?_
  exact B_X9_alike_5 _ _ _ _ _ _ _ h
def F_X9_askOf_40 (K11 : Int32 → Int32 → Int32 → Mm → Option (Int32 × Mm)) (x2 : Int32) (x4 : Int32) (y0 : Int32) (μ : Mm) : Option (Int32 × Mm) := K11 x2 y0 (x4 + 1) μ
set_option maxRecDepth 100000 in
set_option maxHeartbeats 4000000 in
theorem B_X9_askOf_40 (K11 : Int32 → Int32 → Int32 → Mm → Option (Int32 × Mm)) (hK11 : ∀ (x2 : Int32) (x3 : Int32) (x4 : Int32) (μ : Mm) (q : (Int32 × Mm)), K11 x2 x3 x4 μ = some q → G wM RX9 cX9_askOf 5 (some .int) 7 (some (.int q.1)) q.2 11 [(0, .ref 0), (2, .int x2), (3, .int x3), (4, .int x4)] [] μ) (x2 : Int32) (x4 : Int32) (y0 : Int32) (μ : Mm) (q : (Int32 × Mm))  (h : F_X9_askOf_40 K11 x2 x4 y0 μ = some q) : G wM RX9 cX9_askOf 5 (some .int) 7 (some (.int q.1)) q.2 40 [(0, .ref 0), (2, .int x2), (4, .int x4)] [.int y0] μ := by
  unfold F_X9_askOf_40 at h
  refine G_istore_n (pc := 40) [(3, .int _), (0, .ref _), (2, .int _), (4, .int _)] dX9_askOf_40 (Nat.le_of_ble_eq_true rfl) rfl ?_
  refine G_iinc (pc := 41) (1) 3 [(4, .int _), (3, .int _), (0, .ref _), (2, .int _)] dX9_askOf_41 ci_1 rfl (Nat.le_of_ble_eq_true rfl) rfl ?_
  refine G_goto (pc := 44) 11 dX9_askOf_44 (by decide) ?_
  refine G_loc [2, 3, 1, 0] [(0, .ref _), (2, .int _), (3, .int _), (4, .int _)] rfl ?_
  exact hK11 _ _ _ _ _ h
def L_X9_askOf_11 : Nat → Int32 → Int32 → Int32 → Mm → Option (Int32 × Mm)
  | 0, _, _, _, _ => none
  | n + 1, x2, x3, x4, μ => if 12 ≤ x4 then some (x3, μ) else (F_X9_alike x2 x4 μ).bind (fun q3 => (F_X9_alike x2 x3 q3.2).bind (fun q4 => F_X9_askOf_40 (L_X9_askOf_11 n) x2 x4 (if q4.1 ≤ q3.1 then x3 else x4) q4.2))
set_option maxRecDepth 100000 in
set_option maxHeartbeats 4000000 in
theorem L_X9_askOf_11_s (n : Nat) (x2 : Int32) (x3 : Int32) (x4 : Int32) (μ : Mm) : L_X9_askOf_11  (n + 1) x2 x3 x4 μ = (if 12 ≤ x4 then some (x3, μ) else (F_X9_alike x2 x4 μ).bind (fun q3 => (F_X9_alike x2 x3 q3.2).bind (fun q4 => F_X9_askOf_40 (L_X9_askOf_11 n) x2 x4 (if q4.1 ≤ q3.1 then x3 else x4) q4.2))) := rfl
set_option maxRecDepth 100000 in
set_option maxHeartbeats 4000000 in
theorem B_X9_askOf_11 : ∀ (n : Nat) (x2 : Int32) (x3 : Int32) (x4 : Int32) (μ : Mm) (q : (Int32 × Mm)), L_X9_askOf_11  n x2 x3 x4 μ = some q → G wM RX9 cX9_askOf 5 (some .int) 7 (some (.int q.1)) q.2 11 [(0, .ref 0), (2, .int x2), (3, .int x3), (4, .int x4)] [] μ := by
  intro n
  induction n with
  | zero =>
    intro x2 x3 x4 μ q  h
    cases h
  | succ n ih =>
    intro x2 x3 x4 μ q  h
    rw [L_X9_askOf_11_s] at h
    refine G_iload (pc := 11) 3 dX9_askOf_11 rfl ?_
    refine G_bipush (pc := 13) (12) dX9_askOf_13 bp_12 ?_
    refine G_icmp_ge (pc := 15) 47 dX9_askOf_15 (by decide) (fun c2 => ?_) (fun c2 => ?_)
    · replace h := itp c2 h
      refine G_iload_n (pc := 47) 2 dX9_askOf_47 rfl ?_
      obtain rfl := Option.some.inj h
      exact G_iret (pc := 48) rfl dX9_askOf_48
    · replace h := itn c2 h
      refine G_aload_n (pc := 18) 0 dX9_askOf_18 rfl ?_
      refine G_iload_n (pc := 19) 1 dX9_askOf_19 rfl ?_
      refine G_iload (pc := 20) 3 dX9_askOf_20 rfl ?_
      obtain ⟨q3, e3, h⟩ := bnd_some h
      refine G_callV2r (pc := 22) 0 8 dX9_askOf_22 wv_X9_284 cd_X9_alike (S_X9_alike _ _ _ _ e3) (by decide) (by decide) rfl (by decide) (fun _ _ => ⟨_, rfl⟩) (Nat.le_of_ble_eq_true rfl) ?_
      refine G_aload_n (pc := 25) 0 dX9_askOf_25 rfl ?_
      refine G_iload_n (pc := 26) 1 dX9_askOf_26 rfl ?_
      refine G_iload_n (pc := 27) 2 dX9_askOf_27 rfl ?_
      obtain ⟨q4, e4, h⟩ := bnd_some h
      refine G_callV2r (pc := 28) 0 8 dX9_askOf_28 wv_X9_284 cd_X9_alike (S_X9_alike _ _ _ _ e4) (by decide) (by decide) rfl (by decide) (fun _ _ => ⟨_, rfl⟩) (Nat.le_of_ble_eq_true rfl) ?_
      refine G_icmp_ge (pc := 31) 39 dX9_askOf_31 (by decide) (fun c5 => ?_) (fun c5 => ?_)
      · rw [if_pos c5] at h
        refine G_iload_n (pc := 39) 2 dX9_askOf_39 rfl ?_
        refine G_loc [0, 1, 3] [(0, .ref _), (2, .int _), (4, .int _)] rfl ?_
        exact B_X9_askOf_40 _ ih _ _ _ _ _ h
      · rw [if_neg c5] at h
        refine G_iload (pc := 34) 3 dX9_askOf_34 rfl ?_
        refine G_goto (pc := 36) 40 dX9_askOf_36 (by decide) ?_
        refine G_loc [0, 1, 3] [(0, .ref _), (2, .int _), (4, .int _)] rfl ?_
        exact B_X9_askOf_40 _ ih _ _ _ _ _ h
def F_X9_askOf (x1 : Int32) (μ : Mm) : Option (Int32 × Mm) := (F_X9_lookedOf x1 μ).bind (fun q1 => L_X9_askOf_11 FUEL q1.1 0 1 q1.2)
set_option maxRecDepth 100000 in
set_option maxHeartbeats 4000000 in
theorem S_X9_askOf (x1 : Int32)  (μ : Mm) (q : (Int32 × Mm)) (h : F_X9_askOf x1 μ = some q) : Cn wM yX9_askOf cX9_askOf 5 (some .int) 7 [.ref 0, .int x1] μ (some (.int q.1)) q.2 := by
  refine Cn_of (by decide +kernel) (Nat.le_of_ble_eq_true rfl) ?_
  show G wM RX9 cX9_askOf 5 (some .int) 7 (some (.int q.1)) q.2 0 [(0, .ref 0), (1, .int x1)] [] μ
  unfold F_X9_askOf at h
  refine G_aload_n (pc := 0) 0 dX9_askOf_0 rfl ?_
  refine G_iload_n (pc := 1) 1 dX9_askOf_1 rfl ?_
  obtain ⟨q1, e1, h⟩ := bnd_some h
  refine G_callV1r (pc := 2) 0 8 dX9_askOf_2 wv_X9_278 cd_X9_lookedOf (S_X9_lookedOf _ _ _ e1) (by decide) (by decide) rfl (by decide) (fun _ _ => ⟨_, rfl⟩) (Nat.le_of_ble_eq_true rfl) ?_
  refine G_istore_n (pc := 5) [(2, .int _), (0, .ref _), (1, .int _)] dX9_askOf_5 (Nat.le_of_ble_eq_true rfl) rfl ?_
  refine G_iconst (pc := 6) (0) dX9_askOf_6 ci_0 ?_
  refine G_istore_n (pc := 7) [(3, .int _), (2, .int _), (0, .ref _), (1, .int _)] dX9_askOf_7 (Nat.le_of_ble_eq_true rfl) rfl ?_
  refine G_iconst (pc := 8) (1) dX9_askOf_8 ci_1 ?_
  refine G_istore (pc := 9) [(4, .int _), (3, .int _), (2, .int _), (0, .ref _), (1, .int _)] dX9_askOf_9 (Nat.le_of_ble_eq_true rfl) rfl ?_
  refine G_loc [3, 2, 1, 0] [(0, .ref _), (2, .int _), (3, .int _), (4, .int _)] rfl ?_
  exact B_X9_askOf_11 _ _ _ _ _ _ h
def F_X9_ask (x1 : Int32) (μ : Mm) : Option (Int32 × Mm) := (F_X9_find μ).bind (fun q1 => (F_X9_isThing x1 q1).bind (fun q2 => if q2.1 = 0 then some ((-2), q2.2) else (F_X9_askOf x1 q2.2).bind (fun q4 => some (q4.1, q4.2))))
set_option maxRecDepth 100000 in
set_option maxHeartbeats 4000000 in
theorem S_X9_ask (x1 : Int32)  (μ : Mm) (q : (Int32 × Mm)) (h : F_X9_ask x1 μ = some q) : Cn wM yX9_ask cX9_ask 2 (some .int) 8 [.ref 0, .int x1] μ (some (.int q.1)) q.2 := by
  refine Cn_of (by decide +kernel) (Nat.le_of_ble_eq_true rfl) ?_
  show G wM RX9 cX9_ask 2 (some .int) 8 (some (.int q.1)) q.2 0 [(0, .ref 0), (1, .int x1)] [] μ
  unfold F_X9_ask at h
  refine G_aload_n (pc := 0) 0 dX9_ask_0 rfl ?_
  obtain ⟨q1, e1, h⟩ := bnd_some h
  refine G_callV0v (pc := 1) 0 8 dX9_ask_1 wv_X9_220 cd_X9_find (S_X9_find _ _ e1) (by decide) (by decide) rfl (by decide) (fun _ _ => ⟨_, rfl⟩) (Nat.le_of_ble_eq_true rfl) ?_
  refine G_aload_n (pc := 4) 0 dX9_ask_4 rfl ?_
  refine G_iload_n (pc := 5) 1 dX9_ask_5 rfl ?_
  obtain ⟨q2, e2, h⟩ := bnd_some h
  refine G_callV1r (pc := 6) 0 8 dX9_ask_6 wv_X9_158 cd_X9_isThing (S_X9_isThing _ _ _ e2) (by decide) (by decide) rfl (by decide) (fun _ _ => ⟨_, rfl⟩) (Nat.le_of_ble_eq_true rfl) ?_
  refine G_if_eq (pc := 9) 20 dX9_ask_9 (by decide) (fun c3 => ?_) (fun c3 => ?_)
  · replace h := itp c3 h
    refine G_bipush (pc := 20) (-2) dX9_ask_20 bp_m2 ?_
    obtain rfl := Option.some.inj h
    exact G_iret (pc := 22) rfl dX9_ask_22
  · replace h := itn c3 h
    refine G_aload_n (pc := 12) 0 dX9_ask_12 rfl ?_
    refine G_iload_n (pc := 13) 1 dX9_ask_13 rfl ?_
    obtain ⟨q4, e4, h⟩ := bnd_some h
    refine G_callV1r (pc := 14) 0 8 dX9_ask_14 wv_X9_287 cd_X9_askOf (S_X9_askOf _ _ _ e4) (by decide) (by decide) rfl (by decide) (fun _ _ => ⟨_, rfl⟩) (Nat.le_of_ble_eq_true rfl) ?_
    refine G_goto (pc := 17) 22 dX9_ask_17 (by decide) ?_
    obtain rfl := Option.some.inj h
    exact G_iret (pc := 22) rfl dX9_ask_22
def F_X9_no (x0 : Int32) (μ : Mm) : Option (Int64 × Mm) := some (((-9223372036854775808) - x0.toInt64), μ)
set_option maxRecDepth 100000 in
set_option maxHeartbeats 4000000 in
theorem S_X9_no (x0 : Int32)  (μ : Mm) (q : (Int64 × Mm)) (h : F_X9_no x0 μ = some q) : Cn wM yX9_no cX9_no 1 (some .long) 0 [.int x0] μ (some (.long q.1)) q.2 := by
  refine Cn_of (by decide +kernel) (Nat.le_of_ble_eq_true rfl) ?_
  show G wM RX9 cX9_no 1 (some .long) 0 (some (.long q.1)) q.2 0 [(0, .int x0)] [] μ
  unfold F_X9_no at h
  refine G_ldc2 (pc := 0) (-9223372036854775808) dX9_no_0 kl_X9_90 ?_
  refine G_iload_n (pc := 3) 0 dX9_no_3 rfl ?_
  refine G_i2l (pc := 4) dX9_no_4 ?_
  refine G_lsub (pc := 5) dX9_no_5 ?_
  obtain rfl := Option.some.inj h
  exact G_lret (pc := 6) rfl dX9_no_6
def L_X9_part_6 : Nat → Int64 → Int64 → Int32 → Int64 → Int64 → Mm → Option (Int64 × Mm)
  | 0, _, _, _, _, _, _ => none
  | n + 1, x0, x2, x4, x5, x7, μ => if (lg_cmp x7 0) = 0 then if x4 = 0 then gz (decide (x5 = (0 : Int64))) (some ((x0 / x5), μ)) else gz (decide (x5 = (0 : Int64))) (some ((x2 / x5), μ)) else gz (decide (x7 = (0 : Int64))) (L_X9_part_6 n x0 x2 x4 x7 (x5 - x5 / x7 * x7) μ)
set_option maxRecDepth 100000 in
set_option maxHeartbeats 4000000 in
theorem L_X9_part_6_s (n : Nat) (x0 : Int64) (x2 : Int64) (x4 : Int32) (x5 : Int64) (x7 : Int64) (μ : Mm) : L_X9_part_6  (n + 1) x0 x2 x4 x5 x7 μ = (if (lg_cmp x7 0) = 0 then if x4 = 0 then gz (decide (x5 = (0 : Int64))) (some ((x0 / x5), μ)) else gz (decide (x5 = (0 : Int64))) (some ((x2 / x5), μ)) else gz (decide (x7 = (0 : Int64))) (L_X9_part_6 n x0 x2 x4 x7 (x5 - x5 / x7 * x7) μ)) := rfl
set_option maxRecDepth 100000 in
set_option maxHeartbeats 4000000 in
theorem B_X9_part_6 : ∀ (n : Nat) (x0 : Int64) (x2 : Int64) (x4 : Int32) (x5 : Int64) (x7 : Int64) (μ : Mm) (q : (Int64 × Mm)), L_X9_part_6  n x0 x2 x4 x5 x7 μ = some q → G wM RX9 cX9_part 11 (some .long) 0 (some (.long q.1)) q.2 6 [(0, .long x0), (2, .long x2), (4, .int x4), (5, .long x5), (7, .long x7)] [] μ := by
  intro n
  induction n with
  | zero =>
    intro x0 x2 x4 x5 x7 μ q  h
    cases h
  | succ n ih =>
    intro x0 x2 x4 x5 x7 μ q  h
    rw [L_X9_part_6_s] at h
    refine G_lload (pc := 6) 4 dX9_part_6 rfl ?_
    refine G_lconst (pc := 8) (0) dX9_part_8 lc_0 ?_
    refine G_lcmp (pc := 9) dX9_part_9 ?_
    refine G_if_eq (pc := 10) 31 dX9_part_10 (by decide) (fun c1 => ?_) (fun c1 => ?_)
    · replace h := itp c1 h
      refine G_iload (pc := 31) 2 dX9_part_31 rfl ?_
      refine G_if_ne (pc := 33) 40 dX9_part_33 (by decide) (fun c2 => ?_) (fun c2 => ?_)
      · replace h := itn c2 h
        refine G_lload_n (pc := 40) 1 dX9_part_40 rfl ?_
        refine G_lload (pc := 41) 3 dX9_part_41 rfl ?_
        obtain ⟨g3, h⟩ := gz_some h
        refine G_ldiv (pc := 43) dX9_part_43 g3 ?_
        obtain rfl := Option.some.inj h
        exact G_lret (pc := 44) rfl dX9_part_44
      · replace h := itp c2 h
        refine G_lload_n (pc := 36) 0 dX9_part_36 rfl ?_
        refine G_goto (pc := 37) 41 dX9_part_37 (by decide) ?_
        refine G_lload (pc := 41) 3 dX9_part_41 rfl ?_
        obtain ⟨g4, h⟩ := gz_some h
        refine G_ldiv (pc := 43) dX9_part_43 g4 ?_
        obtain rfl := Option.some.inj h
        exact G_lret (pc := 44) rfl dX9_part_44
    · replace h := itn c1 h
      refine G_lload (pc := 13) 3 dX9_part_13 rfl ?_
      refine G_lload (pc := 15) 4 dX9_part_15 rfl ?_
      obtain ⟨g5, h⟩ := gz_some h
      refine G_lrem (pc := 17) dX9_part_17 g5 ?_
      refine G_lstore (pc := 18) [(9, .long _), (0, .long _), (2, .long _), (4, .int _), (5, .long _), (7, .long _)] dX9_part_18 (Nat.le_of_ble_eq_true rfl) rfl ?_
      refine G_lload (pc := 20) 5 dX9_part_20 rfl ?_
      refine G_lstore (pc := 22) [(5, .long _), (9, .long _), (0, .long _), (2, .long _), (4, .int _), (7, .long _)] dX9_part_22 (Nat.le_of_ble_eq_true rfl) rfl ?_
      refine G_lload (pc := 24) 1 dX9_part_24 rfl ?_
      refine G_lstore (pc := 26) [(7, .long _), (5, .long _), (9, .long _), (0, .long _), (2, .long _), (4, .int _)] dX9_part_26 (Nat.le_of_ble_eq_true rfl) rfl ?_
      refine G_goto (pc := 28) 6 dX9_part_28 (by decide) ?_
      refine G_loc [3, 4, 5, 1, 0] [(0, .long _), (2, .long _), (4, .int _), (5, .long _), (7, .long _)] rfl ?_
      exact ih _ _ _ _ _ _ _ h
def F_X9_part (x0 : Int64) (x2 : Int64) (x4 : Int32) (μ : Mm) : Option (Int64 × Mm) := L_X9_part_6 FUEL x0 x2 x4 x0 x2 μ
set_option maxRecDepth 100000 in
set_option maxHeartbeats 4000000 in
theorem S_X9_part (x0 : Int64) (x2 : Int64) (x4 : Int32)  (μ : Mm) (q : (Int64 × Mm)) (h : F_X9_part x0 x2 x4 μ = some q) : Cn wM yX9_part cX9_part 11 (some .long) 0 [.long x0, .long x2, .int x4] μ (some (.long q.1)) q.2 := by
  refine Cn_of (by decide +kernel) (Nat.le_of_ble_eq_true rfl) ?_
  show G wM RX9 cX9_part 11 (some .long) 0 (some (.long q.1)) q.2 0 [(0, .long x0), (2, .long x2), (4, .int x4)] [] μ
  unfold F_X9_part at h
  refine G_lload_n (pc := 0) 0 dX9_part_0 rfl ?_
  refine G_lstore (pc := 1) [(5, .long _), (0, .long _), (2, .long _), (4, .int _)] dX9_part_1 (Nat.le_of_ble_eq_true rfl) rfl ?_
  refine G_lload_n (pc := 3) 2 dX9_part_3 rfl ?_
  refine G_lstore (pc := 4) [(7, .long _), (5, .long _), (0, .long _), (2, .long _), (4, .int _)] dX9_part_4 (Nat.le_of_ble_eq_true rfl) rfl ?_
  refine G_loc [2, 3, 4, 1, 0] [(0, .long _), (2, .long _), (4, .int _), (5, .long _), (7, .long _)] rfl ?_
  exact B_X9_part_6 _ _ _ _ _ _ _ _ h
def F_X9_chanceOf_76 (K6 : Int32 → Int32 → Int32 → Int64 → Int32 → Mm → Option (Int64 × Mm)) (K45 : Int32 → Int32 → Int32 → Int64 → Int32 → Int64 → Int32 → Mm → Option (Int64 × Mm)) (x1 : Int32) (x2 : Int32) (x3 : Int32) (x4 : Int64) (x6 : Int32) (x9 : Int32) (y0 : Int64) (y1 : Int64) (μ : Mm) : Option (Int64 × Mm) := K45 x1 x2 x3 x4 x6 (y1 * y0) (x9 + 1) μ
set_option maxRecDepth 100000 in
set_option maxHeartbeats 4000000 in
theorem B_X9_chanceOf_76 (K6 : Int32 → Int32 → Int32 → Int64 → Int32 → Mm → Option (Int64 × Mm)) (K45 : Int32 → Int32 → Int32 → Int64 → Int32 → Int64 → Int32 → Mm → Option (Int64 × Mm)) (hK6 : ∀ (x1 : Int32) (x2 : Int32) (x3 : Int32) (x4 : Int64) (x6 : Int32) (μ : Mm) (q : (Int64 × Mm)), K6 x1 x2 x3 x4 x6 μ = some q → G wM RX9 cX9_chanceOf 10 (some .long) 5 (some (.long q.1)) q.2 6 [(0, .ref 0), (1, .int x1), (2, .int x2), (3, .int x3), (4, .long x4), (6, .int x6)] [] μ) (hK45 : ∀ (x1 : Int32) (x2 : Int32) (x3 : Int32) (x4 : Int64) (x6 : Int32) (x7 : Int64) (x9 : Int32) (μ : Mm) (q : (Int64 × Mm)), K45 x1 x2 x3 x4 x6 x7 x9 μ = some q → G wM RX9 cX9_chanceOf 10 (some .long) 5 (some (.long q.1)) q.2 45 [(0, .ref 0), (1, .int x1), (2, .int x2), (3, .int x3), (4, .long x4), (6, .int x6), (7, .long x7), (9, .int x9)] [] μ) (x1 : Int32) (x2 : Int32) (x3 : Int32) (x4 : Int64) (x6 : Int32) (x9 : Int32) (y0 : Int64) (y1 : Int64) (μ : Mm) (q : (Int64 × Mm))  (h : F_X9_chanceOf_76 K6 K45 x1 x2 x3 x4 x6 x9 y0 y1 μ = some q) : G wM RX9 cX9_chanceOf 10 (some .long) 5 (some (.long q.1)) q.2 76 [(0, .ref 0), (1, .int x1), (2, .int x2), (3, .int x3), (4, .long x4), (6, .int x6), (9, .int x9)] [.long y0, .long y1] μ := by
  unfold F_X9_chanceOf_76 at h
  refine G_lmul (pc := 76) dX9_chanceOf_76 ?_
  refine G_lstore (pc := 77) [(7, .long _), (0, .ref _), (1, .int _), (2, .int _), (3, .int _), (4, .long _), (6, .int _), (9, .int _)] dX9_chanceOf_77 (Nat.le_of_ble_eq_true rfl) rfl ?_
  refine G_iinc (pc := 79) (1) 7 [(9, .int _), (7, .long _), (0, .ref _), (1, .int _), (2, .int _), (3, .int _), (4, .long _), (6, .int _)] dX9_chanceOf_79 ci_1 rfl (Nat.le_of_ble_eq_true rfl) rfl ?_
  refine G_goto (pc := 82) 45 dX9_chanceOf_82 (by decide) ?_
  refine G_loc [2, 3, 4, 5, 6, 7, 1, 0] [(0, .ref _), (1, .int _), (2, .int _), (3, .int _), (4, .long _), (6, .int _), (7, .long _), (9, .int _)] rfl ?_
  exact hK45 _ _ _ _ _ _ _ _ _ h
def L_X9_chanceOf_45 (K6 : Int32 → Int32 → Int32 → Int64 → Int32 → Mm → Option (Int64 × Mm)) : Nat → Int32 → Int32 → Int32 → Int64 → Int32 → Int64 → Int32 → Mm → Option (Int64 × Mm)
  | 0, _, _, _, _, _, _, _, _ => none
  | n + 1, x1, x2, x3, x4, x6, x7, x9, μ => if (μ.1 0 13) ≤ x9 then K6 x1 x2 x3 (x4 + x7) (x6 + 1) μ else (F_X9_isIn x6 x9 μ).bind (fun q7 => F_X9_chanceOf_76 K6 (L_X9_chanceOf_45 K6 n) x1 x2 x3 x4 x6 x9 (if q7.1 = 0 then x1.toInt64 else (16 - x1).toInt64) x7 q7.2)
set_option maxRecDepth 100000 in
set_option maxHeartbeats 4000000 in
theorem L_X9_chanceOf_45_s (K6 : Int32 → Int32 → Int32 → Int64 → Int32 → Mm → Option (Int64 × Mm)) (n : Nat) (x1 : Int32) (x2 : Int32) (x3 : Int32) (x4 : Int64) (x6 : Int32) (x7 : Int64) (x9 : Int32) (μ : Mm) : L_X9_chanceOf_45 K6 (n + 1) x1 x2 x3 x4 x6 x7 x9 μ = (if (μ.1 0 13) ≤ x9 then K6 x1 x2 x3 (x4 + x7) (x6 + 1) μ else (F_X9_isIn x6 x9 μ).bind (fun q7 => F_X9_chanceOf_76 K6 (L_X9_chanceOf_45 K6 n) x1 x2 x3 x4 x6 x9 (if q7.1 = 0 then x1.toInt64 else (16 - x1).toInt64) x7 q7.2)) := rfl
set_option maxRecDepth 100000 in
set_option maxHeartbeats 4000000 in
theorem B_X9_chanceOf_45 (K6 : Int32 → Int32 → Int32 → Int64 → Int32 → Mm → Option (Int64 × Mm)) (hK6 : ∀ (x1 : Int32) (x2 : Int32) (x3 : Int32) (x4 : Int64) (x6 : Int32) (μ : Mm) (q : (Int64 × Mm)), K6 x1 x2 x3 x4 x6 μ = some q → G wM RX9 cX9_chanceOf 10 (some .long) 5 (some (.long q.1)) q.2 6 [(0, .ref 0), (1, .int x1), (2, .int x2), (3, .int x3), (4, .long x4), (6, .int x6)] [] μ) : ∀ (n : Nat) (x1 : Int32) (x2 : Int32) (x3 : Int32) (x4 : Int64) (x6 : Int32) (x7 : Int64) (x9 : Int32) (μ : Mm) (q : (Int64 × Mm)), L_X9_chanceOf_45 K6 n x1 x2 x3 x4 x6 x7 x9 μ = some q → G wM RX9 cX9_chanceOf 10 (some .long) 5 (some (.long q.1)) q.2 45 [(0, .ref 0), (1, .int x1), (2, .int x2), (3, .int x3), (4, .long x4), (6, .int x6), (7, .long x7), (9, .int x9)] [] μ := by
  intro n
  induction n with
  | zero =>
    intro x1 x2 x3 x4 x6 x7 x9 μ q  h
    cases h
  | succ n ih =>
    intro x1 x2 x3 x4 x6 x7 x9 μ q  h
    rw [L_X9_chanceOf_45_s] at h
    refine G_iload (pc := 45) 7 dX9_chanceOf_45 rfl ?_
    refine G_aload_n (pc := 47) 0 dX9_chanceOf_47 rfl ?_
    refine gwM_X9_169_0 (pc := 48) dX9_chanceOf_48 ?_
    refine G_icmp_ge (pc := 51) 85 dX9_chanceOf_51 (by decide) (fun c6 => ?_) (fun c6 => ?_)
    · replace h := itp c6 h
      refine G_lload (pc := 85) 4 dX9_chanceOf_85 rfl ?_
      refine G_lload (pc := 87) 6 dX9_chanceOf_87 rfl ?_
      refine G_ladd (pc := 89) dX9_chanceOf_89 ?_
      refine G_lstore (pc := 90) [(4, .long _), (0, .ref _), (1, .int _), (2, .int _), (3, .int _), (6, .int _), (7, .long _), (9, .int _)] dX9_chanceOf_90 (Nat.le_of_ble_eq_true rfl) rfl ?_
      refine G_iinc (pc := 92) (1) 5 [(6, .int _), (4, .long _), (0, .ref _), (1, .int _), (2, .int _), (3, .int _), (7, .long _), (9, .int _)] dX9_chanceOf_92 ci_1 rfl (Nat.le_of_ble_eq_true rfl) rfl ?_
      refine G_goto (pc := 95) 6 dX9_chanceOf_95 (by decide) ?_
      refine G_loc [2, 3, 4, 5, 1, 0] [(0, .ref _), (1, .int _), (2, .int _), (3, .int _), (4, .long _), (6, .int _)] rfl ?_
      exact hK6 _ _ _ _ _ _ _ h
    · replace h := itn c6 h
      refine G_lload (pc := 54) 6 dX9_chanceOf_54 rfl ?_
      refine G_iload (pc := 56) 5 dX9_chanceOf_56 rfl ?_
      refine G_iload (pc := 58) 7 dX9_chanceOf_58 rfl ?_
      obtain ⟨q7, e7, h⟩ := bnd_some h
      refine G_callS2r (pc := 60) dX9_chanceOf_60 ws_X9_187 cd_X9_isIn (S_X9_isIn _ _ _ _ e7) (by decide) (by decide) (Nat.le_of_ble_eq_true rfl) ?_
      refine G_if_eq (pc := 63) 74 dX9_chanceOf_63 (by decide) (fun c8 => ?_) (fun c8 => ?_)
      · rw [if_pos c8] at h
        refine G_iload_n (pc := 74) 1 dX9_chanceOf_74 rfl ?_
        refine G_i2l (pc := 75) dX9_chanceOf_75 ?_
        refine G_loc [0, 1, 2, 3, 4, 5, 7] [(0, .ref _), (1, .int _), (2, .int _), (3, .int _), (4, .long _), (6, .int _), (9, .int _)] rfl ?_
        exact B_X9_chanceOf_76 _ _ hK6 ih _ _ _ _ _ _ _ _ _ _ h
      · rw [if_neg c8] at h
        refine G_bipush (pc := 66) (16) dX9_chanceOf_66 bp_16 ?_
        refine G_iload_n (pc := 68) 1 dX9_chanceOf_68 rfl ?_
        refine G_isub (pc := 69) dX9_chanceOf_69 ?_
        refine G_i2l (pc := 70) dX9_chanceOf_70 ?_
        refine G_goto (pc := 71) 76 dX9_chanceOf_71 (by decide) ?_
        refine G_loc [0, 1, 2, 3, 4, 5, 7] [(0, .ref _), (1, .int _), (2, .int _), (3, .int _), (4, .long _), (6, .int _), (9, .int _)] rfl ?_
        exact B_X9_chanceOf_76 _ _ hK6 ih _ _ _ _ _ _ _ _ _ _ h
def F_X9_chanceOf_40 (K6 : Int32 → Int32 → Int32 → Int64 → Int32 → Mm → Option (Int64 × Mm)) (x1 : Int32) (x2 : Int32) (x3 : Int32) (x4 : Int64) (x6 : Int32) (y0 : Int64) (μ : Mm) : Option (Int64 × Mm) := L_X9_chanceOf_45 K6 FUEL x1 x2 x3 x4 x6 y0 0 μ
set_option maxRecDepth 100000 in
set_option maxHeartbeats 4000000 in
theorem B_X9_chanceOf_40 (K6 : Int32 → Int32 → Int32 → Int64 → Int32 → Mm → Option (Int64 × Mm)) (hK6 : ∀ (x1 : Int32) (x2 : Int32) (x3 : Int32) (x4 : Int64) (x6 : Int32) (μ : Mm) (q : (Int64 × Mm)), K6 x1 x2 x3 x4 x6 μ = some q → G wM RX9 cX9_chanceOf 10 (some .long) 5 (some (.long q.1)) q.2 6 [(0, .ref 0), (1, .int x1), (2, .int x2), (3, .int x3), (4, .long x4), (6, .int x6)] [] μ) (x1 : Int32) (x2 : Int32) (x3 : Int32) (x4 : Int64) (x6 : Int32) (y0 : Int64) (μ : Mm) (q : (Int64 × Mm))  (h : F_X9_chanceOf_40 K6 x1 x2 x3 x4 x6 y0 μ = some q) : G wM RX9 cX9_chanceOf 10 (some .long) 5 (some (.long q.1)) q.2 40 [(0, .ref 0), (1, .int x1), (2, .int x2), (3, .int x3), (4, .long x4), (6, .int x6)] [.long y0] μ := by
  unfold F_X9_chanceOf_40 at h
  refine G_lstore (pc := 40) [(7, .long _), (0, .ref _), (1, .int _), (2, .int _), (3, .int _), (4, .long _), (6, .int _)] dX9_chanceOf_40 (Nat.le_of_ble_eq_true rfl) rfl ?_
  refine G_iconst (pc := 42) (0) dX9_chanceOf_42 ci_0 ?_
  refine G_istore (pc := 43) [(9, .int _), (7, .long _), (0, .ref _), (1, .int _), (2, .int _), (3, .int _), (4, .long _), (6, .int _)] dX9_chanceOf_43 (Nat.le_of_ble_eq_true rfl) rfl ?_
  refine G_loc [2, 3, 4, 5, 6, 7, 1, 0] [(0, .ref _), (1, .int _), (2, .int _), (3, .int _), (4, .long _), (6, .int _), (7, .long _), (9, .int _)] rfl ?_
  exact B_X9_chanceOf_45 _ hK6 _ _ _ _ _ _ _ _ _ _ h
def L_X9_chanceOf_6 : Nat → Int32 → Int32 → Int32 → Int64 → Int32 → Mm → Option (Int64 × Mm)
  | 0, _, _, _, _, _, _ => none
  | n + 1, x1, x2, x3, x4, x6, μ => if (1 <<< ((μ.1 0 13) &&& 31)) ≤ x6 then (F_X9_part x4 (1 <<< ((4 * ((wI μ 0 15 0).1 0 13)).toInt64 &&& 63)) x3 (wI μ 0 15 0)).bind (fun q2 => some (q2.1, q2.2)) else (F_X9_lives (wI μ 0 15 x6)).bind (fun q3 => (F_X9_bestNow q3).bind (fun q4 => F_X9_chanceOf_40 (L_X9_chanceOf_6 n) x1 x2 x3 x4 x6 (if q4.1 = x2 then 1 else 0) q4.2))
set_option maxRecDepth 100000 in
set_option maxHeartbeats 4000000 in
theorem L_X9_chanceOf_6_s (n : Nat) (x1 : Int32) (x2 : Int32) (x3 : Int32) (x4 : Int64) (x6 : Int32) (μ : Mm) : L_X9_chanceOf_6  (n + 1) x1 x2 x3 x4 x6 μ = (if (1 <<< ((μ.1 0 13) &&& 31)) ≤ x6 then (F_X9_part x4 (1 <<< ((4 * ((wI μ 0 15 0).1 0 13)).toInt64 &&& 63)) x3 (wI μ 0 15 0)).bind (fun q2 => some (q2.1, q2.2)) else (F_X9_lives (wI μ 0 15 x6)).bind (fun q3 => (F_X9_bestNow q3).bind (fun q4 => F_X9_chanceOf_40 (L_X9_chanceOf_6 n) x1 x2 x3 x4 x6 (if q4.1 = x2 then 1 else 0) q4.2))) := rfl
set_option maxRecDepth 100000 in
set_option maxHeartbeats 4000000 in
theorem B_X9_chanceOf_6 : ∀ (n : Nat) (x1 : Int32) (x2 : Int32) (x3 : Int32) (x4 : Int64) (x6 : Int32) (μ : Mm) (q : (Int64 × Mm)), L_X9_chanceOf_6  n x1 x2 x3 x4 x6 μ = some q → G wM RX9 cX9_chanceOf 10 (some .long) 5 (some (.long q.1)) q.2 6 [(0, .ref 0), (1, .int x1), (2, .int x2), (3, .int x3), (4, .long x4), (6, .int x6)] [] μ := by
  intro n
  induction n with
  | zero =>
    intro x1 x2 x3 x4 x6 μ q  h
    cases h
  | succ n ih =>
    intro x1 x2 x3 x4 x6 μ q  h
    rw [L_X9_chanceOf_6_s] at h
    refine G_iload (pc := 6) 5 dX9_chanceOf_6 rfl ?_
    refine G_iconst (pc := 8) (1) dX9_chanceOf_8 ci_1 ?_
    refine G_aload_n (pc := 9) 0 dX9_chanceOf_9 rfl ?_
    refine gwM_X9_169_0 (pc := 10) dX9_chanceOf_10 ?_
    refine G_ishl (pc := 13) dX9_chanceOf_13 ?_
    refine G_icmp_ge (pc := 14) 98 dX9_chanceOf_14 (by decide) (fun c1 => ?_) (fun c1 => ?_)
    · replace h := itp c1 h
      refine G_aload_n (pc := 98) 0 dX9_chanceOf_98 rfl ?_
      refine G_iconst (pc := 99) (0) dX9_chanceOf_99 ci_0 ?_
      refine pwM_X9_197_0 (pc := 100) dX9_chanceOf_100 ?_
      refine G_lload (pc := 103) 4 dX9_chanceOf_103 rfl ?_
      refine G_lconst (pc := 105) (1) dX9_chanceOf_105 lc_1 ?_
      refine G_iconst (pc := 106) (4) dX9_chanceOf_106 ci_4 ?_
      refine G_aload_n (pc := 107) 0 dX9_chanceOf_107 rfl ?_
      refine gwM_X9_169_0 (pc := 108) dX9_chanceOf_108 ?_
      refine G_imul (pc := 111) dX9_chanceOf_111 ?_
      refine G_lshl (pc := 112) dX9_chanceOf_112 ?_
      refine G_iload_n (pc := 113) 3 dX9_chanceOf_113 rfl ?_
      obtain ⟨q2, e2, h⟩ := bnd_some h
      refine G_callS3r (pc := 114) dX9_chanceOf_114 ws_X9_290 cd_X9_part (S_X9_part _ _ _ _ _ e2) (by decide) (by decide) (Nat.le_of_ble_eq_true rfl) ?_
      obtain rfl := Option.some.inj h
      exact G_lret (pc := 117) rfl dX9_chanceOf_117
    · replace h := itn c1 h
      refine G_aload_n (pc := 17) 0 dX9_chanceOf_17 rfl ?_
      refine G_iload (pc := 18) 5 dX9_chanceOf_18 rfl ?_
      refine pwM_X9_197_0 (pc := 20) dX9_chanceOf_20 ?_
      refine G_aload_n (pc := 23) 0 dX9_chanceOf_23 rfl ?_
      obtain ⟨q3, e3, h⟩ := bnd_some h
      refine G_callV0v (pc := 24) 0 8 dX9_chanceOf_24 wv_X9_217 cd_X9_lives (S_X9_lives _ _ e3) (by decide) (by decide) rfl (by decide) (fun _ _ => ⟨_, rfl⟩) (Nat.le_of_ble_eq_true rfl) ?_
      refine G_aload_n (pc := 27) 0 dX9_chanceOf_27 rfl ?_
      obtain ⟨q4, e4, h⟩ := bnd_some h
      refine G_callV0r (pc := 28) 0 8 dX9_chanceOf_28 wv_X9_242 cd_X9_bestNow (S_X9_bestNow _ _ e4) (by decide) (by decide) rfl (by decide) (fun _ _ => ⟨_, rfl⟩) (Nat.le_of_ble_eq_true rfl) ?_
      refine G_iload_n (pc := 31) 2 dX9_chanceOf_31 rfl ?_
      refine G_icmp_ne (pc := 32) 39 dX9_chanceOf_32 (by decide) (fun c5 => ?_) (fun c5 => ?_)
      · rw [if_neg c5] at h
        refine G_lconst (pc := 39) (0) dX9_chanceOf_39 lc_0 ?_
        exact B_X9_chanceOf_40 _ ih _ _ _ _ _ _ _ _ h
      · rw [if_pos c5] at h
        refine G_lconst (pc := 35) (1) dX9_chanceOf_35 lc_1 ?_
        refine G_goto (pc := 36) 40 dX9_chanceOf_36 (by decide) ?_
        exact B_X9_chanceOf_40 _ ih _ _ _ _ _ _ _ _ h
def F_X9_chanceOf (x1 : Int32) (x2 : Int32) (x3 : Int32) (μ : Mm) : Option (Int64 × Mm) := L_X9_chanceOf_6 FUEL x1 x2 x3 0 0 μ
set_option maxRecDepth 100000 in
set_option maxHeartbeats 4000000 in
theorem S_X9_chanceOf (x1 : Int32) (x2 : Int32) (x3 : Int32)  (μ : Mm) (q : (Int64 × Mm)) (h : F_X9_chanceOf x1 x2 x3 μ = some q) : Cn wM yX9_chanceOf cX9_chanceOf 10 (some .long) 5 [.ref 0, .int x1, .int x2, .int x3] μ (some (.long q.1)) q.2 := by
  refine Cn_of (by decide +kernel) (Nat.le_of_ble_eq_true rfl) ?_
  show G wM RX9 cX9_chanceOf 10 (some .long) 5 (some (.long q.1)) q.2 0 [(0, .ref 0), (1, .int x1), (2, .int x2), (3, .int x3)] [] μ
  unfold F_X9_chanceOf at h
  refine G_lconst (pc := 0) (0) dX9_chanceOf_0 lc_0 ?_
  refine G_lstore (pc := 1) [(4, .long _), (0, .ref _), (1, .int _), (2, .int _), (3, .int _)] dX9_chanceOf_1 (Nat.le_of_ble_eq_true rfl) rfl ?_
  refine G_iconst (pc := 3) (0) dX9_chanceOf_3 ci_0 ?_
  refine G_istore (pc := 4) [(6, .int _), (4, .long _), (0, .ref _), (1, .int _), (2, .int _), (3, .int _)] dX9_chanceOf_4 (Nat.le_of_ble_eq_true rfl) rfl ?_
  refine G_loc [2, 3, 4, 5, 1, 0] [(0, .ref _), (1, .int _), (2, .int _), (3, .int _), (4, .long _), (6, .int _)] rfl ?_
  exact B_X9_chanceOf_6 _ _ _ _ _ _ _ _ h
def F_X9_chance_41  (μ : Mm) : Option (Int64 × Mm) := (F_X9_no (-2) μ).bind (fun q4 => some (q4.1, q4.2))
set_option maxRecDepth 100000 in
set_option maxHeartbeats 4000000 in
theorem B_X9_chance_41  (μ : Mm) (q : (Int64 × Mm))  (h : F_X9_chance_41   μ = some q) : G wM RX9 cX9_chance 4 (some .long) 6 (some (.long q.1)) q.2 41 [] [] μ := by
  unfold F_X9_chance_41 at h
  refine G_bipush (pc := 41) (-2) dX9_chance_41 bp_m2 ?_
  obtain ⟨q4, e4, h⟩ := bnd_some h
  refine G_callS1r (pc := 43) dX9_chance_43 ws_X9_300 cd_X9_no (S_X9_no _ _ _ e4) (by decide) (by decide) (Nat.le_of_ble_eq_true rfl) ?_
  obtain rfl := Option.some.inj h
  exact G_lret (pc := 46) rfl dX9_chance_46
def F_X9_chance (x1 : Int32) (x2 : Int32) (x3 : Int32) (μ : Mm) : Option (Int64 × Mm) := (F_X9_find μ).bind (fun q1 => (F_X9_in x1.toInt64 0 16 q1).bind (fun q2 => if q2.1 = 0 then F_X9_chance_41 q2.2 else (F_X9_isThing x2 q2.2).bind (fun q5 => if q5.1 = 0 then F_X9_chance_41 q5.2 else (F_X9_isTwo x3 q5.2).bind (fun q7 => if q7.1 = 0 then F_X9_chance_41 q7.2 else (F_X9_chanceOf x1 x2 x3 q7.2).bind (fun q9 => some (q9.1, q9.2))))))
set_option maxRecDepth 100000 in
set_option maxHeartbeats 4000000 in
theorem S_X9_chance (x1 : Int32) (x2 : Int32) (x3 : Int32)  (μ : Mm) (q : (Int64 × Mm)) (h : F_X9_chance x1 x2 x3 μ = some q) : Cn wM yX9_chance cX9_chance 4 (some .long) 6 [.ref 0, .int x1, .int x2, .int x3] μ (some (.long q.1)) q.2 := by
  refine Cn_of (by decide +kernel) (Nat.le_of_ble_eq_true rfl) ?_
  show G wM RX9 cX9_chance 4 (some .long) 6 (some (.long q.1)) q.2 0 [(0, .ref 0), (1, .int x1), (2, .int x2), (3, .int x3)] [] μ
  unfold F_X9_chance at h
  refine G_aload_n (pc := 0) 0 dX9_chance_0 rfl ?_
  obtain ⟨q1, e1, h⟩ := bnd_some h
  refine G_callV0v (pc := 1) 0 8 dX9_chance_1 wv_X9_220 cd_X9_find (S_X9_find _ _ e1) (by decide) (by decide) rfl (by decide) (fun _ _ => ⟨_, rfl⟩) (Nat.le_of_ble_eq_true rfl) ?_
  refine G_iload_n (pc := 4) 1 dX9_chance_4 rfl ?_
  refine G_i2l (pc := 5) dX9_chance_5 ?_
  refine G_lconst (pc := 6) (0) dX9_chance_6 lc_0 ?_
  refine G_ldc2 (pc := 7) (16) dX9_chance_7 kl_X9_294 ?_
  obtain ⟨q2, e2, h⟩ := bnd_some h
  refine G_callS3r (pc := 10) dX9_chance_10 ws_X9_92 cd_X9_in (S_X9_in _ _ _ _ _ e2) (by decide) (by decide) (Nat.le_of_ble_eq_true rfl) ?_
  refine G_if_eq (pc := 13) 41 dX9_chance_13 (by decide) (fun c3 => ?_) (fun c3 => ?_)
  · replace h := itp c3 h
    refine G_loc [] [] rfl ?_
    exact B_X9_chance_41 _ _ h
  · replace h := itn c3 h
    refine G_aload_n (pc := 16) 0 dX9_chance_16 rfl ?_
    refine G_iload_n (pc := 17) 2 dX9_chance_17 rfl ?_
    obtain ⟨q5, e5, h⟩ := bnd_some h
    refine G_callV1r (pc := 18) 0 8 dX9_chance_18 wv_X9_158 cd_X9_isThing (S_X9_isThing _ _ _ e5) (by decide) (by decide) rfl (by decide) (fun _ _ => ⟨_, rfl⟩) (Nat.le_of_ble_eq_true rfl) ?_
    refine G_if_eq (pc := 21) 41 dX9_chance_21 (by decide) (fun c6 => ?_) (fun c6 => ?_)
    · replace h := itp c6 h
      refine G_loc [] [] rfl ?_
      exact B_X9_chance_41 _ _ h
    · replace h := itn c6 h
      refine G_iload_n (pc := 24) 3 dX9_chance_24 rfl ?_
      obtain ⟨q7, e7, h⟩ := bnd_some h
      refine G_callS1r (pc := 25) dX9_chance_25 ws_X9_228 cd_X9_isTwo (S_X9_isTwo _ _ _ e7) (by decide) (by decide) (Nat.le_of_ble_eq_true rfl) ?_
      refine G_if_eq (pc := 28) 41 dX9_chance_28 (by decide) (fun c8 => ?_) (fun c8 => ?_)
      · replace h := itp c8 h
        refine G_loc [] [] rfl ?_
        exact B_X9_chance_41 _ _ h
      · replace h := itn c8 h
        refine G_aload_n (pc := 31) 0 dX9_chance_31 rfl ?_
        refine G_iload_n (pc := 32) 1 dX9_chance_32 rfl ?_
        refine G_iload_n (pc := 33) 2 dX9_chance_33 rfl ?_
        refine G_iload_n (pc := 34) 3 dX9_chance_34 rfl ?_
        obtain ⟨q9, e9, h⟩ := bnd_some h
        refine G_callV3r (pc := 35) 0 8 dX9_chance_35 wv_X9_296 cd_X9_chanceOf (S_X9_chanceOf _ _ _ _ _ e9) (by decide) (by decide) rfl (by decide) (fun _ _ => ⟨_, rfl⟩) (Nat.le_of_ble_eq_true rfl) ?_
        refine G_goto (pc := 38) 46 dX9_chance_38 (by decide) ?_
        obtain rfl := Option.some.inj h
        exact G_lret (pc := 46) rfl dX9_chance_46
def L_X9_ones_4 : Nat → Int32 → Int32 → Mm → Option (Int32 × Mm)
  | 0, _, _, _ => none
  | n + 1, x1, x2, μ => if x2 = 0 then some (x1, μ) else L_X9_ones_4 n (x1 + 1) (x2 &&& (x2 - 1)) μ
set_option maxRecDepth 100000 in
set_option maxHeartbeats 4000000 in
theorem L_X9_ones_4_s (n : Nat) (x1 : Int32) (x2 : Int32) (μ : Mm) : L_X9_ones_4  (n + 1) x1 x2 μ = (if x2 = 0 then some (x1, μ) else L_X9_ones_4 n (x1 + 1) (x2 &&& (x2 - 1)) μ) := rfl
set_option maxRecDepth 100000 in
set_option maxHeartbeats 4000000 in
theorem B_X9_ones_4 : ∀ (n : Nat) (x1 : Int32) (x2 : Int32) (μ : Mm) (q : (Int32 × Mm)), L_X9_ones_4  n x1 x2 μ = some q → G wM RX9 cX9_ones 3 (some .int) 0 (some (.int q.1)) q.2 4 [(1, .int x1), (2, .int x2)] [] μ := by
  intro n
  induction n with
  | zero =>
    intro x1 x2 μ q  h
    cases h
  | succ n ih =>
    intro x1 x2 μ q  h
    rw [L_X9_ones_4_s] at h
    refine G_iload_n (pc := 4) 1 dX9_ones_4 rfl ?_
    refine G_if_eq (pc := 5) 20 dX9_ones_5 (by decide) (fun c1 => ?_) (fun c1 => ?_)
    · replace h := itp c1 h
      refine G_iload_n (pc := 20) 0 dX9_ones_20 rfl ?_
      obtain rfl := Option.some.inj h
      exact G_iret (pc := 21) rfl dX9_ones_21
    · replace h := itn c1 h
      refine G_iinc (pc := 8) (1) 0 [(1, .int _), (2, .int _)] dX9_ones_8 ci_1 rfl (Nat.le_of_ble_eq_true rfl) rfl ?_
      refine G_iload_n (pc := 11) 1 dX9_ones_11 rfl ?_
      refine G_iload_n (pc := 12) 1 dX9_ones_12 rfl ?_
      refine G_iconst (pc := 13) (1) dX9_ones_13 ci_1 ?_
      refine G_isub (pc := 14) dX9_ones_14 ?_
      refine G_iand (pc := 15) dX9_ones_15 ?_
      refine G_istore_n (pc := 16) [(2, .int _), (1, .int _)] dX9_ones_16 (Nat.le_of_ble_eq_true rfl) rfl ?_
      refine G_goto (pc := 17) 4 dX9_ones_17 (by decide) ?_
      refine G_loc [1, 0] [(1, .int _), (2, .int _)] rfl ?_
      exact ih _ _ _ _ h
def F_X9_ones (x0 : Int32) (μ : Mm) : Option (Int32 × Mm) := L_X9_ones_4 FUEL 0 x0 μ
set_option maxRecDepth 100000 in
set_option maxHeartbeats 4000000 in
theorem S_X9_ones (x0 : Int32)  (μ : Mm) (q : (Int32 × Mm)) (h : F_X9_ones x0 μ = some q) : Cn wM yX9_ones cX9_ones 3 (some .int) 0 [.int x0] μ (some (.int q.1)) q.2 := by
  refine Cn_of (by decide +kernel) (Nat.le_of_ble_eq_true rfl) ?_
  show G wM RX9 cX9_ones 3 (some .int) 0 (some (.int q.1)) q.2 0 [(0, .int x0)] [] μ
  unfold F_X9_ones at h
  refine G_iconst (pc := 0) (0) dX9_ones_0 ci_0 ?_
  refine G_istore_n (pc := 1) [(1, .int _), (0, .int _)] dX9_ones_1 (Nat.le_of_ble_eq_true rfl) rfl ?_
  refine G_iload_n (pc := 2) 1 dX9_ones_2 rfl ?_
  refine G_istore_n (pc := 3) [(2, .int _), (1, .int _), (0, .int _)] dX9_ones_3 (Nat.le_of_ble_eq_true rfl) rfl ?_
  refine G_loc [1, 0] [(1, .int _), (2, .int _)] rfl ?_
  exact B_X9_ones_4 _ _ _ _ _ h
def F_X9_lot (x1 : Int32) (μ : Mm) : Option (Int32 × Mm) := gz (decide (x1 = (0 : Int32))) (some ((((((wI μ 0 36 ((1103515245 * (μ.1 0 36)) + 12345)).1 0 36).toUInt32 >>> ((16 : Int32).toUInt32 &&& Int32.toUInt32 31)).toInt32) - ((((wI μ 0 36 ((1103515245 * (μ.1 0 36)) + 12345)).1 0 36).toUInt32 >>> ((16 : Int32).toUInt32 &&& Int32.toUInt32 31)).toInt32) / x1 * x1), (wI μ 0 36 ((1103515245 * (μ.1 0 36)) + 12345))))
set_option maxRecDepth 100000 in
set_option maxHeartbeats 4000000 in
theorem S_X9_lot (x1 : Int32)  (μ : Mm) (q : (Int32 × Mm)) (h : F_X9_lot x1 μ = some q) : Cn wM yX9_lot cX9_lot 2 (some .int) 0 [.ref 0, .int x1] μ (some (.int q.1)) q.2 := by
  refine Cn_of (by decide +kernel) (Nat.le_of_ble_eq_true rfl) ?_
  show G wM RX9 cX9_lot 2 (some .int) 0 (some (.int q.1)) q.2 0 [(0, .ref 0), (1, .int x1)] [] μ
  unfold F_X9_lot at h
  refine G_aload_n (pc := 0) 0 dX9_lot_0 rfl ?_
  refine G_ldcw (pc := 1) (1103515245) dX9_lot_1 k_X9_304 ?_
  refine G_aload_n (pc := 4) 0 dX9_lot_4 rfl ?_
  refine gwM_X9_305_0 (pc := 5) dX9_lot_5 ?_
  refine G_imul (pc := 8) dX9_lot_8 ?_
  refine G_sipush (pc := 9) (12345) dX9_lot_9 sp_12345 ?_
  refine G_iadd (pc := 12) dX9_lot_12 ?_
  refine pwM_X9_305_0 (pc := 13) dX9_lot_13 ?_
  refine G_aload_n (pc := 16) 0 dX9_lot_16 rfl ?_
  refine gwM_X9_305_0 (pc := 17) dX9_lot_17 ?_
  refine G_bipush (pc := 20) (16) dX9_lot_20 bp_16 ?_
  refine G_iushr (pc := 22) dX9_lot_22 ?_
  refine G_iload_n (pc := 23) 1 dX9_lot_23 rfl ?_
  obtain ⟨g1, h⟩ := gz_some h
  refine G_irem (pc := 24) dX9_lot_24 g1 ?_
  obtain rfl := Option.some.inj h
  exact G_iret (pc := 25) rfl dX9_lot_25
def F_X9_yearsOf_36 (K8 : Int32 → Int32 → Int32 → Mm → Option (Int32 × Mm)) (x2 : Int32) (x3 : Int32) (x4 : Int32) (y0 : Int32) (y1 : Int32) (μ : Mm) : Option (Int32 × Mm) := gi y1 12 (K8 x2 x3 (x4 + 1) (wI μ 9 y1.toNatClampNeg y0))
set_option maxRecDepth 100000 in
set_option maxHeartbeats 4000000 in
theorem B_X9_yearsOf_36 (K8 : Int32 → Int32 → Int32 → Mm → Option (Int32 × Mm)) (hK8 : ∀ (x2 : Int32) (x3 : Int32) (x4 : Int32) (μ : Mm) (q : (Int32 × Mm)), K8 x2 x3 x4 μ = some q → G wM RX9 cX9_yearsOf 5 (some .int) 5 (some (.int q.1)) q.2 8 [(0, .ref 0), (2, .int x2), (3, .int x3), (4, .int x4)] [] μ) (x2 : Int32) (x3 : Int32) (x4 : Int32) (y0 : Int32) (y1 : Int32) (μ : Mm) (q : (Int32 × Mm))  (h : F_X9_yearsOf_36 K8 x2 x3 x4 y0 y1 μ = some q) : G wM RX9 cX9_yearsOf 5 (some .int) 5 (some (.int q.1)) q.2 36 [(0, .ref 0), (2, .int x2), (3, .int x3), (4, .int x4)] [.int y0, .int y1, .ref 9] μ := by
  unfold F_X9_yearsOf_36 at h
  obtain ⟨g9, h⟩ := gi_some h
  refine aswM_9 (pc := 36) dX9_yearsOf_36 g9 ?_
  refine G_iinc (pc := 37) (1) 3 [(4, .int _), (0, .ref _), (2, .int _), (3, .int _)] dX9_yearsOf_37 ci_1 rfl (Nat.le_of_ble_eq_true rfl) rfl ?_
  refine G_goto (pc := 40) 8 dX9_yearsOf_40 (by decide) ?_
  refine G_loc [1, 2, 3, 0] [(0, .ref _), (2, .int _), (3, .int _), (4, .int _)] rfl ?_
  exact hK8 _ _ _ _ _ h
def L_X9_yearsOf_8 : Nat → Int32 → Int32 → Int32 → Mm → Option (Int32 × Mm)
  | 0, _, _, _, _ => none
  | n + 1, x2, x3, x4, μ => if 12 ≤ x4 then (F_X9_lives μ).bind (fun q2 => (F_X9_readsBox q2).bind (fun q3 => if x3 = 0 then (F_X9_bestNow q3.2).bind (fun q7 => some (q7.1, q7.2)) else (F_X9_leftBy 0 q3.2).bind (fun q5 => (F_X9_ones q5.1 q5.2).bind (fun q6 => some (q6.1, q6.2))))) else if x2 ≤ x4 then F_X9_yearsOf_36 (L_X9_yearsOf_8 n) x2 x3 x4 0 x4 μ else (F_X9_lot 4 μ).bind (fun q10 => F_X9_yearsOf_36 (L_X9_yearsOf_8 n) x2 x3 x4 q10.1 x4 q10.2)
set_option maxRecDepth 100000 in
set_option maxHeartbeats 4000000 in
theorem L_X9_yearsOf_8_s (n : Nat) (x2 : Int32) (x3 : Int32) (x4 : Int32) (μ : Mm) : L_X9_yearsOf_8  (n + 1) x2 x3 x4 μ = (if 12 ≤ x4 then (F_X9_lives μ).bind (fun q2 => (F_X9_readsBox q2).bind (fun q3 => if x3 = 0 then (F_X9_bestNow q3.2).bind (fun q7 => some (q7.1, q7.2)) else (F_X9_leftBy 0 q3.2).bind (fun q5 => (F_X9_ones q5.1 q5.2).bind (fun q6 => some (q6.1, q6.2))))) else if x2 ≤ x4 then F_X9_yearsOf_36 (L_X9_yearsOf_8 n) x2 x3 x4 0 x4 μ else (F_X9_lot 4 μ).bind (fun q10 => F_X9_yearsOf_36 (L_X9_yearsOf_8 n) x2 x3 x4 q10.1 x4 q10.2)) := rfl
set_option maxRecDepth 100000 in
set_option maxHeartbeats 4000000 in
theorem B_X9_yearsOf_8 : ∀ (n : Nat) (x2 : Int32) (x3 : Int32) (x4 : Int32) (μ : Mm) (q : (Int32 × Mm)), L_X9_yearsOf_8  n x2 x3 x4 μ = some q → G wM RX9 cX9_yearsOf 5 (some .int) 5 (some (.int q.1)) q.2 8 [(0, .ref 0), (2, .int x2), (3, .int x3), (4, .int x4)] [] μ := by
  intro n
  induction n with
  | zero =>
    intro x2 x3 x4 μ q  h
    cases h
  | succ n ih =>
    intro x2 x3 x4 μ q  h
    rw [L_X9_yearsOf_8_s] at h
    refine G_iload (pc := 8) 3 dX9_yearsOf_8 rfl ?_
    refine G_bipush (pc := 10) (12) dX9_yearsOf_10 bp_12 ?_
    refine G_icmp_ge (pc := 12) 43 dX9_yearsOf_12 (by decide) (fun c1 => ?_) (fun c1 => ?_)
    · replace h := itp c1 h
      refine G_aload_n (pc := 43) 0 dX9_yearsOf_43 rfl ?_
      obtain ⟨q2, e2, h⟩ := bnd_some h
      refine G_callV0v (pc := 44) 0 8 dX9_yearsOf_44 wv_X9_217 cd_X9_lives (S_X9_lives _ _ e2) (by decide) (by decide) rfl (by decide) (fun _ _ => ⟨_, rfl⟩) (Nat.le_of_ble_eq_true rfl) ?_
      refine G_aload_n (pc := 47) 0 dX9_yearsOf_47 rfl ?_
      obtain ⟨q3, e3, h⟩ := bnd_some h
      refine G_callV0r (pc := 48) 0 8 dX9_yearsOf_48 wv_X9_150 cd_X9_readsBox (S_X9_readsBox _ _ e3) (by decide) (by decide) rfl (by decide) (fun _ _ => ⟨_, rfl⟩) (Nat.le_of_ble_eq_true rfl) ?_
      refine G_pop (pc := 51) dX9_yearsOf_51 rfl ?_
      refine G_iload_n (pc := 52) 2 dX9_yearsOf_52 rfl ?_
      refine G_if_ne (pc := 53) 63 dX9_yearsOf_53 (by decide) (fun c4 => ?_) (fun c4 => ?_)
      · replace h := itn c4 h
        refine G_aload_n (pc := 63) 0 dX9_yearsOf_63 rfl ?_
        refine G_iconst (pc := 64) (0) dX9_yearsOf_64 ci_0 ?_
        obtain ⟨q5, e5, h⟩ := bnd_some h
        refine G_callV1r (pc := 65) 0 8 dX9_yearsOf_65 wv_X9_245 cd_X9_leftBy (S_X9_leftBy _ _ _ e5) (by decide) (by decide) rfl (by decide) (fun _ _ => ⟨_, rfl⟩) (Nat.le_of_ble_eq_true rfl) ?_
        obtain ⟨q6, e6, h⟩ := bnd_some h
        refine G_callS1r (pc := 68) dX9_yearsOf_68 ws_X9_311 cd_X9_ones (S_X9_ones _ _ _ e6) (by decide) (by decide) (Nat.le_of_ble_eq_true rfl) ?_
        obtain rfl := Option.some.inj h
        exact G_iret (pc := 71) rfl dX9_yearsOf_71
      · replace h := itp c4 h
        refine G_aload_n (pc := 56) 0 dX9_yearsOf_56 rfl ?_
        obtain ⟨q7, e7, h⟩ := bnd_some h
        refine G_callV0r (pc := 57) 0 8 dX9_yearsOf_57 wv_X9_242 cd_X9_bestNow (S_X9_bestNow _ _ e7) (by decide) (by decide) rfl (by decide) (fun _ _ => ⟨_, rfl⟩) (Nat.le_of_ble_eq_true rfl) ?_
        refine G_goto (pc := 60) 71 dX9_yearsOf_60 (by decide) ?_
        obtain rfl := Option.some.inj h
        exact G_iret (pc := 71) rfl dX9_yearsOf_71
    · replace h := itn c1 h
      refine G_aload_n (pc := 15) 0 dX9_yearsOf_15 rfl ?_
      refine gwM_X9_34_0 (pc := 16) dX9_yearsOf_16 ?_
      refine G_iload (pc := 19) 3 dX9_yearsOf_19 rfl ?_
      refine G_iload (pc := 21) 3 dX9_yearsOf_21 rfl ?_
      refine G_iload_n (pc := 23) 1 dX9_yearsOf_23 rfl ?_
      refine G_icmp_ge (pc := 24) 35 dX9_yearsOf_24 (by decide) (fun c8 => ?_) (fun c8 => ?_)
      · replace h := itp c8 h
        refine G_iconst (pc := 35) (0) dX9_yearsOf_35 ci_0 ?_
        exact B_X9_yearsOf_36 _ ih _ _ _ _ _ _ _ h
      · replace h := itn c8 h
        refine G_aload_n (pc := 27) 0 dX9_yearsOf_27 rfl ?_
        refine G_iconst (pc := 28) (4) dX9_yearsOf_28 ci_4 ?_
        obtain ⟨q10, e10, h⟩ := bnd_some h
        refine G_callV1r (pc := 29) 0 8 dX9_yearsOf_29 wv_X9_308 cd_X9_lot (S_X9_lot _ _ _ e10) (by decide) (by decide) rfl (by decide) (fun _ _ => ⟨_, rfl⟩) (Nat.le_of_ble_eq_true rfl) ?_
        refine G_goto (pc := 32) 36 dX9_yearsOf_32 (by decide) ?_
        exact B_X9_yearsOf_36 _ ih _ _ _ _ _ _ _ h
def F_X9_yearsOf (x1 : Int32) (x2 : Int32) (x3 : Int32) (μ : Mm) : Option (Int32 × Mm) := L_X9_yearsOf_8 FUEL x2 x3 0 (wI μ 0 36 x1)
set_option maxRecDepth 100000 in
set_option maxHeartbeats 4000000 in
theorem S_X9_yearsOf (x1 : Int32) (x2 : Int32) (x3 : Int32)  (μ : Mm) (q : (Int32 × Mm)) (h : F_X9_yearsOf x1 x2 x3 μ = some q) : Cn wM yX9_yearsOf cX9_yearsOf 5 (some .int) 5 [.ref 0, .int x1, .int x2, .int x3] μ (some (.int q.1)) q.2 := by
  refine Cn_of (by decide +kernel) (Nat.le_of_ble_eq_true rfl) ?_
  show G wM RX9 cX9_yearsOf 5 (some .int) 5 (some (.int q.1)) q.2 0 [(0, .ref 0), (1, .int x1), (2, .int x2), (3, .int x3)] [] μ
  unfold F_X9_yearsOf at h
  refine G_aload_n (pc := 0) 0 dX9_yearsOf_0 rfl ?_
  refine G_iload_n (pc := 1) 1 dX9_yearsOf_1 rfl ?_
  refine pwM_X9_305_0 (pc := 2) dX9_yearsOf_2 ?_
  refine G_iconst (pc := 5) (0) dX9_yearsOf_5 ci_0 ?_
  refine G_istore (pc := 6) [(4, .int _), (0, .ref _), (1, .int _), (2, .int _), (3, .int _)] dX9_yearsOf_6 (Nat.le_of_ble_eq_true rfl) rfl ?_
  refine G_loc [1, 3, 4, 0] [(0, .ref _), (2, .int _), (3, .int _), (4, .int _)] rfl ?_
  exact B_X9_yearsOf_8 _ _ _ _ _ _ h
def F_X9_years (x1 : Int32) (x2 : Int32) (x3 : Int32) (μ : Mm) : Option (Int32 × Mm) := (F_X9_find μ).bind (fun q1 => (F_X9_in x2.toInt64 0 12 q1).bind (fun q2 => if q2.1 = 0 then some ((-2), q2.2) else (F_X9_isTwo x3 q2.2).bind (fun q4 => if q4.1 = 0 then some ((-2), q4.2) else (F_X9_yearsOf x1 x2 x3 q4.2).bind (fun q6 => some (q6.1, q6.2)))))
set_option maxRecDepth 100000 in
set_option maxHeartbeats 4000000 in
theorem S_X9_years (x1 : Int32) (x2 : Int32) (x3 : Int32)  (μ : Mm) (q : (Int32 × Mm)) (h : F_X9_years x1 x2 x3 μ = some q) : Cn wM yX9_years cX9_years 4 (some .int) 6 [.ref 0, .int x1, .int x2, .int x3] μ (some (.int q.1)) q.2 := by
  refine Cn_of (by decide +kernel) (Nat.le_of_ble_eq_true rfl) ?_
  show G wM RX9 cX9_years 4 (some .int) 6 (some (.int q.1)) q.2 0 [(0, .ref 0), (1, .int x1), (2, .int x2), (3, .int x3)] [] μ
  unfold F_X9_years at h
  refine G_aload_n (pc := 0) 0 dX9_years_0 rfl ?_
  obtain ⟨q1, e1, h⟩ := bnd_some h
  refine G_callV0v (pc := 1) 0 8 dX9_years_1 wv_X9_220 cd_X9_find (S_X9_find _ _ e1) (by decide) (by decide) rfl (by decide) (fun _ _ => ⟨_, rfl⟩) (Nat.le_of_ble_eq_true rfl) ?_
  refine G_iload_n (pc := 4) 2 dX9_years_4 rfl ?_
  refine G_i2l (pc := 5) dX9_years_5 ?_
  refine G_lconst (pc := 6) (0) dX9_years_6 lc_0 ?_
  refine G_ldc2 (pc := 7) (12) dX9_years_7 kl_X9_314 ?_
  obtain ⟨q2, e2, h⟩ := bnd_some h
  refine G_callS3r (pc := 10) dX9_years_10 ws_X9_92 cd_X9_in (S_X9_in _ _ _ _ _ e2) (by decide) (by decide) (Nat.le_of_ble_eq_true rfl) ?_
  refine G_if_eq (pc := 13) 33 dX9_years_13 (by decide) (fun c3 => ?_) (fun c3 => ?_)
  · replace h := itp c3 h
    refine G_bipush (pc := 33) (-2) dX9_years_33 bp_m2 ?_
    obtain rfl := Option.some.inj h
    exact G_iret (pc := 35) rfl dX9_years_35
  · replace h := itn c3 h
    refine G_iload_n (pc := 16) 3 dX9_years_16 rfl ?_
    obtain ⟨q4, e4, h⟩ := bnd_some h
    refine G_callS1r (pc := 17) dX9_years_17 ws_X9_228 cd_X9_isTwo (S_X9_isTwo _ _ _ e4) (by decide) (by decide) (Nat.le_of_ble_eq_true rfl) ?_
    refine G_if_eq (pc := 20) 33 dX9_years_20 (by decide) (fun c5 => ?_) (fun c5 => ?_)
    · replace h := itp c5 h
      refine G_bipush (pc := 33) (-2) dX9_years_33 bp_m2 ?_
      obtain rfl := Option.some.inj h
      exact G_iret (pc := 35) rfl dX9_years_35
    · replace h := itn c5 h
      refine G_aload_n (pc := 23) 0 dX9_years_23 rfl ?_
      refine G_iload_n (pc := 24) 1 dX9_years_24 rfl ?_
      refine G_iload_n (pc := 25) 2 dX9_years_25 rfl ?_
      refine G_iload_n (pc := 26) 3 dX9_years_26 rfl ?_
      obtain ⟨q6, e6, h⟩ := bnd_some h
      refine G_callV3r (pc := 27) 0 8 dX9_years_27 wv_X9_316 cd_X9_yearsOf (S_X9_yearsOf _ _ _ _ _ e6) (by decide) (by decide) rfl (by decide) (fun _ _ => ⟨_, rfl⟩) (Nat.le_of_ble_eq_true rfl) ?_
      refine G_goto (pc := 30) 35 dX9_years_30 (by decide) ?_
      obtain rfl := Option.some.inj h
      exact G_iret (pc := 35) rfl dX9_years_35
def L_X9_write_52 : Nat → Int32 → Int32 → Int32 → Int32 → Mm → Option (Int32 × Mm)
  | 0, _, _, _, _, _ => none
  | n + 1, x1, x2, x3, x4, μ => if x3 ≤ x4 then some (x3, μ) else gi x2 4 (gi ((10 * x4) + x1) 120 ((F_X9_cut (μ.1 1 x2.toNatClampNeg) (μ.1 18 ((10 * x4) + x1).toNatClampNeg) μ).bind (fun q13 => gi ((60 * x2) + x4) 240 (L_X9_write_52 n x1 x2 x3 (x4 + 1) (wI q13.2 3 ((60 * x2) + x4).toNatClampNeg q13.1)))))
set_option maxRecDepth 100000 in
set_option maxHeartbeats 4000000 in
theorem L_X9_write_52_s (n : Nat) (x1 : Int32) (x2 : Int32) (x3 : Int32) (x4 : Int32) (μ : Mm) : L_X9_write_52  (n + 1) x1 x2 x3 x4 μ = (if x3 ≤ x4 then some (x3, μ) else gi x2 4 (gi ((10 * x4) + x1) 120 ((F_X9_cut (μ.1 1 x2.toNatClampNeg) (μ.1 18 ((10 * x4) + x1).toNatClampNeg) μ).bind (fun q13 => gi ((60 * x2) + x4) 240 (L_X9_write_52 n x1 x2 x3 (x4 + 1) (wI q13.2 3 ((60 * x2) + x4).toNatClampNeg q13.1)))))) := rfl
set_option maxRecDepth 100000 in
set_option maxHeartbeats 4000000 in
theorem B_X9_write_52 : ∀ (n : Nat) (x1 : Int32) (x2 : Int32) (x3 : Int32) (x4 : Int32) (μ : Mm) (q : (Int32 × Mm)), L_X9_write_52  n x1 x2 x3 x4 μ = some q → G wM RX9 cX9_write 5 (some .int) 6 (some (.int q.1)) q.2 52 [(0, .ref 0), (1, .int x1), (2, .int x2), (3, .int x3), (4, .int x4)] [] μ := by
  intro n
  induction n with
  | zero =>
    intro x1 x2 x3 x4 μ q  h
    cases h
  | succ n ih =>
    intro x1 x2 x3 x4 μ q  h
    rw [L_X9_write_52_s] at h
    refine G_iload (pc := 52) 4 dX9_write_52 rfl ?_
    refine G_iload_n (pc := 54) 3 dX9_write_54 rfl ?_
    refine G_icmp_ge (pc := 55) 97 dX9_write_55 (by decide) (fun c10 => ?_) (fun c10 => ?_)
    · replace h := itp c10 h
      refine G_iload_n (pc := 97) 3 dX9_write_97 rfl ?_
      obtain rfl := Option.some.inj h
      exact G_iret (pc := 98) rfl dX9_write_98
    · replace h := itn c10 h
      refine G_aload_n (pc := 58) 0 dX9_write_58 rfl ?_
      refine gwM_X9_16_0 (pc := 59) dX9_write_59 ?_
      refine G_bipush (pc := 62) (60) dX9_write_62 bp_60 ?_
      refine G_iload_n (pc := 64) 2 dX9_write_64 rfl ?_
      refine G_imul (pc := 65) dX9_write_65 ?_
      refine G_iload (pc := 66) 4 dX9_write_66 rfl ?_
      refine G_iadd (pc := 68) dX9_write_68 ?_
      refine G_aload_n (pc := 69) 0 dX9_write_69 rfl ?_
      refine gwM_X9_7_0 (pc := 70) dX9_write_70 ?_
      refine G_iload_n (pc := 73) 2 dX9_write_73 rfl ?_
      obtain ⟨g11, h⟩ := gi_some h
      refine alwM_1 (pc := 74) dX9_write_74 g11 ?_
      refine G_aload_n (pc := 75) 0 dX9_write_75 rfl ?_
      refine gwM_X9_62_0 (pc := 76) dX9_write_76 ?_
      refine G_bipush (pc := 79) (10) dX9_write_79 bp_10 ?_
      refine G_iload (pc := 81) 4 dX9_write_81 rfl ?_
      refine G_imul (pc := 83) dX9_write_83 ?_
      refine G_iload_n (pc := 84) 1 dX9_write_84 rfl ?_
      refine G_iadd (pc := 85) dX9_write_85 ?_
      obtain ⟨g12, h⟩ := gi_some h
      refine alwM_18 (pc := 86) dX9_write_86 g12 ?_
      obtain ⟨q13, e13, h⟩ := bnd_some h
      refine G_callS2r (pc := 87) dX9_write_87 ws_X9_115 cd_X9_cut (S_X9_cut _ _ _ _ e13) (by decide) (by decide) (Nat.le_of_ble_eq_true rfl) ?_
      obtain ⟨g14, h⟩ := gi_some h
      refine aswM_3 (pc := 90) dX9_write_90 g14 ?_
      refine G_iinc (pc := 91) (1) 4 [(4, .int _), (0, .ref _), (1, .int _), (2, .int _), (3, .int _)] dX9_write_91 ci_1 rfl (Nat.le_of_ble_eq_true rfl) rfl ?_
      refine G_goto (pc := 94) 52 dX9_write_94 (by decide) ?_
      refine G_loc [1, 2, 3, 4, 0] [(0, .ref _), (1, .int _), (2, .int _), (3, .int _), (4, .int _)] rfl ?_
      exact ih _ _ _ _ _ _ h
def F_X9_write (x1 : Int32) (x2 : Int32) (μ : Mm) : Option (Int32 × Mm) := (F_X9_find μ).bind (fun q1 => (F_X9_isThing x1 q1).bind (fun q2 => if q2.1 = 0 then some ((-2), q2.2) else (F_X9_isSheet x2 q2.2).bind (fun q4 => if q4.1 = 0 then some ((-2), q4.2) else gi x2 4 (if 0 ≤ (q4.2.1 1 x2.toNatClampNeg) then gi x2 4 ((F_X9_lesser (q4.2.1 2 x2.toNatClampNeg) 12 q4.2).bind (fun q9 => L_X9_write_52 FUEL x1 x2 q9.1 0 q9.2)) else (F_X9_finds 1 q4.2).bind (fun q15 => some (q15.1, q15.2))))))
set_option maxRecDepth 100000 in
set_option maxHeartbeats 4000000 in
theorem S_X9_write (x1 : Int32) (x2 : Int32)  (μ : Mm) (q : (Int32 × Mm)) (h : F_X9_write x1 x2 μ = some q) : Cn wM yX9_write cX9_write 5 (some .int) 6 [.ref 0, .int x1, .int x2] μ (some (.int q.1)) q.2 := by
  refine Cn_of (by decide +kernel) (Nat.le_of_ble_eq_true rfl) ?_
  show G wM RX9 cX9_write 5 (some .int) 6 (some (.int q.1)) q.2 0 [(0, .ref 0), (1, .int x1), (2, .int x2)] [] μ
  unfold F_X9_write at h
  refine G_aload_n (pc := 0) 0 dX9_write_0 rfl ?_
  obtain ⟨q1, e1, h⟩ := bnd_some h
  refine G_callV0v (pc := 1) 0 8 dX9_write_1 wv_X9_220 cd_X9_find (S_X9_find _ _ e1) (by decide) (by decide) rfl (by decide) (fun _ _ => ⟨_, rfl⟩) (Nat.le_of_ble_eq_true rfl) ?_
  refine G_aload_n (pc := 4) 0 dX9_write_4 rfl ?_
  refine G_iload_n (pc := 5) 1 dX9_write_5 rfl ?_
  obtain ⟨q2, e2, h⟩ := bnd_some h
  refine G_callV1r (pc := 6) 0 8 dX9_write_6 wv_X9_158 cd_X9_isThing (S_X9_isThing _ _ _ e2) (by decide) (by decide) rfl (by decide) (fun _ _ => ⟨_, rfl⟩) (Nat.le_of_ble_eq_true rfl) ?_
  refine G_if_eq (pc := 9) 19 dX9_write_9 (by decide) (fun c3 => ?_) (fun c3 => ?_)
  · replace h := itp c3 h
    refine G_bipush (pc := 19) (-2) dX9_write_19 bp_m2 ?_
    obtain rfl := Option.some.inj h
    exact G_iret (pc := 21) rfl dX9_write_21
  · replace h := itn c3 h
    refine G_iload_n (pc := 12) 2 dX9_write_12 rfl ?_
    obtain ⟨q4, e4, h⟩ := bnd_some h
    refine G_callS1r (pc := 13) dX9_write_13 ws_X9_101 cd_X9_isSheet (S_X9_isSheet _ _ _ e4) (by decide) (by decide) (Nat.le_of_ble_eq_true rfl) ?_
    refine G_if_ne (pc := 16) 22 dX9_write_16 (by decide) (fun c5 => ?_) (fun c5 => ?_)
    · replace h := itn c5 h
      refine G_aload_n (pc := 22) 0 dX9_write_22 rfl ?_
      refine gwM_X9_7_0 (pc := 23) dX9_write_23 ?_
      refine G_iload_n (pc := 26) 2 dX9_write_26 rfl ?_
      obtain ⟨g6, h⟩ := gi_some h
      refine alwM_1 (pc := 27) dX9_write_27 g6 ?_
      refine G_if_ge (pc := 28) 37 dX9_write_28 (by decide) (fun c7 => ?_) (fun c7 => ?_)
      · replace h := itp c7 h
        refine G_aload_n (pc := 37) 0 dX9_write_37 rfl ?_
        refine gwM_X9_13_0 (pc := 38) dX9_write_38 ?_
        refine G_iload_n (pc := 41) 2 dX9_write_41 rfl ?_
        obtain ⟨g8, h⟩ := gi_some h
        refine alwM_2 (pc := 42) dX9_write_42 g8 ?_
        refine G_bipush (pc := 43) (12) dX9_write_43 bp_12 ?_
        obtain ⟨q9, e9, h⟩ := bnd_some h
        refine G_callS2r (pc := 45) dX9_write_45 ws_X9_174 cd_X9_lesser (S_X9_lesser _ _ _ _ e9) (by decide) (by decide) (Nat.le_of_ble_eq_true rfl) ?_
        refine G_istore_n (pc := 48) [(3, .int _), (0, .ref _), (1, .int _), (2, .int _)] dX9_write_48 (Nat.le_of_ble_eq_true rfl) rfl ?_
        refine G_iconst (pc := 49) (0) dX9_write_49 ci_0 ?_
        refine G_istore (pc := 50) [(4, .int _), (3, .int _), (0, .ref _), (1, .int _), (2, .int _)] dX9_write_50 (Nat.le_of_ble_eq_true rfl) rfl ?_
        refine G_loc [2, 3, 4, 1, 0] [(0, .ref _), (1, .int _), (2, .int _), (3, .int _), (4, .int _)] rfl ?_
        exact B_X9_write_52 _ _ _ _ _ _ _ h
      · replace h := itn c7 h
        refine G_aload_n (pc := 31) 0 dX9_write_31 rfl ?_
        refine G_iconst (pc := 32) (1) dX9_write_32 ci_1 ?_
        obtain ⟨q15, e15, h⟩ := bnd_some h
        refine G_callV1r (pc := 33) 0 8 dX9_write_33 wv_X9_107 cd_X9_finds (S_X9_finds _ _ _ e15) (by decide) (by decide) rfl (by decide) (fun _ _ => ⟨_, rfl⟩) (Nat.le_of_ble_eq_true rfl) ?_
        obtain rfl := Option.some.inj h
        exact G_iret (pc := 36) rfl dX9_write_36
    · replace h := itp c5 h
      refine G_bipush (pc := 19) (-2) dX9_write_19 bp_m2 ?_
      obtain rfl := Option.some.inj h
      exact G_iret (pc := 21) rfl dX9_write_21
def F_X9_count (x1 : Int32) (μ : Mm) : Option (Int32 × Mm) := (F_X9_find μ).bind (fun q1 => if x1 = 0 then some ((q1.1 0 7), q1) else if x1 = 1 then some ((q1.1 0 9), q1) else if x1 = 2 then some ((q1.1 0 11), q1) else if x1 = 3 then gi (x1 - 3) 3 (some ((q1.1 6 (x1 - 3).toNatClampNeg), q1)) else if x1 = 4 then gi (x1 - 3) 3 (some ((q1.1 6 (x1 - 3).toNatClampNeg), q1)) else if x1 = 5 then gi (x1 - 3) 3 (some ((q1.1 6 (x1 - 3).toNatClampNeg), q1)) else some ((if x1 = 6 then (q1.1 0 13) else (if x1 = 7 then (q1.1 0 33) else (if x1 = 8 then (q1.1 0 4) else (-2)))), q1))
set_option maxRecDepth 100000 in
set_option maxHeartbeats 4000000 in
theorem S_X9_count (x1 : Int32)  (μ : Mm) (q : (Int32 × Mm)) (h : F_X9_count x1 μ = some q) : Cn wM yX9_count cX9_count 2 (some .int) 6 [.ref 0, .int x1] μ (some (.int q.1)) q.2 := by
  refine Cn_of (by decide +kernel) (Nat.le_of_ble_eq_true rfl) ?_
  show G wM RX9 cX9_count 2 (some .int) 6 (some (.int q.1)) q.2 0 [(0, .ref 0), (1, .int x1)] [] μ
  unfold F_X9_count at h
  refine G_aload_n (pc := 0) 0 dX9_count_0 rfl ?_
  obtain ⟨q1, e1, h⟩ := bnd_some h
  refine G_callV0v (pc := 1) 0 8 dX9_count_1 wv_X9_220 cd_X9_find (S_X9_find _ _ e1) (by decide) (by decide) rfl (by decide) (fun _ _ => ⟨_, rfl⟩) (Nat.le_of_ble_eq_true rfl) ?_
  refine G_iload_n (pc := 4) 1 dX9_count_4 rfl ?_
  by_cases c2 : x1 = 0
  · replace h := itp c2 h
    refine G_tswV (pc := 5) 56 (0) c2 dX9_count_5 (by decide) (by decide) rfl (by decide) ?_
    refine G_aload_n (pc := 56) 0 dX9_count_56 rfl ?_
    refine gwM_X9_128_0 (pc := 57) dX9_count_57 ?_
    obtain rfl := Option.some.inj h
    exact G_iret (pc := 60) rfl dX9_count_60
  · replace h := itn c2 h
    by_cases c3 : x1 = 1
    · replace h := itp c3 h
      refine G_tswV (pc := 5) 61 (1) c3 dX9_count_5 (by decide) (by decide) rfl (by decide) ?_
      refine G_aload_n (pc := 61) 0 dX9_count_61 rfl ?_
      refine gwM_X9_134_0 (pc := 62) dX9_count_62 ?_
      obtain rfl := Option.some.inj h
      exact G_iret (pc := 65) rfl dX9_count_65
    · replace h := itn c3 h
      by_cases c4 : x1 = 2
      · replace h := itp c4 h
        refine G_tswV (pc := 5) 66 (2) c4 dX9_count_5 (by decide) (by decide) rfl (by decide) ?_
        refine G_aload_n (pc := 66) 0 dX9_count_66 rfl ?_
        refine gwM_X9_137_0 (pc := 67) dX9_count_67 ?_
        obtain rfl := Option.some.inj h
        exact G_iret (pc := 70) rfl dX9_count_70
      · replace h := itn c4 h
        by_cases c5 : x1 = 3
        · replace h := itp c5 h
          refine G_tswV (pc := 5) 71 (3) c5 dX9_count_5 (by decide) (by decide) rfl (by decide) ?_
          refine G_aload_n (pc := 71) 0 dX9_count_71 rfl ?_
          refine gwM_X9_25_0 (pc := 72) dX9_count_72 ?_
          refine G_iload_n (pc := 75) 1 dX9_count_75 rfl ?_
          refine G_iconst (pc := 76) (3) dX9_count_76 ci_3 ?_
          refine G_isub (pc := 77) dX9_count_77 ?_
          obtain ⟨g13, h⟩ := gi_some h
          refine alwM_6 (pc := 78) dX9_count_78 g13 ?_
          obtain rfl := Option.some.inj h
          exact G_iret (pc := 79) rfl dX9_count_79
        · replace h := itn c5 h
          by_cases c6 : x1 = 4
          · replace h := itp c6 h
            refine G_tswV (pc := 5) 71 (4) c6 dX9_count_5 (by decide) (by decide) rfl (by decide) ?_
            refine G_aload_n (pc := 71) 0 dX9_count_71 rfl ?_
            refine gwM_X9_25_0 (pc := 72) dX9_count_72 ?_
            refine G_iload_n (pc := 75) 1 dX9_count_75 rfl ?_
            refine G_iconst (pc := 76) (3) dX9_count_76 ci_3 ?_
            refine G_isub (pc := 77) dX9_count_77 ?_
            obtain ⟨g12, h⟩ := gi_some h
            refine alwM_6 (pc := 78) dX9_count_78 g12 ?_
            obtain rfl := Option.some.inj h
            exact G_iret (pc := 79) rfl dX9_count_79
          · replace h := itn c6 h
            by_cases c7 : x1 = 5
            · replace h := itp c7 h
              refine G_tswV (pc := 5) 71 (5) c7 dX9_count_5 (by decide) (by decide) rfl (by decide) ?_
              refine G_aload_n (pc := 71) 0 dX9_count_71 rfl ?_
              refine gwM_X9_25_0 (pc := 72) dX9_count_72 ?_
              refine G_iload_n (pc := 75) 1 dX9_count_75 rfl ?_
              refine G_iconst (pc := 76) (3) dX9_count_76 ci_3 ?_
              refine G_isub (pc := 77) dX9_count_77 ?_
              obtain ⟨g11, h⟩ := gi_some h
              refine alwM_6 (pc := 78) dX9_count_78 g11 ?_
              obtain rfl := Option.some.inj h
              exact G_iret (pc := 79) rfl dX9_count_79
            · replace h := itn c7 h
              by_cases c8 : x1 = 6
              · rw [if_pos c8] at h
                refine G_tswV (pc := 5) 80 (6) c8 dX9_count_5 (by decide) (by decide) rfl (by decide) ?_
                refine G_aload_n (pc := 80) 0 dX9_count_80 rfl ?_
                refine gwM_X9_169_0 (pc := 81) dX9_count_81 ?_
                obtain rfl := Option.some.inj h
                exact G_iret (pc := 84) rfl dX9_count_84
              · rw [if_neg c8] at h
                by_cases c9 : x1 = 7
                · rw [if_pos c9] at h
                  refine G_tswV (pc := 5) 85 (7) c9 dX9_count_5 (by decide) (by decide) rfl (by decide) ?_
                  refine G_aload_n (pc := 85) 0 dX9_count_85 rfl ?_
                  refine gwM_X9_265_0 (pc := 86) dX9_count_86 ?_
                  obtain rfl := Option.some.inj h
                  exact G_iret (pc := 89) rfl dX9_count_89
                · rw [if_neg c9] at h
                  by_cases c10 : x1 = 8
                  · rw [if_pos c10] at h
                    refine G_tswV (pc := 5) 90 (8) c10 dX9_count_5 (by decide) (by decide) rfl (by decide) ?_
                    refine G_aload_n (pc := 90) 0 dX9_count_90 rfl ?_
                    refine gwM_X9_96_0 (pc := 91) dX9_count_91 ?_
                    obtain rfl := Option.some.inj h
                    exact G_iret (pc := 94) rfl dX9_count_94
                  · rw [if_neg c10] at h
                    refine G_tswOut (pc := 5) 95 dX9_count_5 (tswO 9 (by decide) (lt_s (lt_s (lt_s (lt_s (lt_s (lt_s (lt_s (lt_s (lt_s lt_0 c2) c3) c4) c5) c6) c7) c8) c9) c10)) (by decide) ?_
                    refine G_bipush (pc := 95) (-2) dX9_count_95 bp_m2 ?_
                    obtain rfl := Option.some.inj h
                    exact G_iret (pc := 97) rfl dX9_count_97
def F_X9_tellsOwner (x1 : Int64) (x3 : Int32) (μ : Mm) : Option (Int64 × Mm) := (F_X9_lives μ).bind (fun q1 => (F_X9_ownedBy x3 q1).bind (fun q2 => (F_X9_sendOf 6 x3 0 q2.2).bind (fun q3 => (F_X9_sendOf 6 x3 1 q3.2).bind (fun q4 => some (((31 * ((31 * ((31 * x1) + q2.1.toInt64)) + q3.1.toInt64)) + q4.1.toInt64), q4.2)))))
set_option maxRecDepth 100000 in
set_option maxHeartbeats 4000000 in
theorem S_X9_tellsOwner (x1 : Int64) (x3 : Int32)  (μ : Mm) (q : (Int64 × Mm)) (h : F_X9_tellsOwner x1 x3 μ = some q) : Cn wM yX9_tellsOwner cX9_tellsOwner 6 (some .long) 6 [.ref 0, .long x1, .int x3] μ (some (.long q.1)) q.2 := by
  refine Cn_of (by decide +kernel) (Nat.le_of_ble_eq_true rfl) ?_
  show G wM RX9 cX9_tellsOwner 6 (some .long) 6 (some (.long q.1)) q.2 0 [(0, .ref 0), (1, .long x1), (3, .int x3)] [] μ
  unfold F_X9_tellsOwner at h
  refine G_aload_n (pc := 0) 0 dX9_tellsOwner_0 rfl ?_
  obtain ⟨q1, e1, h⟩ := bnd_some h
  refine G_callV0v (pc := 1) 0 8 dX9_tellsOwner_1 wv_X9_217 cd_X9_lives (S_X9_lives _ _ e1) (by decide) (by decide) rfl (by decide) (fun _ _ => ⟨_, rfl⟩) (Nat.le_of_ble_eq_true rfl) ?_
  refine G_ldc2 (pc := 4) (31) dX9_tellsOwner_4 kl_X9_319 ?_
  refine G_lload_n (pc := 7) 1 dX9_tellsOwner_7 rfl ?_
  refine G_lmul (pc := 8) dX9_tellsOwner_8 ?_
  refine G_aload_n (pc := 9) 0 dX9_tellsOwner_9 rfl ?_
  refine G_iload_n (pc := 10) 2 dX9_tellsOwner_10 rfl ?_
  obtain ⟨q2, e2, h⟩ := bnd_some h
  refine G_callV1r (pc := 11) 0 8 dX9_tellsOwner_11 wv_X9_236 cd_X9_ownedBy (S_X9_ownedBy _ _ _ e2) (by decide) (by decide) rfl (by decide) (fun _ _ => ⟨_, rfl⟩) (Nat.le_of_ble_eq_true rfl) ?_
  refine G_i2l (pc := 14) dX9_tellsOwner_14 ?_
  refine G_ladd (pc := 15) dX9_tellsOwner_15 ?_
  refine G_lstore (pc := 16) [(4, .long _), (0, .ref _), (1, .long _), (3, .int _)] dX9_tellsOwner_16 (Nat.le_of_ble_eq_true rfl) rfl ?_
  refine G_ldc2 (pc := 18) (31) dX9_tellsOwner_18 kl_X9_319 ?_
  refine G_lload (pc := 21) 0 dX9_tellsOwner_21 rfl ?_
  refine G_lmul (pc := 23) dX9_tellsOwner_23 ?_
  refine G_aload_n (pc := 24) 1 dX9_tellsOwner_24 rfl ?_
  refine G_bipush (pc := 25) (6) dX9_tellsOwner_25 bp_6 ?_
  refine G_iload_n (pc := 27) 3 dX9_tellsOwner_27 rfl ?_
  refine G_iconst (pc := 28) (0) dX9_tellsOwner_28 ci_0 ?_
  obtain ⟨q3, e3, h⟩ := bnd_some h
  refine G_callV3r (pc := 29) 0 8 dX9_tellsOwner_29 wv_X9_254 cd_X9_sendOf (S_X9_sendOf _ _ _ _ _ e3) (by decide) (by decide) rfl (by decide) (fun _ _ => ⟨_, rfl⟩) (Nat.le_of_ble_eq_true rfl) ?_
  refine G_i2l (pc := 32) dX9_tellsOwner_32 ?_
  refine G_ladd (pc := 33) dX9_tellsOwner_33 ?_
  refine G_lstore (pc := 34) [(4, .long _), (0, .ref _), (1, .long _), (3, .int _)] dX9_tellsOwner_34 (Nat.le_of_ble_eq_true rfl) rfl ?_
  refine G_ldc2 (pc := 36) (31) dX9_tellsOwner_36 kl_X9_319 ?_
  refine G_lload (pc := 39) 0 dX9_tellsOwner_39 rfl ?_
  refine G_lmul (pc := 41) dX9_tellsOwner_41 ?_
  refine G_aload_n (pc := 42) 1 dX9_tellsOwner_42 rfl ?_
  refine G_bipush (pc := 43) (6) dX9_tellsOwner_43 bp_6 ?_
  refine G_iload_n (pc := 45) 3 dX9_tellsOwner_45 rfl ?_
  refine G_iconst (pc := 46) (1) dX9_tellsOwner_46 ci_1 ?_
  obtain ⟨q4, e4, h⟩ := bnd_some h
  refine G_callV3r (pc := 47) 0 8 dX9_tellsOwner_47 wv_X9_254 cd_X9_sendOf (S_X9_sendOf _ _ _ _ _ e4) (by decide) (by decide) rfl (by decide) (fun _ _ => ⟨_, rfl⟩) (Nat.le_of_ble_eq_true rfl) ?_
  refine G_i2l (pc := 50) dX9_tellsOwner_50 ?_
  refine G_ladd (pc := 51) dX9_tellsOwner_51 ?_
  obtain rfl := Option.some.inj h
  exact G_lret (pc := 52) rfl dX9_tellsOwner_52
def L_X9_tellsWeek_6 : Nat → Int32 → Int32 → Int64 → Int32 → Mm → Option (Int64 × Mm)
  | 0, _, _, _, _, _ => none
  | n + 1, x3, x4, x5, x7, μ => if 5 ≤ x7 then some (x5, μ) else (F_X9_atBy x3 x4 x7 μ).bind (fun q2 => L_X9_tellsWeek_6 n x3 x4 ((31 * x5) + q2.1.toInt64) (x7 + 1) q2.2)
set_option maxRecDepth 100000 in
set_option maxHeartbeats 4000000 in
theorem L_X9_tellsWeek_6_s (n : Nat) (x3 : Int32) (x4 : Int32) (x5 : Int64) (x7 : Int32) (μ : Mm) : L_X9_tellsWeek_6  (n + 1) x3 x4 x5 x7 μ = (if 5 ≤ x7 then some (x5, μ) else (F_X9_atBy x3 x4 x7 μ).bind (fun q2 => L_X9_tellsWeek_6 n x3 x4 ((31 * x5) + q2.1.toInt64) (x7 + 1) q2.2)) := rfl
set_option maxRecDepth 100000 in
set_option maxHeartbeats 4000000 in
theorem B_X9_tellsWeek_6 : ∀ (n : Nat) (x3 : Int32) (x4 : Int32) (x5 : Int64) (x7 : Int32) (μ : Mm) (q : (Int64 × Mm)), L_X9_tellsWeek_6  n x3 x4 x5 x7 μ = some q → G wM RX9 cX9_tellsWeek 8 (some .long) 1 (some (.long q.1)) q.2 6 [(0, .ref 0), (3, .int x3), (4, .int x4), (5, .long x5), (7, .int x7)] [] μ := by
  intro n
  induction n with
  | zero =>
    intro x3 x4 x5 x7 μ q  h
    cases h
  | succ n ih =>
    intro x3 x4 x5 x7 μ q  h
    rw [L_X9_tellsWeek_6_s] at h
    refine G_iload (pc := 6) 4 dX9_tellsWeek_6 rfl ?_
    refine G_iconst (pc := 8) (5) dX9_tellsWeek_8 ci_5 ?_
    refine G_icmp_ge (pc := 9) 37 dX9_tellsWeek_9 (by decide) (fun c1 => ?_) (fun c1 => ?_)
    · replace h := itp c1 h
      refine G_lload (pc := 37) 3 dX9_tellsWeek_37 rfl ?_
      obtain rfl := Option.some.inj h
      exact G_lret (pc := 39) rfl dX9_tellsWeek_39
    · replace h := itn c1 h
      refine G_ldc2 (pc := 12) (31) dX9_tellsWeek_12 kl_X9_319 ?_
      refine G_lload (pc := 15) 3 dX9_tellsWeek_15 rfl ?_
      refine G_lmul (pc := 17) dX9_tellsWeek_17 ?_
      refine G_aload_n (pc := 18) 0 dX9_tellsWeek_18 rfl ?_
      refine G_iload_n (pc := 19) 1 dX9_tellsWeek_19 rfl ?_
      refine G_iload (pc := 20) 2 dX9_tellsWeek_20 rfl ?_
      refine G_iload (pc := 22) 4 dX9_tellsWeek_22 rfl ?_
      obtain ⟨q2, e2, h⟩ := bnd_some h
      refine G_callV3r (pc := 24) 0 8 dX9_tellsWeek_24 wv_X9_225 cd_X9_atBy (S_X9_atBy _ _ _ _ _ e2) (by decide) (by decide) rfl (by decide) (fun _ _ => ⟨_, rfl⟩) (Nat.le_of_ble_eq_true rfl) ?_
      refine G_i2l (pc := 27) dX9_tellsWeek_27 ?_
      refine G_ladd (pc := 28) dX9_tellsWeek_28 ?_
      refine G_lstore (pc := 29) [(5, .long _), (0, .ref _), (3, .int _), (4, .int _), (7, .int _)] dX9_tellsWeek_29 (Nat.le_of_ble_eq_true rfl) rfl ?_
      refine G_iinc (pc := 31) (1) 4 [(7, .int _), (5, .long _), (0, .ref _), (3, .int _), (4, .int _)] dX9_tellsWeek_31 ci_1 rfl (Nat.le_of_ble_eq_true rfl) rfl ?_
      refine G_goto (pc := 34) 6 dX9_tellsWeek_34 (by decide) ?_
      refine G_loc [2, 3, 4, 1, 0] [(0, .ref _), (3, .int _), (4, .int _), (5, .long _), (7, .int _)] rfl ?_
      exact ih _ _ _ _ _ _ h
def F_X9_tellsWeek (x1 : Int64) (x3 : Int32) (x4 : Int32) (μ : Mm) : Option (Int64 × Mm) := L_X9_tellsWeek_6 FUEL x3 x4 x1 0 μ
set_option maxRecDepth 100000 in
set_option maxHeartbeats 4000000 in
theorem S_X9_tellsWeek (x1 : Int64) (x3 : Int32) (x4 : Int32)  (μ : Mm) (q : (Int64 × Mm)) (h : F_X9_tellsWeek x1 x3 x4 μ = some q) : Cn wM yX9_tellsWeek cX9_tellsWeek 8 (some .long) 1 [.ref 0, .long x1, .int x3, .int x4] μ (some (.long q.1)) q.2 := by
  refine Cn_of (by decide +kernel) (Nat.le_of_ble_eq_true rfl) ?_
  show G wM RX9 cX9_tellsWeek 8 (some .long) 1 (some (.long q.1)) q.2 0 [(0, .ref 0), (1, .long x1), (3, .int x3), (4, .int x4)] [] μ
  unfold F_X9_tellsWeek at h
  refine G_lload_n (pc := 0) 1 dX9_tellsWeek_0 rfl ?_
  refine G_lstore (pc := 1) [(5, .long _), (0, .ref _), (1, .long _), (3, .int _), (4, .int _)] dX9_tellsWeek_1 (Nat.le_of_ble_eq_true rfl) rfl ?_
  refine G_iconst (pc := 3) (0) dX9_tellsWeek_3 ci_0 ?_
  refine G_istore (pc := 4) [(7, .int _), (5, .long _), (0, .ref _), (1, .long _), (3, .int _), (4, .int _)] dX9_tellsWeek_4 (Nat.le_of_ble_eq_true rfl) rfl ?_
  refine G_loc [2, 4, 5, 1, 0] [(0, .ref _), (3, .int _), (4, .int _), (5, .long _), (7, .int _)] rfl ?_
  exact B_X9_tellsWeek_6 _ _ _ _ _ _ _ h
def L_X9_tellsThing_10 : Nat → Int32 → Int64 → Int32 → Mm → Option (Int64 × Mm)
  | 0, _, _, _, _ => none
  | n + 1, x3, x4, x6, μ => if 3 ≤ x6 then (F_X9_tellsWeek x4 0 x3 μ).bind (fun q3 => (F_X9_tellsWeek q3.1 4 x3 q3.2).bind (fun q4 => (F_X9_tellsWeek q4.1 8 x3 q4.2).bind (fun q5 => (F_X9_tellsWeek q5.1 11 x3 q5.2).bind (fun q6 => (F_X9_brushOf x3 0 q6.2).bind (fun q7 => (F_X9_brushOf x3 1 q7.2).bind (fun q8 => (F_X9_rivalOf x3 0 q8.2).bind (fun q9 => (F_X9_rivalOf x3 1 q9.2).bind (fun q10 => (F_X9_lookedOf x3 q10.2).bind (fun q11 => (F_X9_askOf x3 q11.2).bind (fun q12 => (F_X9_chanceOf 5 x3 0 q12.2).bind (fun q13 => (F_X9_chanceOf 5 x3 1 q13.2).bind (fun q14 => some (((31 * ((31 * ((31 * ((31 * ((31 * ((31 * ((31 * ((31 * q6.1) + q7.1.toInt64)) + q8.1.toInt64)) + q9.1.toInt64)) + q10.1.toInt64)) + q11.1.toInt64)) + q12.1.toInt64)) + q13.1)) + q14.1), q14.2))))))))))))) else gi ((3 * x3) + x6) 30 (L_X9_tellsThing_10 n x3 ((31 * x4) + (μ.1 7 ((3 * x3) + x6).toNatClampNeg).toInt64) (x6 + 1) μ)
set_option maxRecDepth 100000 in
set_option maxHeartbeats 4000000 in
theorem L_X9_tellsThing_10_s (n : Nat) (x3 : Int32) (x4 : Int64) (x6 : Int32) (μ : Mm) : L_X9_tellsThing_10  (n + 1) x3 x4 x6 μ = (if 3 ≤ x6 then (F_X9_tellsWeek x4 0 x3 μ).bind (fun q3 => (F_X9_tellsWeek q3.1 4 x3 q3.2).bind (fun q4 => (F_X9_tellsWeek q4.1 8 x3 q4.2).bind (fun q5 => (F_X9_tellsWeek q5.1 11 x3 q5.2).bind (fun q6 => (F_X9_brushOf x3 0 q6.2).bind (fun q7 => (F_X9_brushOf x3 1 q7.2).bind (fun q8 => (F_X9_rivalOf x3 0 q8.2).bind (fun q9 => (F_X9_rivalOf x3 1 q9.2).bind (fun q10 => (F_X9_lookedOf x3 q10.2).bind (fun q11 => (F_X9_askOf x3 q11.2).bind (fun q12 => (F_X9_chanceOf 5 x3 0 q12.2).bind (fun q13 => (F_X9_chanceOf 5 x3 1 q13.2).bind (fun q14 => some (((31 * ((31 * ((31 * ((31 * ((31 * ((31 * ((31 * ((31 * q6.1) + q7.1.toInt64)) + q8.1.toInt64)) + q9.1.toInt64)) + q10.1.toInt64)) + q11.1.toInt64)) + q12.1.toInt64)) + q13.1)) + q14.1), q14.2))))))))))))) else gi ((3 * x3) + x6) 30 (L_X9_tellsThing_10 n x3 ((31 * x4) + (μ.1 7 ((3 * x3) + x6).toNatClampNeg).toInt64) (x6 + 1) μ)) := rfl
set_option maxRecDepth 100000 in
set_option maxHeartbeats 4000000 in
theorem B_X9_tellsThing_10 : ∀ (n : Nat) (x3 : Int32) (x4 : Int64) (x6 : Int32) (μ : Mm) (q : (Int64 × Mm)), L_X9_tellsThing_10  n x3 x4 x6 μ = some q → G wM RX9 cX9_tellsThing 7 (some .long) 8 (some (.long q.1)) q.2 10 [(0, .ref 0), (3, .int x3), (4, .long x4), (6, .int x6)] [] μ := by
  intro n
  induction n with
  | zero =>
    intro x3 x4 x6 μ q  h
    cases h
  | succ n ih =>
    intro x3 x4 x6 μ q  h
    rw [L_X9_tellsThing_10_s] at h
    refine G_iload (pc := 10) 3 dX9_tellsThing_10 rfl ?_
    refine G_iconst (pc := 12) (3) dX9_tellsThing_12 ci_3 ?_
    refine G_icmp_ge (pc := 13) 43 dX9_tellsThing_13 (by decide) (fun c2 => ?_) (fun c2 => ?_)
    · replace h := itp c2 h
      refine G_aload_n (pc := 43) 0 dX9_tellsThing_43 rfl ?_
      refine G_aload_n (pc := 44) 0 dX9_tellsThing_44 rfl ?_
      refine G_aload_n (pc := 45) 0 dX9_tellsThing_45 rfl ?_
      refine G_aload_n (pc := 46) 0 dX9_tellsThing_46 rfl ?_
      refine G_lload (pc := 47) 2 dX9_tellsThing_47 rfl ?_
      refine G_iconst (pc := 49) (0) dX9_tellsThing_49 ci_0 ?_
      refine G_iload_n (pc := 50) 1 dX9_tellsThing_50 rfl ?_
      obtain ⟨q3, e3, h⟩ := bnd_some h
      refine G_callV3r (pc := 51) 0 8 dX9_tellsThing_51 wv_X9_321 cd_X9_tellsWeek (S_X9_tellsWeek _ _ _ _ _ e3) (by decide) (by decide) rfl (by decide) (fun _ _ => ⟨_, rfl⟩) (Nat.le_of_ble_eq_true rfl) ?_
      refine G_iconst (pc := 54) (4) dX9_tellsThing_54 ci_4 ?_
      refine G_iload_n (pc := 55) 1 dX9_tellsThing_55 rfl ?_
      obtain ⟨q4, e4, h⟩ := bnd_some h
      refine G_callV3r (pc := 56) 0 8 dX9_tellsThing_56 wv_X9_321 cd_X9_tellsWeek (S_X9_tellsWeek _ _ _ _ _ e4) (by decide) (by decide) rfl (by decide) (fun _ _ => ⟨_, rfl⟩) (Nat.le_of_ble_eq_true rfl) ?_
      refine G_bipush (pc := 59) (8) dX9_tellsThing_59 bp_8 ?_
      refine G_iload_n (pc := 61) 1 dX9_tellsThing_61 rfl ?_
      obtain ⟨q5, e5, h⟩ := bnd_some h
      refine G_callV3r (pc := 62) 0 8 dX9_tellsThing_62 wv_X9_321 cd_X9_tellsWeek (S_X9_tellsWeek _ _ _ _ _ e5) (by decide) (by decide) rfl (by decide) (fun _ _ => ⟨_, rfl⟩) (Nat.le_of_ble_eq_true rfl) ?_
      refine G_bipush (pc := 65) (11) dX9_tellsThing_65 bp_11 ?_
      refine G_iload_n (pc := 67) 1 dX9_tellsThing_67 rfl ?_
      obtain ⟨q6, e6, h⟩ := bnd_some h
      refine G_callV3r (pc := 68) 0 8 dX9_tellsThing_68 wv_X9_321 cd_X9_tellsWeek (S_X9_tellsWeek _ _ _ _ _ e6) (by decide) (by decide) rfl (by decide) (fun _ _ => ⟨_, rfl⟩) (Nat.le_of_ble_eq_true rfl) ?_
      refine G_lstore (pc := 71) [(4, .long _), (0, .ref _), (3, .int _), (6, .int _)] dX9_tellsThing_71 (Nat.le_of_ble_eq_true rfl) rfl ?_
      refine G_ldc2 (pc := 73) (31) dX9_tellsThing_73 kl_X9_319 ?_
      refine G_lload (pc := 76) 0 dX9_tellsThing_76 rfl ?_
      refine G_lmul (pc := 78) dX9_tellsThing_78 ?_
      refine G_aload_n (pc := 79) 1 dX9_tellsThing_79 rfl ?_
      refine G_iload_n (pc := 80) 2 dX9_tellsThing_80 rfl ?_
      refine G_iconst (pc := 81) (0) dX9_tellsThing_81 ci_0 ?_
      obtain ⟨q7, e7, h⟩ := bnd_some h
      refine G_callV2r (pc := 82) 0 8 dX9_tellsThing_82 wv_X9_248 cd_X9_brushOf (S_X9_brushOf _ _ _ _ e7) (by decide) (by decide) rfl (by decide) (fun _ _ => ⟨_, rfl⟩) (Nat.le_of_ble_eq_true rfl) ?_
      refine G_i2l (pc := 85) dX9_tellsThing_85 ?_
      refine G_ladd (pc := 86) dX9_tellsThing_86 ?_
      refine G_lstore (pc := 87) [(4, .long _), (0, .ref _), (3, .int _), (6, .int _)] dX9_tellsThing_87 (Nat.le_of_ble_eq_true rfl) rfl ?_
      refine G_ldc2 (pc := 89) (31) dX9_tellsThing_89 kl_X9_319 ?_
      refine G_lload (pc := 92) 0 dX9_tellsThing_92 rfl ?_
      refine G_lmul (pc := 94) dX9_tellsThing_94 ?_
      refine G_aload_n (pc := 95) 1 dX9_tellsThing_95 rfl ?_
      refine G_iload_n (pc := 96) 2 dX9_tellsThing_96 rfl ?_
      refine G_iconst (pc := 97) (1) dX9_tellsThing_97 ci_1 ?_
      obtain ⟨q8, e8, h⟩ := bnd_some h
      refine G_callV2r (pc := 98) 0 8 dX9_tellsThing_98 wv_X9_248 cd_X9_brushOf (S_X9_brushOf _ _ _ _ e8) (by decide) (by decide) rfl (by decide) (fun _ _ => ⟨_, rfl⟩) (Nat.le_of_ble_eq_true rfl) ?_
      refine G_i2l (pc := 101) dX9_tellsThing_101 ?_
      refine G_ladd (pc := 102) dX9_tellsThing_102 ?_
      refine G_lstore (pc := 103) [(4, .long _), (0, .ref _), (3, .int _), (6, .int _)] dX9_tellsThing_103 (Nat.le_of_ble_eq_true rfl) rfl ?_
      refine G_ldc2 (pc := 105) (31) dX9_tellsThing_105 kl_X9_319 ?_
      refine G_lload (pc := 108) 0 dX9_tellsThing_108 rfl ?_
      refine G_lmul (pc := 110) dX9_tellsThing_110 ?_
      refine G_aload_n (pc := 111) 1 dX9_tellsThing_111 rfl ?_
      refine G_iload_n (pc := 112) 2 dX9_tellsThing_112 rfl ?_
      refine G_iconst (pc := 113) (0) dX9_tellsThing_113 ci_0 ?_
      obtain ⟨q9, e9, h⟩ := bnd_some h
      refine G_callV2r (pc := 114) 0 8 dX9_tellsThing_114 wv_X9_251 cd_X9_rivalOf (S_X9_rivalOf _ _ _ _ e9) (by decide) (by decide) rfl (by decide) (fun _ _ => ⟨_, rfl⟩) (Nat.le_of_ble_eq_true rfl) ?_
      refine G_i2l (pc := 117) dX9_tellsThing_117 ?_
      refine G_ladd (pc := 118) dX9_tellsThing_118 ?_
      refine G_lstore (pc := 119) [(4, .long _), (0, .ref _), (3, .int _), (6, .int _)] dX9_tellsThing_119 (Nat.le_of_ble_eq_true rfl) rfl ?_
      refine G_ldc2 (pc := 121) (31) dX9_tellsThing_121 kl_X9_319 ?_
      refine G_lload (pc := 124) 0 dX9_tellsThing_124 rfl ?_
      refine G_lmul (pc := 126) dX9_tellsThing_126 ?_
      refine G_aload_n (pc := 127) 1 dX9_tellsThing_127 rfl ?_
      refine G_iload_n (pc := 128) 2 dX9_tellsThing_128 rfl ?_
      refine G_iconst (pc := 129) (1) dX9_tellsThing_129 ci_1 ?_
      obtain ⟨q10, e10, h⟩ := bnd_some h
      refine G_callV2r (pc := 130) 0 8 dX9_tellsThing_130 wv_X9_251 cd_X9_rivalOf (S_X9_rivalOf _ _ _ _ e10) (by decide) (by decide) rfl (by decide) (fun _ _ => ⟨_, rfl⟩) (Nat.le_of_ble_eq_true rfl) ?_
      refine G_i2l (pc := 133) dX9_tellsThing_133 ?_
      refine G_ladd (pc := 134) dX9_tellsThing_134 ?_
      refine G_lstore (pc := 135) [(4, .long _), (0, .ref _), (3, .int _), (6, .int _)] dX9_tellsThing_135 (Nat.le_of_ble_eq_true rfl) rfl ?_
      refine G_ldc2 (pc := 137) (31) dX9_tellsThing_137 kl_X9_319 ?_
      refine G_lload (pc := 140) 0 dX9_tellsThing_140 rfl ?_
      refine G_lmul (pc := 142) dX9_tellsThing_142 ?_
      refine G_aload_n (pc := 143) 1 dX9_tellsThing_143 rfl ?_
      refine G_iload_n (pc := 144) 2 dX9_tellsThing_144 rfl ?_
      obtain ⟨q11, e11, h⟩ := bnd_some h
      refine G_callV1r (pc := 145) 0 8 dX9_tellsThing_145 wv_X9_278 cd_X9_lookedOf (S_X9_lookedOf _ _ _ e11) (by decide) (by decide) rfl (by decide) (fun _ _ => ⟨_, rfl⟩) (Nat.le_of_ble_eq_true rfl) ?_
      refine G_i2l (pc := 148) dX9_tellsThing_148 ?_
      refine G_ladd (pc := 149) dX9_tellsThing_149 ?_
      refine G_lstore (pc := 150) [(4, .long _), (0, .ref _), (3, .int _), (6, .int _)] dX9_tellsThing_150 (Nat.le_of_ble_eq_true rfl) rfl ?_
      refine G_ldc2 (pc := 152) (31) dX9_tellsThing_152 kl_X9_319 ?_
      refine G_lload (pc := 155) 0 dX9_tellsThing_155 rfl ?_
      refine G_lmul (pc := 157) dX9_tellsThing_157 ?_
      refine G_aload_n (pc := 158) 1 dX9_tellsThing_158 rfl ?_
      refine G_iload_n (pc := 159) 2 dX9_tellsThing_159 rfl ?_
      obtain ⟨q12, e12, h⟩ := bnd_some h
      refine G_callV1r (pc := 160) 0 8 dX9_tellsThing_160 wv_X9_287 cd_X9_askOf (S_X9_askOf _ _ _ e12) (by decide) (by decide) rfl (by decide) (fun _ _ => ⟨_, rfl⟩) (Nat.le_of_ble_eq_true rfl) ?_
      refine G_i2l (pc := 163) dX9_tellsThing_163 ?_
      refine G_ladd (pc := 164) dX9_tellsThing_164 ?_
      refine G_lstore (pc := 165) [(4, .long _), (0, .ref _), (3, .int _), (6, .int _)] dX9_tellsThing_165 (Nat.le_of_ble_eq_true rfl) rfl ?_
      refine G_ldc2 (pc := 167) (31) dX9_tellsThing_167 kl_X9_319 ?_
      refine G_lload (pc := 170) 0 dX9_tellsThing_170 rfl ?_
      refine G_lmul (pc := 172) dX9_tellsThing_172 ?_
      refine G_aload_n (pc := 173) 1 dX9_tellsThing_173 rfl ?_
      refine G_iconst (pc := 174) (5) dX9_tellsThing_174 ci_5 ?_
      refine G_iload_n (pc := 175) 2 dX9_tellsThing_175 rfl ?_
      refine G_iconst (pc := 176) (0) dX9_tellsThing_176 ci_0 ?_
      obtain ⟨q13, e13, h⟩ := bnd_some h
      refine G_callV3r (pc := 177) 0 8 dX9_tellsThing_177 wv_X9_296 cd_X9_chanceOf (S_X9_chanceOf _ _ _ _ _ e13) (by decide) (by decide) rfl (by decide) (fun _ _ => ⟨_, rfl⟩) (Nat.le_of_ble_eq_true rfl) ?_
      refine G_ladd (pc := 180) dX9_tellsThing_180 ?_
      refine G_lstore (pc := 181) [(4, .long _), (0, .ref _), (3, .int _), (6, .int _)] dX9_tellsThing_181 (Nat.le_of_ble_eq_true rfl) rfl ?_
      refine G_ldc2 (pc := 183) (31) dX9_tellsThing_183 kl_X9_319 ?_
      refine G_lload (pc := 186) 0 dX9_tellsThing_186 rfl ?_
      refine G_lmul (pc := 188) dX9_tellsThing_188 ?_
      refine G_aload_n (pc := 189) 1 dX9_tellsThing_189 rfl ?_
      refine G_iconst (pc := 190) (5) dX9_tellsThing_190 ci_5 ?_
      refine G_iload_n (pc := 191) 2 dX9_tellsThing_191 rfl ?_
      refine G_iconst (pc := 192) (1) dX9_tellsThing_192 ci_1 ?_
      obtain ⟨q14, e14, h⟩ := bnd_some h
      refine G_callV3r (pc := 193) 0 8 dX9_tellsThing_193 wv_X9_296 cd_X9_chanceOf (S_X9_chanceOf _ _ _ _ _ e14) (by decide) (by decide) rfl (by decide) (fun _ _ => ⟨_, rfl⟩) (Nat.le_of_ble_eq_true rfl) ?_
      refine G_ladd (pc := 196) dX9_tellsThing_196 ?_
      obtain rfl := Option.some.inj h
      exact G_lret (pc := 197) rfl dX9_tellsThing_197
    · replace h := itn c2 h
      refine G_ldc2 (pc := 16) (31) dX9_tellsThing_16 kl_X9_319 ?_
      refine G_lload (pc := 19) 2 dX9_tellsThing_19 rfl ?_
      refine G_lmul (pc := 21) dX9_tellsThing_21 ?_
      refine G_aload_n (pc := 22) 0 dX9_tellsThing_22 rfl ?_
      refine gwM_X9_28_0 (pc := 23) dX9_tellsThing_23 ?_
      refine G_iconst (pc := 26) (3) dX9_tellsThing_26 ci_3 ?_
      refine G_iload_n (pc := 27) 1 dX9_tellsThing_27 rfl ?_
      refine G_imul (pc := 28) dX9_tellsThing_28 ?_
      refine G_iload (pc := 29) 3 dX9_tellsThing_29 rfl ?_
      refine G_iadd (pc := 31) dX9_tellsThing_31 ?_
      obtain ⟨g15, h⟩ := gi_some h
      refine alwM_7 (pc := 32) dX9_tellsThing_32 g15 ?_
      refine G_i2l (pc := 33) dX9_tellsThing_33 ?_
      refine G_ladd (pc := 34) dX9_tellsThing_34 ?_
      refine G_lstore (pc := 35) [(4, .long _), (0, .ref _), (3, .int _), (6, .int _)] dX9_tellsThing_35 (Nat.le_of_ble_eq_true rfl) rfl ?_
      refine G_iinc (pc := 37) (1) 3 [(6, .int _), (4, .long _), (0, .ref _), (3, .int _)] dX9_tellsThing_37 ci_1 rfl (Nat.le_of_ble_eq_true rfl) rfl ?_
      refine G_goto (pc := 40) 10 dX9_tellsThing_40 (by decide) ?_
      refine G_loc [2, 3, 1, 0] [(0, .ref _), (3, .int _), (4, .long _), (6, .int _)] rfl ?_
      exact ih _ _ _ _ _ h
