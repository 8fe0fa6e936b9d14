def L_X8_digestThing_6 : Nat → Int32 → Int64 → Int32 → Mm → Option (Int64 × Mm)
  | 0, _, _, _, _ => none
  | n + 1, x3, x4, x6, μ => if 3 ≤ x6 then L_X8_digestThing_49 FUEL x3 x4 4 0 μ else (F_X3_part_1 x3 x6 μ).bind (fun q22 => (F_X8_mix x4 q22.1.toInt64 q22.2).bind (fun q23 => L_X8_digestThing_6 n x3 q23.1 (x6 + 1) q23.2))
set_option maxRecDepth 100000 in
set_option maxHeartbeats 4000000 in
theorem L_X8_digestThing_6_s (n : Nat) (x3 : Int32) (x4 : Int64) (x6 : Int32) (μ : Mm) : L_X8_digestThing_6  (n + 1) x3 x4 x6 μ = (if 3 ≤ x6 then L_X8_digestThing_49 FUEL x3 x4 4 0 μ else (F_X3_part_1 x3 x6 μ).bind (fun q22 => (F_X8_mix x4 q22.1.toInt64 q22.2).bind (fun q23 => L_X8_digestThing_6 n x3 q23.1 (x6 + 1) q23.2))) := rfl
set_option maxRecDepth 100000 in
set_option maxHeartbeats 4000000 in
theorem B_X8_digestThing_6 : ∀ (n : Nat) (x3 : Int32) (x4 : Int64) (x6 : Int32) (μ : Mm) (q : (Int64 × Mm)), L_X8_digestThing_6  n x3 x4 x6 μ = some q → G wC RX8 cX8_digestThing 11 (some .long) 6 (some (.long q.1)) q.2 6 [(0, .ref 0), (3, .int x3), (4, .long x4), (6, .int x6)] [] μ := by
  intro n
  induction n with
  | zero =>
    intro x3 x4 x6 μ q  h
    cases h
  | succ n ih =>
    intro x3 x4 x6 μ q  h
    rw [L_X8_digestThing_6_s] at h
    refine G_iload (pc := 6) 3 dX8_digestThing_6 rfl ?_
    refine G_iconst (pc := 8) (3) dX8_digestThing_8 ci_3 ?_
    refine G_icmp_ge (pc := 9) 36 dX8_digestThing_9 (by decide) (fun c1 => ?_) (fun c1 => ?_)
    · replace h := itp c1 h
      refine G_getst (pc := 36) dX8_digestThing_36 st_X8_312 ?_
      refine G_astore (pc := 39) [(6, .ref _), (0, .ref _), (3, .int _), (4, .long _)] dX8_digestThing_39 (Nat.le_of_ble_eq_true rfl) rfl ?_
      refine G_aload (pc := 41) 0 dX8_digestThing_41 rfl ?_
      refine G_tlen (pc := 43) dX8_digestThing_43 ?_
      refine G_istore (pc := 44) [(7, .int _), (6, .ref _), (0, .ref _), (3, .int _), (4, .long _)] dX8_digestThing_44 (Nat.le_of_ble_eq_true rfl) rfl ?_
      refine G_iconst (pc := 46) (0) dX8_digestThing_46 ci_0 ?_
      refine G_istore (pc := 47) [(8, .int _), (7, .int _), (6, .ref _), (0, .ref _), (3, .int _), (4, .long _)] dX8_digestThing_47 (Nat.le_of_ble_eq_true rfl) rfl ?_
      refine G_loc [3, 4, 5, 2, 1, 0] [(0, .ref _), (3, .int _), (4, .long _), (6, .ref _), (7, .int _), (8, .int _)] rfl ?_
      exact B_X8_digestThing_49 _ _ _ _ _ _ _ h
    · replace h := itn c1 h
      refine G_lload (pc := 12) 2 dX8_digestThing_12 rfl ?_
      refine G_aload_n (pc := 14) 0 dX8_digestThing_14 rfl ?_
      refine gwC_X8_14_0 (pc := 15) dX8_digestThing_15 ?_
      refine G_iload_n (pc := 18) 1 dX8_digestThing_18 rfl ?_
      refine G_iload (pc := 19) 3 dX8_digestThing_19 rfl ?_
      obtain ⟨q22, e22, h⟩ := bnd_some h
      refine G_callV2r (pc := 21) 1 3 dX8_digestThing_21 wv_X8_108 cd_X3_part (S_X3_part_1 _ _ _ _ e22) (by decide) (by decide) rfl (by decide) (fun _ _ => ⟨_, rfl⟩) (Nat.le_of_ble_eq_true rfl) ?_
      refine G_i2l (pc := 24) dX8_digestThing_24 ?_
      obtain ⟨q23, e23, h⟩ := bnd_some h
      refine G_callS2r (pc := 25) dX8_digestThing_25 ws_X8_273 cd_X8_mix (S_X8_mix _ _ _ _ e23) (by decide) (by decide) (Nat.le_of_ble_eq_true rfl) ?_
      refine G_lstore (pc := 28) [(4, .long _), (0, .ref _), (3, .int _), (6, .int _)] dX8_digestThing_28 (Nat.le_of_ble_eq_true rfl) rfl ?_
      refine G_iinc (pc := 30) (1) 3 [(6, .int _), (4, .long _), (0, .ref _), (3, .int _)] dX8_digestThing_30 ci_1 rfl (Nat.le_of_ble_eq_true rfl) rfl ?_
      refine G_goto (pc := 33) 6 dX8_digestThing_33 (by decide) ?_
      refine G_loc [2, 3, 1, 0] [(0, .ref _), (3, .int _), (4, .long _), (6, .int _)] rfl ?_
      exact ih _ _ _ _ _ h
def F_X8_digestThing (x1 : Int64) (x3 : Int32) (μ : Mm) : Option (Int64 × Mm) := L_X8_digestThing_6 FUEL x3 x1 0 μ
set_option maxRecDepth 100000 in
set_option maxHeartbeats 4000000 in
theorem S_X8_digestThing (x1 : Int64) (x3 : Int32)  (μ : Mm) (q : (Int64 × Mm)) (h : F_X8_digestThing x1 x3 μ = some q) : Cn wC yX8_digestThing cX8_digestThing 11 (some .long) 6 [.ref 0, .long x1, .int x3] μ (some (.long q.1)) q.2 := by
  refine Cn_of (by decide +kernel) (Nat.le_of_ble_eq_true rfl) ?_
  show G wC RX8 cX8_digestThing 11 (some .long) 6 (some (.long q.1)) q.2 0 [(0, .ref 0), (1, .long x1), (3, .int x3)] [] μ
  unfold F_X8_digestThing at h
  refine G_lload_n (pc := 0) 1 dX8_digestThing_0 rfl ?_
  refine G_lstore (pc := 1) [(4, .long _), (0, .ref _), (1, .long _), (3, .int _)] dX8_digestThing_1 (Nat.le_of_ble_eq_true rfl) rfl ?_
  refine G_iconst (pc := 3) (0) dX8_digestThing_3 ci_0 ?_
  refine G_istore (pc := 4) [(6, .int _), (4, .long _), (0, .ref _), (1, .long _), (3, .int _)] dX8_digestThing_4 (Nat.le_of_ble_eq_true rfl) rfl ?_
  refine G_loc [2, 4, 1, 0] [(0, .ref _), (3, .int _), (4, .long _), (6, .int _)] rfl ?_
  exact B_X8_digestThing_6 _ _ _ _ _ _ h
def L_X8_digest_66 : Nat → Int64 → Int32 → Mm → Option (Int64 × Mm)
  | 0, _, _, _ => none
  | n + 1, x1, x3, μ => (F_X3_size_1 μ).bind (fun q5 => if q5.1 ≤ x3 then (F_X8_digestJudges x1 q5.2).bind (fun q7 => (F_X8_digestOwners q7.1 q7.2).bind (fun q8 => (F_X8_champion q8.2).bind (fun q9 => (F_X8_mix q8.1 q9.1.toInt64 q9.2).bind (fun q10 => (F_X8_best q10.2).bind (fun q11 => (F_X8_mix q10.1 q11.1.toInt64 q11.2).bind (fun q12 => (F_X8_left 0 q12.2).bind (fun q13 => (F_X8_mix q12.1 q13.1.toInt64 q13.2).bind (fun q14 => (F_X8_left 1 q14.2).bind (fun q15 => (F_X8_mix q14.1 q15.1.toInt64 q15.2).bind (fun q16 => (F_X8_spare (-1) q16.2).bind (fun q17 => (F_X8_mix q16.1 q17.1.toInt64 q17.2).bind (fun q18 => (F_X8_spare 0 q18.2).bind (fun q19 => (F_X8_mix q18.1 q19.1.toInt64 q19.2).bind (fun q20 => (F_X8_never q20.2).bind (fun q21 => (F_X8_mix q20.1 q21.1.toInt64 q21.2).bind (fun q22 => (F_X8_years 7 9 0 q22.2).bind (fun q23 => (F_X8_mix q22.1 q23.1.toInt64 q23.2).bind (fun q24 => (F_X8_years 7 9 1 q24.2).bind (fun q25 => (F_X8_mix q24.1 q25.1.toInt64 q25.2).bind (fun q26 => some (q26.1, q26.2))))))))))))))))))))) else (F_X8_digestThing x1 x3 q5.2).bind (fun q27 => L_X8_digest_66 n q27.1 (x3 + 1) q27.2))
set_option maxRecDepth 100000 in
set_option maxHeartbeats 4000000 in
theorem L_X8_digest_66_s (n : Nat) (x1 : Int64) (x3 : Int32) (μ : Mm) : L_X8_digest_66  (n + 1) x1 x3 μ = ((F_X3_size_1 μ).bind (fun q5 => if q5.1 ≤ x3 then (F_X8_digestJudges x1 q5.2).bind (fun q7 => (F_X8_digestOwners q7.1 q7.2).bind (fun q8 => (F_X8_champion q8.2).bind (fun q9 => (F_X8_mix q8.1 q9.1.toInt64 q9.2).bind (fun q10 => (F_X8_best q10.2).bind (fun q11 => (F_X8_mix q10.1 q11.1.toInt64 q11.2).bind (fun q12 => (F_X8_left 0 q12.2).bind (fun q13 => (F_X8_mix q12.1 q13.1.toInt64 q13.2).bind (fun q14 => (F_X8_left 1 q14.2).bind (fun q15 => (F_X8_mix q14.1 q15.1.toInt64 q15.2).bind (fun q16 => (F_X8_spare (-1) q16.2).bind (fun q17 => (F_X8_mix q16.1 q17.1.toInt64 q17.2).bind (fun q18 => (F_X8_spare 0 q18.2).bind (fun q19 => (F_X8_mix q18.1 q19.1.toInt64 q19.2).bind (fun q20 => (F_X8_never q20.2).bind (fun q21 => (F_X8_mix q20.1 q21.1.toInt64 q21.2).bind (fun q22 => (F_X8_years 7 9 0 q22.2).bind (fun q23 => (F_X8_mix q22.1 q23.1.toInt64 q23.2).bind (fun q24 => (F_X8_years 7 9 1 q24.2).bind (fun q25 => (F_X8_mix q24.1 q25.1.toInt64 q25.2).bind (fun q26 => some (q26.1, q26.2))))))))))))))))))))) else (F_X8_digestThing x1 x3 q5.2).bind (fun q27 => L_X8_digest_66 n q27.1 (x3 + 1) q27.2))) := rfl
set_option maxRecDepth 100000 in
set_option maxHeartbeats 4000000 in
theorem B_X8_digest_66 : ∀ (n : Nat) (x1 : Int64) (x3 : Int32) (μ : Mm) (q : (Int64 × Mm)), L_X8_digest_66  n x1 x3 μ = some q → G wC RX8 cX8_digest 4 (some .long) 7 (some (.long q.1)) q.2 66 [(0, .ref 0), (1, .long x1), (3, .int x3)] [] μ := by
  intro n
  induction n with
  | zero =>
    intro x1 x3 μ q  h
    cases h
  | succ n ih =>
    intro x1 x3 μ q  h
    rw [L_X8_digest_66_s] at h
    refine G_iload_n (pc := 66) 2 dX8_digest_66 rfl ?_
    refine G_aload_n (pc := 67) 0 dX8_digest_67 rfl ?_
    refine gwC_X8_14_0 (pc := 68) dX8_digest_68 ?_
    obtain ⟨q5, e5, h⟩ := bnd_some h
    refine G_callV0r (pc := 71) 1 3 dX8_digest_71 wv_X8_100 cd_X3_size (S_X3_size_1 _ _ e5) (by decide) (by decide) rfl (by decide) (fun _ _ => ⟨_, rfl⟩) (Nat.le_of_ble_eq_true rfl) ?_
    refine G_icmp_ge (pc := 74) 90 dX8_digest_74 (by decide) (fun c6 => ?_) (fun c6 => ?_)
    · replace h := itp c6 h
      refine G_aload_n (pc := 90) 0 dX8_digest_90 rfl ?_
      refine G_lload_n (pc := 91) 1 dX8_digest_91 rfl ?_
      obtain ⟨q7, e7, h⟩ := bnd_some h
      refine G_callV1r (pc := 92) 0 7 dX8_digest_92 wv_X8_287 cd_X8_digestJudges (S_X8_digestJudges _ _ _ e7) (by decide) (by decide) rfl (by decide) (fun _ _ => ⟨_, rfl⟩) (Nat.le_of_ble_eq_true rfl) ?_
      refine G_lstore_n (pc := 95) [(1, .long _), (0, .ref _), (3, .int _)] dX8_digest_95 (Nat.le_of_ble_eq_true rfl) rfl ?_
      refine G_aload_n (pc := 96) 1 dX8_digest_96 rfl ?_
      refine G_lload_n (pc := 97) 0 dX8_digest_97 rfl ?_
      obtain ⟨q8, e8, h⟩ := bnd_some h
      refine G_callV1r (pc := 98) 0 7 dX8_digest_98 wv_X8_290 cd_X8_digestOwners (S_X8_digestOwners _ _ _ e8) (by decide) (by decide) rfl (by decide) (fun _ _ => ⟨_, rfl⟩) (Nat.le_of_ble_eq_true rfl) ?_
      refine G_lstore_n (pc := 101) [(1, .long _), (0, .ref _), (3, .int _)] dX8_digest_101 (Nat.le_of_ble_eq_true rfl) rfl ?_
      refine G_lload_n (pc := 102) 0 dX8_digest_102 rfl ?_
      refine G_aload_n (pc := 103) 1 dX8_digest_103 rfl ?_
      obtain ⟨q9, e9, h⟩ := bnd_some h
      refine G_callV0r (pc := 104) 0 7 dX8_digest_104 wv_X8_293 cd_X8_champion (S_X8_champion _ _ e9) (by decide) (by decide) rfl (by decide) (fun _ _ => ⟨_, rfl⟩) (Nat.le_of_ble_eq_true rfl) ?_
      refine G_i2l (pc := 107) dX8_digest_107 ?_
      obtain ⟨q10, e10, h⟩ := bnd_some h
      refine G_callS2r (pc := 108) dX8_digest_108 ws_X8_273 cd_X8_mix (S_X8_mix _ _ _ _ e10) (by decide) (by decide) (Nat.le_of_ble_eq_true rfl) ?_
      refine G_lstore_n (pc := 111) [(1, .long _), (0, .ref _), (3, .int _)] dX8_digest_111 (Nat.le_of_ble_eq_true rfl) rfl ?_
      refine G_lload_n (pc := 112) 0 dX8_digest_112 rfl ?_
      refine G_aload_n (pc := 113) 1 dX8_digest_113 rfl ?_
      obtain ⟨q11, e11, h⟩ := bnd_some h
      refine G_callV0r (pc := 114) 0 7 dX8_digest_114 wv_X8_296 cd_X8_best (S_X8_best _ _ e11) (by decide) (by decide) rfl (by decide) (fun _ _ => ⟨_, rfl⟩) (Nat.le_of_ble_eq_true rfl) ?_
      refine G_i2l (pc := 117) dX8_digest_117 ?_
      obtain ⟨q12, e12, h⟩ := bnd_some h
      refine G_callS2r (pc := 118) dX8_digest_118 ws_X8_273 cd_X8_mix (S_X8_mix _ _ _ _ e12) (by decide) (by decide) (Nat.le_of_ble_eq_true rfl) ?_
      refine G_lstore_n (pc := 121) [(1, .long _), (0, .ref _), (3, .int _)] dX8_digest_121 (Nat.le_of_ble_eq_true rfl) rfl ?_
      refine G_lload_n (pc := 122) 0 dX8_digest_122 rfl ?_
      refine G_aload_n (pc := 123) 1 dX8_digest_123 rfl ?_
      refine G_iconst (pc := 124) (0) dX8_digest_124 ci_0 ?_
      obtain ⟨q13, e13, h⟩ := bnd_some h
      refine G_callV1r (pc := 125) 0 7 dX8_digest_125 wv_X8_299 cd_X8_left (S_X8_left _ _ _ e13) (by decide) (by decide) rfl (by decide) (fun _ _ => ⟨_, rfl⟩) (Nat.le_of_ble_eq_true rfl) ?_
      refine G_i2l (pc := 128) dX8_digest_128 ?_
      obtain ⟨q14, e14, h⟩ := bnd_some h
      refine G_callS2r (pc := 129) dX8_digest_129 ws_X8_273 cd_X8_mix (S_X8_mix _ _ _ _ e14) (by decide) (by decide) (Nat.le_of_ble_eq_true rfl) ?_
      refine G_lstore_n (pc := 132) [(1, .long _), (0, .ref _), (3, .int _)] dX8_digest_132 (Nat.le_of_ble_eq_true rfl) rfl ?_
      refine G_lload_n (pc := 133) 0 dX8_digest_133 rfl ?_
      refine G_aload_n (pc := 134) 1 dX8_digest_134 rfl ?_
      refine G_iconst (pc := 135) (1) dX8_digest_135 ci_1 ?_
      obtain ⟨q15, e15, h⟩ := bnd_some h
      refine G_callV1r (pc := 136) 0 7 dX8_digest_136 wv_X8_299 cd_X8_left (S_X8_left _ _ _ e15) (by decide) (by decide) rfl (by decide) (fun _ _ => ⟨_, rfl⟩) (Nat.le_of_ble_eq_true rfl) ?_
      refine G_i2l (pc := 139) dX8_digest_139 ?_
      obtain ⟨q16, e16, h⟩ := bnd_some h
      refine G_callS2r (pc := 140) dX8_digest_140 ws_X8_273 cd_X8_mix (S_X8_mix _ _ _ _ e16) (by decide) (by decide) (Nat.le_of_ble_eq_true rfl) ?_
      refine G_lstore_n (pc := 143) [(1, .long _), (0, .ref _), (3, .int _)] dX8_digest_143 (Nat.le_of_ble_eq_true rfl) rfl ?_
      refine G_lload_n (pc := 144) 0 dX8_digest_144 rfl ?_
      refine G_aload_n (pc := 145) 1 dX8_digest_145 rfl ?_
      refine G_iconst (pc := 146) (-1) dX8_digest_146 ci_m1 ?_
      obtain ⟨q17, e17, h⟩ := bnd_some h
      refine G_callV1r (pc := 147) 0 7 dX8_digest_147 wv_X8_302 cd_X8_spare (S_X8_spare _ _ _ e17) (by decide) (by decide) rfl (by decide) (fun _ _ => ⟨_, rfl⟩) (Nat.le_of_ble_eq_true rfl) ?_
      refine G_i2l (pc := 150) dX8_digest_150 ?_
      obtain ⟨q18, e18, h⟩ := bnd_some h
      refine G_callS2r (pc := 151) dX8_digest_151 ws_X8_273 cd_X8_mix (S_X8_mix _ _ _ _ e18) (by decide) (by decide) (Nat.le_of_ble_eq_true rfl) ?_
      refine G_lstore_n (pc := 154) [(1, .long _), (0, .ref _), (3, .int _)] dX8_digest_154 (Nat.le_of_ble_eq_true rfl) rfl ?_
      refine G_lload_n (pc := 155) 0 dX8_digest_155 rfl ?_
      refine G_aload_n (pc := 156) 1 dX8_digest_156 rfl ?_
      refine G_iconst (pc := 157) (0) dX8_digest_157 ci_0 ?_
      obtain ⟨q19, e19, h⟩ := bnd_some h
      refine G_callV1r (pc := 158) 0 7 dX8_digest_158 wv_X8_302 cd_X8_spare (S_X8_spare _ _ _ e19) (by decide) (by decide) rfl (by decide) (fun _ _ => ⟨_, rfl⟩) (Nat.le_of_ble_eq_true rfl) ?_
      refine G_i2l (pc := 161) dX8_digest_161 ?_
      obtain ⟨q20, e20, h⟩ := bnd_some h
      refine G_callS2r (pc := 162) dX8_digest_162 ws_X8_273 cd_X8_mix (S_X8_mix _ _ _ _ e20) (by decide) (by decide) (Nat.le_of_ble_eq_true rfl) ?_
      refine G_lstore_n (pc := 165) [(1, .long _), (0, .ref _), (3, .int _)] dX8_digest_165 (Nat.le_of_ble_eq_true rfl) rfl ?_
      refine G_lload_n (pc := 166) 0 dX8_digest_166 rfl ?_
      refine G_aload_n (pc := 167) 1 dX8_digest_167 rfl ?_
      obtain ⟨q21, e21, h⟩ := bnd_some h
      refine G_callV0r (pc := 168) 0 7 dX8_digest_168 wv_X8_305 cd_X8_never (S_X8_never _ _ e21) (by decide) (by decide) rfl (by decide) (fun _ _ => ⟨_, rfl⟩) (Nat.le_of_ble_eq_true rfl) ?_
      refine G_i2l (pc := 171) dX8_digest_171 ?_
      obtain ⟨q22, e22, h⟩ := bnd_some h
      refine G_callS2r (pc := 172) dX8_digest_172 ws_X8_273 cd_X8_mix (S_X8_mix _ _ _ _ e22) (by decide) (by decide) (Nat.le_of_ble_eq_true rfl) ?_
      refine G_lstore_n (pc := 175) [(1, .long _), (0, .ref _), (3, .int _)] dX8_digest_175 (Nat.le_of_ble_eq_true rfl) rfl ?_
      refine G_lload_n (pc := 176) 0 dX8_digest_176 rfl ?_
      refine G_aload_n (pc := 177) 1 dX8_digest_177 rfl ?_
      refine G_bipush (pc := 178) (7) dX8_digest_178 bp_7 ?_
      refine G_bipush (pc := 180) (9) dX8_digest_180 bp_9 ?_
      refine G_iconst (pc := 182) (0) dX8_digest_182 ci_0 ?_
      obtain ⟨q23, e23, h⟩ := bnd_some h
      refine G_callV3r (pc := 183) 0 7 dX8_digest_183 wv_X8_308 cd_X8_years (S_X8_years _ _ _ _ _ e23) (by decide) (by decide) rfl (by decide) (fun _ _ => ⟨_, rfl⟩) (Nat.le_of_ble_eq_true rfl) ?_
      refine G_i2l (pc := 186) dX8_digest_186 ?_
      obtain ⟨q24, e24, h⟩ := bnd_some h
      refine G_callS2r (pc := 187) dX8_digest_187 ws_X8_273 cd_X8_mix (S_X8_mix _ _ _ _ e24) (by decide) (by decide) (Nat.le_of_ble_eq_true rfl) ?_
      refine G_lstore_n (pc := 190) [(1, .long _), (0, .ref _), (3, .int _)] dX8_digest_190 (Nat.le_of_ble_eq_true rfl) rfl ?_
      refine G_lload_n (pc := 191) 0 dX8_digest_191 rfl ?_
      refine G_aload_n (pc := 192) 1 dX8_digest_192 rfl ?_
      refine G_bipush (pc := 193) (7) dX8_digest_193 bp_7 ?_
      refine G_bipush (pc := 195) (9) dX8_digest_195 bp_9 ?_
      refine G_iconst (pc := 197) (1) dX8_digest_197 ci_1 ?_
      obtain ⟨q25, e25, h⟩ := bnd_some h
      refine G_callV3r (pc := 198) 0 7 dX8_digest_198 wv_X8_308 cd_X8_years (S_X8_years _ _ _ _ _ e25) (by decide) (by decide) rfl (by decide) (fun _ _ => ⟨_, rfl⟩) (Nat.le_of_ble_eq_true rfl) ?_
      refine G_i2l (pc := 201) dX8_digest_201 ?_
      obtain ⟨q26, e26, h⟩ := bnd_some h
      refine G_callS2r (pc := 202) dX8_digest_202 ws_X8_273 cd_X8_mix (S_X8_mix _ _ _ _ e26) (by decide) (by decide) (Nat.le_of_ble_eq_true rfl) ?_
      obtain rfl := Option.some.inj h
      exact G_lret (pc := 205) rfl dX8_digest_205
    · replace h := itn c6 h
      refine G_aload_n (pc := 77) 0 dX8_digest_77 rfl ?_
      refine G_lload_n (pc := 78) 1 dX8_digest_78 rfl ?_
      refine G_iload_n (pc := 79) 2 dX8_digest_79 rfl ?_
      obtain ⟨q27, e27, h⟩ := bnd_some h
      refine G_callV2r (pc := 80) 0 7 dX8_digest_80 wv_X8_284 cd_X8_digestThing (S_X8_digestThing _ _ _ _ e27) (by decide) (by decide) rfl (by decide) (fun _ _ => ⟨_, rfl⟩) (Nat.le_of_ble_eq_true rfl) ?_
      refine G_lstore_n (pc := 83) [(1, .long _), (0, .ref _), (3, .int _)] dX8_digest_83 (Nat.le_of_ble_eq_true rfl) rfl ?_
      refine G_iinc (pc := 84) (1) 2 [(3, .int _), (1, .long _), (0, .ref _)] dX8_digest_84 ci_1 rfl (Nat.le_of_ble_eq_true rfl) rfl ?_
      refine G_goto (pc := 87) 66 dX8_digest_87 (by decide) ?_
      refine G_loc [2, 1, 0] [(0, .ref _), (1, .long _), (3, .int _)] rfl ?_
      exact ih _ _ _ _ h
def L_X8_digest_31 : Nat → Int64 → Int32 → Mm → Option (Int64 × Mm)
  | 0, _, _, _ => none
  | n + 1, x1, x3, μ => if 3 ≤ x3 then (F_X8_digestWeeks x1 μ).bind (fun q3 => (F_X8_weighBests 5 q3.2).bind (fun q4 => L_X8_digest_66 FUEL q3.1 0 q4)) else (F_X8_fault x3 μ).bind (fun q28 => (F_X8_mix x1 q28.1.toInt64 q28.2).bind (fun q29 => L_X8_digest_31 n q29.1 (x3 + 1) q29.2))
set_option maxRecDepth 100000 in
set_option maxHeartbeats 4000000 in
theorem L_X8_digest_31_s (n : Nat) (x1 : Int64) (x3 : Int32) (μ : Mm) : L_X8_digest_31  (n + 1) x1 x3 μ = (if 3 ≤ x3 then (F_X8_digestWeeks x1 μ).bind (fun q3 => (F_X8_weighBests 5 q3.2).bind (fun q4 => L_X8_digest_66 FUEL q3.1 0 q4)) else (F_X8_fault x3 μ).bind (fun q28 => (F_X8_mix x1 q28.1.toInt64 q28.2).bind (fun q29 => L_X8_digest_31 n q29.1 (x3 + 1) q29.2))) := rfl
set_option maxRecDepth 100000 in
set_option maxHeartbeats 4000000 in
theorem B_X8_digest_31 : ∀ (n : Nat) (x1 : Int64) (x3 : Int32) (μ : Mm) (q : (Int64 × Mm)), L_X8_digest_31  n x1 x3 μ = some q → G wC RX8 cX8_digest 4 (some .long) 7 (some (.long q.1)) q.2 31 [(0, .ref 0), (1, .long x1), (3, .int x3)] [] μ := by
  intro n
  induction n with
  | zero =>
    intro x1 x3 μ q  h
    cases h
  | succ n ih =>
    intro x1 x3 μ q  h
    rw [L_X8_digest_31_s] at h
    refine G_iload_n (pc := 31) 2 dX8_digest_31 rfl ?_
    refine G_iconst (pc := 32) (3) dX8_digest_32 ci_3 ?_
    refine G_icmp_ge (pc := 33) 53 dX8_digest_33 (by decide) (fun c2 => ?_) (fun c2 => ?_)
    · replace h := itp c2 h
      refine G_aload_n (pc := 53) 0 dX8_digest_53 rfl ?_
      refine G_lload_n (pc := 54) 1 dX8_digest_54 rfl ?_
      obtain ⟨q3, e3, h⟩ := bnd_some h
      refine G_callV1r (pc := 55) 0 7 dX8_digest_55 wv_X8_280 cd_X8_digestWeeks (S_X8_digestWeeks _ _ _ e3) (by decide) (by decide) rfl (by decide) (fun _ _ => ⟨_, rfl⟩) (Nat.le_of_ble_eq_true rfl) ?_
      refine G_lstore_n (pc := 58) [(1, .long _), (0, .ref _), (3, .int _)] dX8_digest_58 (Nat.le_of_ble_eq_true rfl) rfl ?_
      refine G_aload_n (pc := 59) 1 dX8_digest_59 rfl ?_
      refine G_iconst (pc := 60) (5) dX8_digest_60 ci_5 ?_
      obtain ⟨q4, e4, h⟩ := bnd_some h
      refine G_callV1v (pc := 61) 0 7 dX8_digest_61 wv_X8_225 cd_X8_weighBests (S_X8_weighBests _ _ _ e4) (by decide) (by decide) rfl (by decide) (fun _ _ => ⟨_, rfl⟩) (Nat.le_of_ble_eq_true rfl) ?_
      refine G_iconst (pc := 64) (0) dX8_digest_64 ci_0 ?_
      refine G_istore_n (pc := 65) [(3, .int _), (1, .long _), (0, .ref _)] dX8_digest_65 (Nat.le_of_ble_eq_true rfl) rfl ?_
      refine G_loc [2, 1, 0] [(0, .ref _), (1, .long _), (3, .int _)] rfl ?_
      exact B_X8_digest_66 _ _ _ _ _ h
    · replace h := itn c2 h
      refine G_lload_n (pc := 36) 1 dX8_digest_36 rfl ?_
      refine G_aload_n (pc := 37) 0 dX8_digest_37 rfl ?_
      refine G_iload_n (pc := 38) 2 dX8_digest_38 rfl ?_
      obtain ⟨q28, e28, h⟩ := bnd_some h
      refine G_callV1r (pc := 39) 0 7 dX8_digest_39 wv_X8_277 cd_X8_fault (S_X8_fault _ _ _ e28) (by decide) (by decide) rfl (by decide) (fun _ _ => ⟨_, rfl⟩) (Nat.le_of_ble_eq_true rfl) ?_
      refine G_i2l (pc := 42) dX8_digest_42 ?_
      obtain ⟨q29, e29, h⟩ := bnd_some h
      refine G_callS2r (pc := 43) dX8_digest_43 ws_X8_273 cd_X8_mix (S_X8_mix _ _ _ _ e29) (by decide) (by decide) (Nat.le_of_ble_eq_true rfl) ?_
      refine G_lstore_n (pc := 46) [(1, .long _), (0, .ref _), (3, .int _)] dX8_digest_46 (Nat.le_of_ble_eq_true rfl) rfl ?_
      refine G_iinc (pc := 47) (1) 2 [(3, .int _), (1, .long _), (0, .ref _)] dX8_digest_47 ci_1 rfl (Nat.le_of_ble_eq_true rfl) rfl ?_
      refine G_goto (pc := 50) 31 dX8_digest_50 (by decide) ?_
      refine G_loc [2, 1, 0] [(0, .ref _), (1, .long _), (3, .int _)] rfl ?_
      exact ih _ _ _ _ h
def L_X8_digest_6 : Nat → Int64 → Int32 → Mm → Option (Int64 × Mm)
  | 0, _, _, _ => none
  | n + 1, x1, x3, μ => if 8 ≤ x3 then L_X8_digest_31 FUEL x1 0 μ else (F_X8_count x3 μ).bind (fun q30 => (F_X8_mix x1 q30.1.toInt64 q30.2).bind (fun q31 => L_X8_digest_6 n q31.1 (x3 + 1) q31.2))
set_option maxRecDepth 100000 in
set_option maxHeartbeats 4000000 in
theorem L_X8_digest_6_s (n : Nat) (x1 : Int64) (x3 : Int32) (μ : Mm) : L_X8_digest_6  (n + 1) x1 x3 μ = (if 8 ≤ x3 then L_X8_digest_31 FUEL x1 0 μ else (F_X8_count x3 μ).bind (fun q30 => (F_X8_mix x1 q30.1.toInt64 q30.2).bind (fun q31 => L_X8_digest_6 n q31.1 (x3 + 1) q31.2))) := rfl
set_option maxRecDepth 100000 in
set_option maxHeartbeats 4000000 in
theorem B_X8_digest_6 : ∀ (n : Nat) (x1 : Int64) (x3 : Int32) (μ : Mm) (q : (Int64 × Mm)), L_X8_digest_6  n x1 x3 μ = some q → G wC RX8 cX8_digest 4 (some .long) 7 (some (.long q.1)) q.2 6 [(0, .ref 0), (1, .long x1), (3, .int x3)] [] μ := by
  intro n
  induction n with
  | zero =>
    intro x1 x3 μ q  h
    cases h
  | succ n ih =>
    intro x1 x3 μ q  h
    rw [L_X8_digest_6_s] at h
    refine G_iload_n (pc := 6) 2 dX8_digest_6 rfl ?_
    refine G_bipush (pc := 7) (8) dX8_digest_7 bp_8 ?_
    refine G_icmp_ge (pc := 9) 29 dX8_digest_9 (by decide) (fun c1 => ?_) (fun c1 => ?_)
    · replace h := itp c1 h
      refine G_iconst (pc := 29) (0) dX8_digest_29 ci_0 ?_
      refine G_istore_n (pc := 30) [(3, .int _), (0, .ref _), (1, .long _)] dX8_digest_30 (Nat.le_of_ble_eq_true rfl) rfl ?_
      refine G_loc [1, 2, 0] [(0, .ref _), (1, .long _), (3, .int _)] rfl ?_
      exact B_X8_digest_31 _ _ _ _ _ h
    · replace h := itn c1 h
      refine G_lload_n (pc := 12) 1 dX8_digest_12 rfl ?_
      refine G_aload_n (pc := 13) 0 dX8_digest_13 rfl ?_
      refine G_iload_n (pc := 14) 2 dX8_digest_14 rfl ?_
      obtain ⟨q30, e30, h⟩ := bnd_some h
      refine G_callV1r (pc := 15) 0 7 dX8_digest_15 wv_X8_270 cd_X8_count (S_X8_count _ _ _ e30) (by decide) (by decide) rfl (by decide) (fun _ _ => ⟨_, rfl⟩) (Nat.le_of_ble_eq_true rfl) ?_
      refine G_i2l (pc := 18) dX8_digest_18 ?_
      obtain ⟨q31, e31, h⟩ := bnd_some h
      refine G_callS2r (pc := 19) dX8_digest_19 ws_X8_273 cd_X8_mix (S_X8_mix _ _ _ _ e31) (by decide) (by decide) (Nat.le_of_ble_eq_true rfl) ?_
      refine G_lstore_n (pc := 22) [(1, .long _), (0, .ref _), (3, .int _)] dX8_digest_22 (Nat.le_of_ble_eq_true rfl) rfl ?_
      refine G_iinc (pc := 23) (1) 2 [(3, .int _), (1, .long _), (0, .ref _)] dX8_digest_23 ci_1 rfl (Nat.le_of_ble_eq_true rfl) rfl ?_
      refine G_goto (pc := 26) 6 dX8_digest_26 (by decide) ?_
      refine G_loc [2, 1, 0] [(0, .ref _), (1, .long _), (3, .int _)] rfl ?_
      exact ih _ _ _ _ h
def F_X8_digest  (μ : Mm) : Option (Int64 × Mm) := L_X8_digest_6 FUEL 17 0 μ
set_option maxRecDepth 100000 in
set_option maxHeartbeats 4000000 in
theorem S_X8_digest   (μ : Mm) (q : (Int64 × Mm)) (h : F_X8_digest  μ = some q) : Cn wC yX8_digest cX8_digest 4 (some .long) 7 [.ref 0] μ (some (.long q.1)) q.2 := by
  refine Cn_of (by decide +kernel) (Nat.le_of_ble_eq_true rfl) ?_
  show G wC RX8 cX8_digest 4 (some .long) 7 (some (.long q.1)) q.2 0 [(0, .ref 0)] [] μ
  unfold F_X8_digest at h
  refine G_ldc2 (pc := 0) (17) dX8_digest_0 kl_X8_268 ?_
  refine G_lstore_n (pc := 3) [(1, .long _), (0, .ref _)] dX8_digest_3 (Nat.le_of_ble_eq_true rfl) rfl ?_
  refine G_iconst (pc := 4) (0) dX8_digest_4 ci_0 ?_
  refine G_istore_n (pc := 5) [(3, .int _), (1, .long _), (0, .ref _)] dX8_digest_5 (Nat.le_of_ble_eq_true rfl) rfl ?_
  refine G_loc [2, 1, 0] [(0, .ref _), (1, .long _), (3, .int _)] rfl ?_
  exact B_X8_digest_6 _ _ _ _ _ h
def F_X9_in (x0 : Int64) (x2 : Int64) (x4 : Int64) (μ : Mm) : Option (Int32 × Mm) := some ((if (lg_cmp x0 x2) < 0 then 0 else (if 0 < (lg_cmp x0 x4) then 0 else 1)), μ)
set_option maxRecDepth 100000 in
set_option maxHeartbeats 4000000 in
theorem S_X9_in (x0 : Int64) (x2 : Int64) (x4 : Int64)  (μ : Mm) (q : (Int32 × Mm)) (h : F_X9_in x0 x2 x4 μ = some q) : Cn wM yX9_in cX9_in 6 (some .boolean) 0 [.long x0, .long x2, .long x4] μ (some (.int q.1)) q.2 := by
  refine Cn_of (by decide +kernel) (Nat.le_of_ble_eq_true rfl) ?_
  show G wM RX9 cX9_in 6 (some .boolean) 0 (some (.int q.1)) q.2 0 [(0, .long x0), (2, .long x2), (4, .long x4)] [] μ
  unfold F_X9_in at h
  refine G_lload_n (pc := 0) 0 dX9_in_0 rfl ?_
  refine G_lload_n (pc := 1) 1 dX9_in_1 rfl ?_
  refine G_lcmp (pc := 2) dX9_in_2 ?_
  refine G_if_lt (pc := 3) 17 dX9_in_3 (by decide) (fun c1 => ?_) (fun c1 => ?_)
  · rw [if_pos c1] at h
    refine G_iconst (pc := 17) (0) dX9_in_17 ci_0 ?_
    obtain rfl := Option.some.inj h
    exact G_zret (pc := 18) rfl (Or.inl rfl) dX9_in_18
  · rw [if_neg c1] at h
    refine G_lload_n (pc := 6) 0 dX9_in_6 rfl ?_
    refine G_lload (pc := 7) 2 dX9_in_7 rfl ?_
    refine G_lcmp (pc := 9) dX9_in_9 ?_
    refine G_if_gt (pc := 10) 17 dX9_in_10 (by decide) (fun c2 => ?_) (fun c2 => ?_)
    · rw [if_pos c2] at h
      refine G_iconst (pc := 17) (0) dX9_in_17 ci_0 ?_
      obtain rfl := Option.some.inj h
      exact G_zret (pc := 18) rfl (Or.inl rfl) dX9_in_18
    · rw [if_neg c2] at h
      refine G_iconst (pc := 13) (1) dX9_in_13 ci_1 ?_
      refine G_goto (pc := 14) 18 dX9_in_14 (by decide) ?_
      obtain rfl := Option.some.inj h
      exact G_zret (pc := 18) rfl (Or.inr rfl) dX9_in_18
def F_X9_isSheet (x0 : Int32) (μ : Mm) : Option (Int32 × Mm) := (F_X9_in x0.toInt64 0 3 μ).bind (fun q1 => gb q1.1 (some (q1.1, q1.2)))
set_option maxRecDepth 100000 in
set_option maxHeartbeats 4000000 in
theorem S_X9_isSheet (x0 : Int32)  (μ : Mm) (q : (Int32 × Mm)) (h : F_X9_isSheet x0 μ = some q) : Cn wM yX9_isSheet cX9_isSheet 1 (some .boolean) 1 [.int x0] μ (some (.int q.1)) q.2 := by
  refine Cn_of (by decide +kernel) (Nat.le_of_ble_eq_true rfl) ?_
  show G wM RX9 cX9_isSheet 1 (some .boolean) 1 (some (.int q.1)) q.2 0 [(0, .int x0)] [] μ
  unfold F_X9_isSheet at h
  refine G_iload_n (pc := 0) 0 dX9_isSheet_0 rfl ?_
  refine G_i2l (pc := 1) dX9_isSheet_1 ?_
  refine G_lconst (pc := 2) (0) dX9_isSheet_2 lc_0 ?_
  refine G_ldc2 (pc := 3) (3) dX9_isSheet_3 kl_X9_99 ?_
  obtain ⟨q1, e1, h⟩ := bnd_some h
  refine G_callS3r (pc := 6) dX9_isSheet_6 ws_X9_92 cd_X9_in (S_X9_in _ _ _ _ _ e1) (by decide) (by decide) (Nat.le_of_ble_eq_true rfl) ?_
  obtain ⟨g2, h⟩ := gb_some h
  obtain rfl := Option.some.inj h
  exact G_zret (pc := 9) rfl g2 dX9_isSheet_9
def F_X9_finds (x1 : Int32) (μ : Mm) : Option (Int32 × Mm) := some (((-10) - x1), (wI μ 0 4 x1))
set_option maxRecDepth 100000 in
set_option maxHeartbeats 4000000 in
theorem S_X9_finds (x1 : Int32)  (μ : Mm) (q : (Int32 × Mm)) (h : F_X9_finds x1 μ = some q) : Cn wM yX9_finds cX9_finds 2 (some .int) 0 [.ref 0, .int x1] μ (some (.int q.1)) q.2 := by
  refine Cn_of (by decide +kernel) (Nat.le_of_ble_eq_true rfl) ?_
  show G wM RX9 cX9_finds 2 (some .int) 0 (some (.int q.1)) q.2 0 [(0, .ref 0), (1, .int x1)] [] μ
  unfold F_X9_finds at h
  refine G_aload_n (pc := 0) 0 dX9_finds_0 rfl ?_
  refine G_iload_n (pc := 1) 1 dX9_finds_1 rfl ?_
  refine pwM_X9_96_0 (pc := 2) dX9_finds_2 ?_
  refine G_bipush (pc := 5) (-10) dX9_finds_5 bp_m10 ?_
  refine G_iload_n (pc := 7) 1 dX9_finds_7 rfl ?_
  refine G_isub (pc := 8) dX9_finds_8 ?_
  obtain rfl := Option.some.inj h
  exact G_iret (pc := 9) rfl dX9_finds_9
def L_X9_sheet_55 : Nat → Int32 → Int32 → Int32 → Mm → Option (Int32 × Mm)
  | 0, _, _, _, _ => none
  | n + 1, x1, x3, x4, μ => if x3 ≤ x4 then some (x3, μ) else gi ((60 * x1) + x4) 240 (L_X9_sheet_55 n x1 x3 (x4 + 1) (wI μ 3 ((60 * x1) + x4).toNatClampNeg 0))
set_option maxRecDepth 100000 in
set_option maxHeartbeats 4000000 in
theorem L_X9_sheet_55_s (n : Nat) (x1 : Int32) (x3 : Int32) (x4 : Int32) (μ : Mm) : L_X9_sheet_55  (n + 1) x1 x3 x4 μ = (if x3 ≤ x4 then some (x3, μ) else gi ((60 * x1) + x4) 240 (L_X9_sheet_55 n x1 x3 (x4 + 1) (wI μ 3 ((60 * x1) + x4).toNatClampNeg 0))) := rfl
set_option maxRecDepth 100000 in
set_option maxHeartbeats 4000000 in
theorem B_X9_sheet_55 : ∀ (n : Nat) (x1 : Int32) (x3 : Int32) (x4 : Int32) (μ : Mm) (q : (Int32 × Mm)), L_X9_sheet_55  n x1 x3 x4 μ = some q → G wM RX9 cX9_sheet 5 (some .int) 2 (some (.int q.1)) q.2 55 [(0, .ref 0), (1, .int x1), (3, .int x3), (4, .int x4)] [] μ := by
  intro n
  induction n with
  | zero =>
    intro x1 x3 x4 μ q  h
    cases h
  | succ n ih =>
    intro x1 x3 x4 μ q  h
    rw [L_X9_sheet_55_s] at h
    refine G_iload (pc := 55) 3 dX9_sheet_55 rfl ?_
    refine G_iload_n (pc := 57) 2 dX9_sheet_57 rfl ?_
    refine G_icmp_ge (pc := 58) 80 dX9_sheet_58 (by decide) (fun c9 => ?_) (fun c9 => ?_)
    · replace h := itp c9 h
      refine G_iload_n (pc := 80) 2 dX9_sheet_80 rfl ?_
      obtain rfl := Option.some.inj h
      exact G_iret (pc := 81) rfl dX9_sheet_81
    · replace h := itn c9 h
      refine G_aload_n (pc := 61) 0 dX9_sheet_61 rfl ?_
      refine gwM_X9_16_0 (pc := 62) dX9_sheet_62 ?_
      refine G_bipush (pc := 65) (60) dX9_sheet_65 bp_60 ?_
      refine G_iload_n (pc := 67) 1 dX9_sheet_67 rfl ?_
      refine G_imul (pc := 68) dX9_sheet_68 ?_
      refine G_iload (pc := 69) 3 dX9_sheet_69 rfl ?_
      refine G_iadd (pc := 71) dX9_sheet_71 ?_
      refine G_iconst (pc := 72) (0) dX9_sheet_72 ci_0 ?_
      obtain ⟨g10, h⟩ := gi_some h
      refine aswM_3 (pc := 73) dX9_sheet_73 g10 ?_
      refine G_iinc (pc := 74) (1) 3 [(4, .int _), (0, .ref _), (1, .int _), (3, .int _)] dX9_sheet_74 ci_1 rfl (Nat.le_of_ble_eq_true rfl) rfl ?_
      refine G_goto (pc := 77) 55 dX9_sheet_77 (by decide) ?_
      refine G_loc [1, 2, 3, 0] [(0, .ref _), (1, .int _), (3, .int _), (4, .int _)] rfl ?_
      exact ih _ _ _ _ _ h
def F_X9_sheet (x1 : Int32) (x2 : Int32) (x3 : Int32) (μ : Mm) : Option (Int32 × Mm) := (F_X9_isSheet x1 μ).bind (fun q1 => if q1.1 = 0 then some ((-2), q1.2) else (F_X9_in x2.toInt64 0 2 q1.2).bind (fun q3 => if q3.1 = 0 then some ((-2), q3.2) else if x3 ≤ 60 then if 0 ≤ x3 then gi x1 4 (gi x1 4 (L_X9_sheet_55 FUEL x1 x3 0 (wI (wI q3.2 1 x1.toNatClampNeg x2) 2 x1.toNatClampNeg x3))) else (F_X9_finds 5 q3.2).bind (fun q11 => some (q11.1, q11.2)) else some ((-2), q3.2)))
set_option maxRecDepth 100000 in
set_option maxHeartbeats 4000000 in
theorem S_X9_sheet (x1 : Int32) (x2 : Int32) (x3 : Int32)  (μ : Mm) (q : (Int32 × Mm)) (h : F_X9_sheet x1 x2 x3 μ = some q) : Cn wM yX9_sheet cX9_sheet 5 (some .int) 2 [.ref 0, .int x1, .int x2, .int x3] μ (some (.int q.1)) q.2 := by
  refine Cn_of (by decide +kernel) (Nat.le_of_ble_eq_true rfl) ?_
  show G wM RX9 cX9_sheet 5 (some .int) 2 (some (.int q.1)) q.2 0 [(0, .ref 0), (1, .int x1), (2, .int x2), (3, .int x3)] [] μ
  unfold F_X9_sheet at h
  refine G_iload_n (pc := 0) 1 dX9_sheet_0 rfl ?_
  obtain ⟨q1, e1, h⟩ := bnd_some h
  refine G_callS1r (pc := 1) dX9_sheet_1 ws_X9_101 cd_X9_isSheet (S_X9_isSheet _ _ _ e1) (by decide) (by decide) (Nat.le_of_ble_eq_true rfl) ?_
  refine G_if_eq (pc := 4) 25 dX9_sheet_4 (by decide) (fun c2 => ?_) (fun c2 => ?_)
  · replace h := itp c2 h
    refine G_bipush (pc := 25) (-2) dX9_sheet_25 bp_m2 ?_
    obtain rfl := Option.some.inj h
    exact G_iret (pc := 27) rfl dX9_sheet_27
  · replace h := itn c2 h
    refine G_iload_n (pc := 7) 2 dX9_sheet_7 rfl ?_
    refine G_i2l (pc := 8) dX9_sheet_8 ?_
    refine G_lconst (pc := 9) (0) dX9_sheet_9 lc_0 ?_
    refine G_ldc2 (pc := 10) (2) dX9_sheet_10 kl_X9_105 ?_
    obtain ⟨q3, e3, h⟩ := bnd_some h
    refine G_callS3r (pc := 13) dX9_sheet_13 ws_X9_92 cd_X9_in (S_X9_in _ _ _ _ _ e3) (by decide) (by decide) (Nat.le_of_ble_eq_true rfl) ?_
    refine G_if_eq (pc := 16) 25 dX9_sheet_16 (by decide) (fun c4 => ?_) (fun c4 => ?_)
    · replace h := itp c4 h
      refine G_bipush (pc := 25) (-2) dX9_sheet_25 bp_m2 ?_
      obtain rfl := Option.some.inj h
      exact G_iret (pc := 27) rfl dX9_sheet_27
    · replace h := itn c4 h
      refine G_iload_n (pc := 19) 3 dX9_sheet_19 rfl ?_
      refine G_bipush (pc := 20) (60) dX9_sheet_20 bp_60 ?_
      refine G_icmp_le (pc := 22) 28 dX9_sheet_22 (by decide) (fun c5 => ?_) (fun c5 => ?_)
      · replace h := itp c5 h
        refine G_iload_n (pc := 28) 3 dX9_sheet_28 rfl ?_
        refine G_if_ge (pc := 29) 38 dX9_sheet_29 (by decide) (fun c6 => ?_) (fun c6 => ?_)
        · replace h := itp c6 h
          refine G_aload_n (pc := 38) 0 dX9_sheet_38 rfl ?_
          refine gwM_X9_7_0 (pc := 39) dX9_sheet_39 ?_
          refine G_iload_n (pc := 42) 1 dX9_sheet_42 rfl ?_
          refine G_iload_n (pc := 43) 2 dX9_sheet_43 rfl ?_
          obtain ⟨g7, h⟩ := gi_some h
          refine aswM_1 (pc := 44) dX9_sheet_44 g7 ?_
          refine G_aload_n (pc := 45) 0 dX9_sheet_45 rfl ?_
          refine gwM_X9_13_0 (pc := 46) dX9_sheet_46 ?_
          refine G_iload_n (pc := 49) 1 dX9_sheet_49 rfl ?_
          refine G_iload_n (pc := 50) 3 dX9_sheet_50 rfl ?_
          obtain ⟨g8, h⟩ := gi_some h
          refine aswM_2 (pc := 51) dX9_sheet_51 g8 ?_
          refine G_iconst (pc := 52) (0) dX9_sheet_52 ci_0 ?_
          refine G_istore (pc := 53) [(4, .int _), (0, .ref _), (1, .int _), (2, .int _), (3, .int _)] dX9_sheet_53 (Nat.le_of_ble_eq_true rfl) rfl ?_
          refine G_loc [1, 2, 4, 0] [(0, .ref _), (1, .int _), (3, .int _), (4, .int _)] rfl ?_
          exact B_X9_sheet_55 _ _ _ _ _ _ h
        · replace h := itn c6 h
          refine G_aload_n (pc := 32) 0 dX9_sheet_32 rfl ?_
          refine G_iconst (pc := 33) (5) dX9_sheet_33 ci_5 ?_
          obtain ⟨q11, e11, h⟩ := bnd_some h
          refine G_callV1r (pc := 34) 0 8 dX9_sheet_34 wv_X9_107 cd_X9_finds (S_X9_finds _ _ _ e11) (by decide) (by decide) rfl (by decide) (fun _ _ => ⟨_, rfl⟩) (Nat.le_of_ble_eq_true rfl) ?_
          obtain rfl := Option.some.inj h
          exact G_iret (pc := 37) rfl dX9_sheet_37
      · replace h := itn c5 h
        refine G_bipush (pc := 25) (-2) dX9_sheet_25 bp_m2 ?_
        obtain rfl := Option.some.inj h
        exact G_iret (pc := 27) rfl dX9_sheet_27
def F_X9_lose (x1 : Int32) (μ : Mm) : Option (Int32 × Mm) := (F_X9_isSheet x1 μ).bind (fun q1 => if q1.1 = 0 then some ((-2), q1.2) else gi x1 4 (if 0 ≤ (q1.2.1 1 x1.toNatClampNeg) then gi x1 4 (gi x1 4 (some (((wI q1.2 1 x1.toNatClampNeg (-1)).1 2 x1.toNatClampNeg), (wI q1.2 1 x1.toNatClampNeg (-1))))) else (F_X9_finds 1 q1.2).bind (fun q7 => some (q7.1, q7.2))))
set_option maxRecDepth 100000 in
set_option maxHeartbeats 4000000 in
theorem S_X9_lose (x1 : Int32)  (μ : Mm) (q : (Int32 × Mm)) (h : F_X9_lose x1 μ = some q) : Cn wM yX9_lose cX9_lose 2 (some .int) 2 [.ref 0, .int x1] μ (some (.int q.1)) q.2 := by
  refine Cn_of (by decide +kernel) (Nat.le_of_ble_eq_true rfl) ?_
  show G wM RX9 cX9_lose 2 (some .int) 2 (some (.int q.1)) q.2 0 [(0, .ref 0), (1, .int x1)] [] μ
  unfold F_X9_lose at h
  refine G_iload_n (pc := 0) 1 dX9_lose_0 rfl ?_
  obtain ⟨q1, e1, h⟩ := bnd_some h
  refine G_callS1r (pc := 1) dX9_lose_1 ws_X9_101 cd_X9_isSheet (S_X9_isSheet _ _ _ e1) (by decide) (by decide) (Nat.le_of_ble_eq_true rfl) ?_
  refine G_if_ne (pc := 4) 10 dX9_lose_4 (by decide) (fun c2 => ?_) (fun c2 => ?_)
  · replace h := itn c2 h
    refine G_aload_n (pc := 10) 0 dX9_lose_10 rfl ?_
    refine gwM_X9_7_0 (pc := 11) dX9_lose_11 ?_
    refine G_iload_n (pc := 14) 1 dX9_lose_14 rfl ?_
    obtain ⟨g3, h⟩ := gi_some h
    refine alwM_1 (pc := 15) dX9_lose_15 g3 ?_
    refine G_if_ge (pc := 16) 25 dX9_lose_16 (by decide) (fun c4 => ?_) (fun c4 => ?_)
    · replace h := itp c4 h
      refine G_aload_n (pc := 25) 0 dX9_lose_25 rfl ?_
      refine gwM_X9_7_0 (pc := 26) dX9_lose_26 ?_
      refine G_iload_n (pc := 29) 1 dX9_lose_29 rfl ?_
      refine G_iconst (pc := 30) (-1) dX9_lose_30 ci_m1 ?_
      obtain ⟨g5, h⟩ := gi_some h
      refine aswM_1 (pc := 31) dX9_lose_31 g5 ?_
      refine G_aload_n (pc := 32) 0 dX9_lose_32 rfl ?_
      refine gwM_X9_13_0 (pc := 33) dX9_lose_33 ?_
      refine G_iload_n (pc := 36) 1 dX9_lose_36 rfl ?_
      obtain ⟨g6, h⟩ := gi_some h
      refine alwM_2 (pc := 37) dX9_lose_37 g6 ?_
      obtain rfl := Option.some.inj h
      exact G_iret (pc := 38) rfl dX9_lose_38
    · replace h := itn c4 h
      refine G_aload_n (pc := 19) 0 dX9_lose_19 rfl ?_
      refine G_iconst (pc := 20) (1) dX9_lose_20 ci_1 ?_
      obtain ⟨q7, e7, h⟩ := bnd_some h
      refine G_callV1r (pc := 21) 0 8 dX9_lose_21 wv_X9_107 cd_X9_finds (S_X9_finds _ _ _ e7) (by decide) (by decide) rfl (by decide) (fun _ _ => ⟨_, rfl⟩) (Nat.le_of_ble_eq_true rfl) ?_
      obtain rfl := Option.some.inj h
      exact G_iret (pc := 24) rfl dX9_lose_24
  · replace h := itp c2 h
    refine G_bipush (pc := 7) (-2) dX9_lose_7 bp_m2 ?_
    obtain rfl := Option.some.inj h
    exact G_iret (pc := 9) rfl dX9_lose_9
def F_X9_lacks (x1 : Int32) (x2 : Int32) (x3 : Int32) (μ : Mm) : Option (Int32 × Mm) := gi x1 4 (if 0 ≤ (μ.1 1 x1.toNatClampNeg) then gi x1 4 (if (μ.1 1 x1.toNatClampNeg) = x2 then gi x1 4 ((F_X9_in x3.toInt64 0 (((μ.1 2 x1.toNatClampNeg) - 1).toInt64) μ).bind (fun q6 => if q6.1 = 0 then (F_X9_finds 2 q6.2).bind (fun q8 => some (q8.1, q8.2)) else some (0, q6.2))) else (F_X9_finds 3 μ).bind (fun q9 => some (q9.1, q9.2))) else (F_X9_finds 1 μ).bind (fun q10 => some (q10.1, q10.2)))
set_option maxRecDepth 100000 in
set_option maxHeartbeats 4000000 in
theorem S_X9_lacks (x1 : Int32) (x2 : Int32) (x3 : Int32)  (μ : Mm) (q : (Int32 × Mm)) (h : F_X9_lacks x1 x2 x3 μ = some q) : Cn wM yX9_lacks cX9_lacks 4 (some .int) 1 [.ref 0, .int x1, .int x2, .int x3] μ (some (.int q.1)) q.2 := by
  refine Cn_of (by decide +kernel) (Nat.le_of_ble_eq_true rfl) ?_
  show G wM RX9 cX9_lacks 4 (some .int) 1 (some (.int q.1)) q.2 0 [(0, .ref 0), (1, .int x1), (2, .int x2), (3, .int x3)] [] μ
  unfold F_X9_lacks at h
  refine G_aload_n (pc := 0) 0 dX9_lacks_0 rfl ?_
  refine gwM_X9_7_0 (pc := 1) dX9_lacks_1 ?_
  refine G_iload_n (pc := 4) 1 dX9_lacks_4 rfl ?_
  obtain ⟨g1, h⟩ := gi_some h
  refine alwM_1 (pc := 5) dX9_lacks_5 g1 ?_
  refine G_if_ge (pc := 6) 15 dX9_lacks_6 (by decide) (fun c2 => ?_) (fun c2 => ?_)
  · replace h := itp c2 h
    refine G_aload_n (pc := 15) 0 dX9_lacks_15 rfl ?_
    refine gwM_X9_7_0 (pc := 16) dX9_lacks_16 ?_
    refine G_iload_n (pc := 19) 1 dX9_lacks_19 rfl ?_
    obtain ⟨g3, h⟩ := gi_some h
    refine alwM_1 (pc := 20) dX9_lacks_20 g3 ?_
    refine G_iload_n (pc := 21) 2 dX9_lacks_21 rfl ?_
    refine G_icmp_eq (pc := 22) 31 dX9_lacks_22 (by decide) (fun c4 => ?_) (fun c4 => ?_)
    · replace h := itp c4 h
      refine G_iload_n (pc := 31) 3 dX9_lacks_31 rfl ?_
      refine G_i2l (pc := 32) dX9_lacks_32 ?_
      refine G_lconst (pc := 33) (0) dX9_lacks_33 lc_0 ?_
      refine G_aload_n (pc := 34) 0 dX9_lacks_34 rfl ?_
      refine gwM_X9_13_0 (pc := 35) dX9_lacks_35 ?_
      refine G_iload_n (pc := 38) 1 dX9_lacks_38 rfl ?_
      obtain ⟨g5, h⟩ := gi_some h
      refine alwM_2 (pc := 39) dX9_lacks_39 g5 ?_
      refine G_iconst (pc := 40) (1) dX9_lacks_40 ci_1 ?_
      refine G_isub (pc := 41) dX9_lacks_41 ?_
      refine G_i2l (pc := 42) dX9_lacks_42 ?_
      obtain ⟨q6, e6, h⟩ := bnd_some h
      refine G_callS3r (pc := 43) dX9_lacks_43 ws_X9_92 cd_X9_in (S_X9_in _ _ _ _ _ e6) (by decide) (by decide) (Nat.le_of_ble_eq_true rfl) ?_
      refine G_if_eq (pc := 46) 53 dX9_lacks_46 (by decide) (fun c7 => ?_) (fun c7 => ?_)
      · replace h := itp c7 h
        refine G_aload_n (pc := 53) 0 dX9_lacks_53 rfl ?_
        refine G_iconst (pc := 54) (2) dX9_lacks_54 ci_2 ?_
        obtain ⟨q8, e8, h⟩ := bnd_some h
        refine G_callV1r (pc := 55) 0 8 dX9_lacks_55 wv_X9_107 cd_X9_finds (S_X9_finds _ _ _ e8) (by decide) (by decide) rfl (by decide) (fun _ _ => ⟨_, rfl⟩) (Nat.le_of_ble_eq_true rfl) ?_
        obtain rfl := Option.some.inj h
        exact G_iret (pc := 58) rfl dX9_lacks_58
      · replace h := itn c7 h
        refine G_iconst (pc := 49) (0) dX9_lacks_49 ci_0 ?_
        refine G_goto (pc := 50) 58 dX9_lacks_50 (by decide) ?_
        obtain rfl := Option.some.inj h
        exact G_iret (pc := 58) rfl dX9_lacks_58
    · replace h := itn c4 h
      refine G_aload_n (pc := 25) 0 dX9_lacks_25 rfl ?_
      refine G_iconst (pc := 26) (3) dX9_lacks_26 ci_3 ?_
      obtain ⟨q9, e9, h⟩ := bnd_some h
      refine G_callV1r (pc := 27) 0 8 dX9_lacks_27 wv_X9_107 cd_X9_finds (S_X9_finds _ _ _ e9) (by decide) (by decide) rfl (by decide) (fun _ _ => ⟨_, rfl⟩) (Nat.le_of_ble_eq_true rfl) ?_
      obtain rfl := Option.some.inj h
      exact G_iret (pc := 30) rfl dX9_lacks_30
  · replace h := itn c2 h
    refine G_aload_n (pc := 9) 0 dX9_lacks_9 rfl ?_
    refine G_iconst (pc := 10) (1) dX9_lacks_10 ci_1 ?_
    obtain ⟨q10, e10, h⟩ := bnd_some h
    refine G_callV1r (pc := 11) 0 8 dX9_lacks_11 wv_X9_107 cd_X9_finds (S_X9_finds _ _ _ e10) (by decide) (by decide) rfl (by decide) (fun _ _ => ⟨_, rfl⟩) (Nat.le_of_ble_eq_true rfl) ?_
    obtain rfl := Option.some.inj h
    exact G_iret (pc := 14) rfl dX9_lacks_14
def F_X9_cut (x0 : Int32) (x1 : Int32) (μ : Mm) : Option (Int32 × Mm) := some ((if x0 = 0 then x1.toInt8.toInt32 else (if x0 = 1 then x1.toInt16.toInt32 else x1)), μ)
set_option maxRecDepth 100000 in
set_option maxHeartbeats 4000000 in
theorem S_X9_cut (x0 : Int32) (x1 : Int32)  (μ : Mm) (q : (Int32 × Mm)) (h : F_X9_cut x0 x1 μ = some q) : Cn wM yX9_cut cX9_cut 2 (some .int) 0 [.int x0, .int x1] μ (some (.int q.1)) q.2 := by
  refine Cn_of (by decide +kernel) (Nat.le_of_ble_eq_true rfl) ?_
  show G wM RX9 cX9_cut 2 (some .int) 0 (some (.int q.1)) q.2 0 [(0, .int x0), (1, .int x1)] [] μ
  unfold F_X9_cut at h
  refine G_iload_n (pc := 0) 0 dX9_cut_0 rfl ?_
  refine G_if_ne (pc := 1) 9 dX9_cut_1 (by decide) (fun c1 => ?_) (fun c1 => ?_)
  · rw [if_neg c1] at h
    refine G_iload_n (pc := 9) 0 dX9_cut_9 rfl ?_
    refine G_iconst (pc := 10) (1) dX9_cut_10 ci_1 ?_
    refine G_icmp_ne (pc := 11) 19 dX9_cut_11 (by decide) (fun c2 => ?_) (fun c2 => ?_)
    · rw [if_neg c2] at h
      refine G_iload_n (pc := 19) 1 dX9_cut_19 rfl ?_
      obtain rfl := Option.some.inj h
      exact G_iret (pc := 20) rfl dX9_cut_20
    · rw [if_pos c2] at h
      refine G_iload_n (pc := 14) 1 dX9_cut_14 rfl ?_
      refine G_i2s (pc := 15) dX9_cut_15 ?_
      refine G_goto (pc := 16) 20 dX9_cut_16 (by decide) ?_
      obtain rfl := Option.some.inj h
      exact G_iret (pc := 20) rfl dX9_cut_20
  · rw [if_pos c1] at h
    refine G_iload_n (pc := 4) 1 dX9_cut_4 rfl ?_
    refine G_i2b (pc := 5) dX9_cut_5 ?_
    refine G_goto (pc := 6) 20 dX9_cut_6 (by decide) ?_
    obtain rfl := Option.some.inj h
    exact G_iret (pc := 20) rfl dX9_cut_20
def F_X9_lay (x1 : Int32) (x2 : Int32) (x3 : Int32) (x4 : Int32) (μ : Mm) : Option (Int32 × Mm) := (F_X9_isSheet x1 μ).bind (fun q1 => if q1.1 = 0 then some ((-2), q1.2) else (F_X9_in x2.toInt64 0 2 q1.2).bind (fun q3 => if q3.1 = 0 then some ((-2), q3.2) else (F_X9_lacks x1 x2 x3 q3.2).bind (fun q5 => if q5.1 = 0 then (F_X9_cut x2 x4 q5.2).bind (fun q7 => gi ((60 * x1) + x3) 240 (some (1, (wI q7.2 3 ((60 * x1) + x3).toNatClampNeg q7.1)))) else some (q5.1, q5.2))))
set_option maxRecDepth 100000 in
set_option maxHeartbeats 4000000 in
theorem S_X9_lay (x1 : Int32) (x2 : Int32) (x3 : Int32) (x4 : Int32)  (μ : Mm) (q : (Int32 × Mm)) (h : F_X9_lay x1 x2 x3 x4 μ = some q) : Cn wM yX9_lay cX9_lay 6 (some .int) 2 [.ref 0, .int x1, .int x2, .int x3, .int x4] μ (some (.int q.1)) q.2 := by
  refine Cn_of (by decide +kernel) (Nat.le_of_ble_eq_true rfl) ?_
  show G wM RX9 cX9_lay 6 (some .int) 2 (some (.int q.1)) q.2 0 [(0, .ref 0), (1, .int x1), (2, .int x2), (3, .int x3), (4, .int x4)] [] μ
  unfold F_X9_lay at h
  refine G_iload_n (pc := 0) 1 dX9_lay_0 rfl ?_
  obtain ⟨q1, e1, h⟩ := bnd_some h
  refine G_callS1r (pc := 1) dX9_lay_1 ws_X9_101 cd_X9_isSheet (S_X9_isSheet _ _ _ e1) (by decide) (by decide) (Nat.le_of_ble_eq_true rfl) ?_
  refine G_if_eq (pc := 4) 19 dX9_lay_4 (by decide) (fun c2 => ?_) (fun c2 => ?_)
  · replace h := itp c2 h
    refine G_bipush (pc := 19) (-2) dX9_lay_19 bp_m2 ?_
    obtain rfl := Option.some.inj h
    exact G_iret (pc := 21) rfl dX9_lay_21
  · replace h := itn c2 h
    refine G_iload_n (pc := 7) 2 dX9_lay_7 rfl ?_
    refine G_i2l (pc := 8) dX9_lay_8 ?_
    refine G_lconst (pc := 9) (0) dX9_lay_9 lc_0 ?_
    refine G_ldc2 (pc := 10) (2) dX9_lay_10 kl_X9_105 ?_
    obtain ⟨q3, e3, h⟩ := bnd_some h
    refine G_callS3r (pc := 13) dX9_lay_13 ws_X9_92 cd_X9_in (S_X9_in _ _ _ _ _ e3) (by decide) (by decide) (Nat.le_of_ble_eq_true rfl) ?_
    refine G_if_ne (pc := 16) 22 dX9_lay_16 (by decide) (fun c4 => ?_) (fun c4 => ?_)
    · replace h := itn c4 h
      refine G_aload_n (pc := 22) 0 dX9_lay_22 rfl ?_
      refine G_iload_n (pc := 23) 1 dX9_lay_23 rfl ?_
      refine G_iload_n (pc := 24) 2 dX9_lay_24 rfl ?_
      refine G_iload_n (pc := 25) 3 dX9_lay_25 rfl ?_
      obtain ⟨q5, e5, h⟩ := bnd_some h
      refine G_callV3r (pc := 26) 0 8 dX9_lay_26 wv_X9_111 cd_X9_lacks (S_X9_lacks _ _ _ _ _ e5) (by decide) (by decide) rfl (by decide) (fun _ _ => ⟨_, rfl⟩) (Nat.le_of_ble_eq_true rfl) ?_
      refine G_istore (pc := 29) [(5, .int _), (0, .ref _), (1, .int _), (2, .int _), (3, .int _), (4, .int _)] dX9_lay_29 (Nat.le_of_ble_eq_true rfl) rfl ?_
      refine G_iload (pc := 31) 0 dX9_lay_31 rfl ?_
      refine G_if_eq (pc := 33) 39 dX9_lay_33 (by decide) (fun c6 => ?_) (fun c6 => ?_)
      · replace h := itp c6 h
        refine G_aload_n (pc := 39) 1 dX9_lay_39 rfl ?_
        refine gwM_X9_16_0 (pc := 40) dX9_lay_40 ?_
        refine G_bipush (pc := 43) (60) dX9_lay_43 bp_60 ?_
        refine G_iload_n (pc := 45) 2 dX9_lay_45 rfl ?_
        refine G_imul (pc := 46) dX9_lay_46 ?_
        refine G_iload_n (pc := 47) 4 dX9_lay_47 rfl ?_
        refine G_iadd (pc := 48) dX9_lay_48 ?_
        refine G_iload_n (pc := 49) 3 dX9_lay_49 rfl ?_
        refine G_iload (pc := 50) 5 dX9_lay_50 rfl ?_
        obtain ⟨q7, e7, h⟩ := bnd_some h
        refine G_callS2r (pc := 52) dX9_lay_52 ws_X9_115 cd_X9_cut (S_X9_cut _ _ _ _ e7) (by decide) (by decide) (Nat.le_of_ble_eq_true rfl) ?_
        obtain ⟨g8, h⟩ := gi_some h
        refine aswM_3 (pc := 55) dX9_lay_55 g8 ?_
        refine G_iconst (pc := 56) (1) dX9_lay_56 ci_1 ?_
        obtain rfl := Option.some.inj h
        exact G_iret (pc := 57) rfl dX9_lay_57
      · replace h := itn c6 h
        refine G_iload (pc := 36) 0 dX9_lay_36 rfl ?_
        obtain rfl := Option.some.inj h
        exact G_iret (pc := 38) rfl dX9_lay_38
    · replace h := itp c4 h
      refine G_bipush (pc := 19) (-2) dX9_lay_19 bp_m2 ?_
      obtain rfl := Option.some.inj h
      exact G_iret (pc := 21) rfl dX9_lay_21
def F_X9_get (x1 : Int32) (x2 : Int32) (x3 : Int32) (μ : Mm) : Option (Int32 × Mm) := (F_X9_isSheet x1 μ).bind (fun q1 => if q1.1 = 0 then some ((-2147483648), q1.2) else (F_X9_in x2.toInt64 0 2 q1.2).bind (fun q3 => if q3.1 = 0 then some ((-2147483648), q3.2) else (F_X9_lacks x1 x2 x3 q3.2).bind (fun q5 => if q5.1 = 0 then gi ((60 * x1) + x3) 240 (some ((q5.2.1 3 ((60 * x1) + x3).toNatClampNeg), q5.2)) else some ((-2147483648), q5.2))))
set_option maxRecDepth 100000 in
set_option maxHeartbeats 4000000 in
theorem S_X9_get (x1 : Int32) (x2 : Int32) (x3 : Int32)  (μ : Mm) (q : (Int32 × Mm)) (h : F_X9_get x1 x2 x3 μ = some q) : Cn wM yX9_get cX9_get 4 (some .int) 2 [.ref 0, .int x1, .int x2, .int x3] μ (some (.int q.1)) q.2 := by
  refine Cn_of (by decide +kernel) (Nat.le_of_ble_eq_true rfl) ?_
  show G wM RX9 cX9_get 4 (some .int) 2 (some (.int q.1)) q.2 0 [(0, .ref 0), (1, .int x1), (2, .int x2), (3, .int x3)] [] μ
  unfold F_X9_get at h
  refine G_iload_n (pc := 0) 1 dX9_get_0 rfl ?_
  obtain ⟨q1, e1, h⟩ := bnd_some h
  refine G_callS1r (pc := 1) dX9_get_1 ws_X9_101 cd_X9_isSheet (S_X9_isSheet _ _ _ e1) (by decide) (by decide) (Nat.le_of_ble_eq_true rfl) ?_
  refine G_if_eq (pc := 4) 29 dX9_get_4 (by decide) (fun c2 => ?_) (fun c2 => ?_)
  · replace h := itp c2 h
    refine G_ldc (pc := 29) (-2147483648) dX9_get_29 k_X9_119 ?_
    obtain rfl := Option.some.inj h
    exact G_iret (pc := 31) rfl dX9_get_31
  · replace h := itn c2 h
    refine G_iload_n (pc := 7) 2 dX9_get_7 rfl ?_
    refine G_i2l (pc := 8) dX9_get_8 ?_
    refine G_lconst (pc := 9) (0) dX9_get_9 lc_0 ?_
    refine G_ldc2 (pc := 10) (2) dX9_get_10 kl_X9_105 ?_
    obtain ⟨q3, e3, h⟩ := bnd_some h
    refine G_callS3r (pc := 13) dX9_get_13 ws_X9_92 cd_X9_in (S_X9_in _ _ _ _ _ e3) (by decide) (by decide) (Nat.le_of_ble_eq_true rfl) ?_
    refine G_if_eq (pc := 16) 29 dX9_get_16 (by decide) (fun c4 => ?_) (fun c4 => ?_)
    · replace h := itp c4 h
      refine G_ldc (pc := 29) (-2147483648) dX9_get_29 k_X9_119 ?_
      obtain rfl := Option.some.inj h
      exact G_iret (pc := 31) rfl dX9_get_31
    · replace h := itn c4 h
      refine G_aload_n (pc := 19) 0 dX9_get_19 rfl ?_
      refine G_iload_n (pc := 20) 1 dX9_get_20 rfl ?_
      refine G_iload_n (pc := 21) 2 dX9_get_21 rfl ?_
      refine G_iload_n (pc := 22) 3 dX9_get_22 rfl ?_
      obtain ⟨q5, e5, h⟩ := bnd_some h
      refine G_callV3r (pc := 23) 0 8 dX9_get_23 wv_X9_111 cd_X9_lacks (S_X9_lacks _ _ _ _ _ e5) (by decide) (by decide) rfl (by decide) (fun _ _ => ⟨_, rfl⟩) (Nat.le_of_ble_eq_true rfl) ?_
      refine G_if_eq (pc := 26) 32 dX9_get_26 (by decide) (fun c6 => ?_) (fun c6 => ?_)
      · replace h := itp c6 h
        refine G_aload_n (pc := 32) 0 dX9_get_32 rfl ?_
        refine gwM_X9_16_0 (pc := 33) dX9_get_33 ?_
        refine G_bipush (pc := 36) (60) dX9_get_36 bp_60 ?_
        refine G_iload_n (pc := 38) 1 dX9_get_38 rfl ?_
        refine G_imul (pc := 39) dX9_get_39 ?_
        refine G_iload_n (pc := 40) 3 dX9_get_40 rfl ?_
        refine G_iadd (pc := 41) dX9_get_41 ?_
        obtain ⟨g7, h⟩ := gi_some h
        refine alwM_3 (pc := 42) dX9_get_42 g7 ?_
        obtain rfl := Option.some.inj h
        exact G_iret (pc := 43) rfl dX9_get_43
      · replace h := itn c6 h
        refine G_ldc (pc := 29) (-2147483648) dX9_get_29 k_X9_119 ?_
        obtain rfl := Option.some.inj h
        exact G_iret (pc := 31) rfl dX9_get_31
def F_X9_copy_35  (μ : Mm) : Option (Int32 × Mm) := (F_X9_finds 1 μ).bind (fun q7 => some (q7.1, q7.2))
set_option maxRecDepth 100000 in
set_option maxHeartbeats 4000000 in
theorem B_X9_copy_35  (μ : Mm) (q : (Int32 × Mm))  (h : F_X9_copy_35   μ = some q) : G wM RX9 cX9_copy 7 (some .int) 2 (some (.int q.1)) q.2 35 [(0, .ref 0)] [] μ := by
  unfold F_X9_copy_35 at h
  refine G_aload_n (pc := 35) 0 dX9_copy_35 rfl ?_
  refine G_iconst (pc := 36) (1) dX9_copy_36 ci_1 ?_
  obtain ⟨q7, e7, h⟩ := bnd_some h
  refine G_callV1r (pc := 37) 0 8 dX9_copy_37 wv_X9_107 cd_X9_finds (S_X9_finds _ _ _ e7) (by decide) (by decide) rfl (by decide) (fun _ _ => ⟨_, rfl⟩) (Nat.le_of_ble_eq_true rfl) ?_
  obtain rfl := Option.some.inj h
  exact G_iret (pc := 40) rfl dX9_copy_40
def F_X9_copy_111  (μ : Mm) : Option (Int32 × Mm) := (F_X9_finds 2 μ).bind (fun q14 => some (q14.1, q14.2))
set_option maxRecDepth 100000 in
set_option maxHeartbeats 4000000 in
theorem B_X9_copy_111  (μ : Mm) (q : (Int32 × Mm))  (h : F_X9_copy_111   μ = some q) : G wM RX9 cX9_copy 7 (some .int) 2 (some (.int q.1)) q.2 111 [(0, .ref 0)] [] μ := by
  unfold F_X9_copy_111 at h
  refine G_aload_n (pc := 111) 0 dX9_copy_111 rfl ?_
  refine G_iconst (pc := 112) (2) dX9_copy_112 ci_2 ?_
  obtain ⟨q14, e14, h⟩ := bnd_some h
  refine G_callV1r (pc := 113) 0 8 dX9_copy_113 wv_X9_107 cd_X9_finds (S_X9_finds _ _ _ e14) (by decide) (by decide) rfl (by decide) (fun _ _ => ⟨_, rfl⟩) (Nat.le_of_ble_eq_true rfl) ?_
  obtain rfl := Option.some.inj h
  exact G_iret (pc := 116) rfl dX9_copy_116
def L_X9_copy_157 : Nat → Int32 → Int32 → Int32 → Int32 → Mm → Option (Int32 × Mm)
  | 0, _, _, _, _, _ => none
  | n + 1, x3, x4, x5, x6, μ => if x5 ≤ x6 then some (1, μ) else gi x6 60 (gi (((60 * x3) + x4) + x6) 240 (L_X9_copy_157 n x3 x4 x5 (x6 + 1) (wI μ 3 (((60 * x3) + x4) + x6).toNatClampNeg (μ.1 4 x6.toNatClampNeg))))
set_option maxRecDepth 100000 in
set_option maxHeartbeats 4000000 in
theorem L_X9_copy_157_s (n : Nat) (x3 : Int32) (x4 : Int32) (x5 : Int32) (x6 : Int32) (μ : Mm) : L_X9_copy_157  (n + 1) x3 x4 x5 x6 μ = (if x5 ≤ x6 then some (1, μ) else gi x6 60 (gi (((60 * x3) + x4) + x6) 240 (L_X9_copy_157 n x3 x4 x5 (x6 + 1) (wI μ 3 (((60 * x3) + x4) + x6).toNatClampNeg (μ.1 4 x6.toNatClampNeg))))) := rfl
set_option maxRecDepth 100000 in
set_option maxHeartbeats 4000000 in
theorem B_X9_copy_157 : ∀ (n : Nat) (x3 : Int32) (x4 : Int32) (x5 : Int32) (x6 : Int32) (μ : Mm) (q : (Int32 × Mm)), L_X9_copy_157  n x3 x4 x5 x6 μ = some q → G wM RX9 cX9_copy 7 (some .int) 2 (some (.int q.1)) q.2 157 [(0, .ref 0), (3, .int x3), (4, .int x4), (5, .int x5), (6, .int x6)] [] μ := by
  intro n
  induction n with
  | zero =>
    intro x3 x4 x5 x6 μ q  h
    cases h
  | succ n ih =>
    intro x3 x4 x5 x6 μ q  h
    rw [L_X9_copy_157_s] at h
    refine G_iload (pc := 157) 4 dX9_copy_157 rfl ?_
    refine G_iload (pc := 159) 3 dX9_copy_159 rfl ?_
    refine G_icmp_ge (pc := 161) 192 dX9_copy_161 (by decide) (fun c22 => ?_) (fun c22 => ?_)
    · replace h := itp c22 h
      refine G_iconst (pc := 192) (1) dX9_copy_192 ci_1 ?_
      obtain rfl := Option.some.inj h
      exact G_iret (pc := 193) rfl dX9_copy_193
    · replace h := itn c22 h
      refine G_aload_n (pc := 164) 0 dX9_copy_164 rfl ?_
      refine gwM_X9_16_0 (pc := 165) dX9_copy_165 ?_
      refine G_bipush (pc := 168) (60) dX9_copy_168 bp_60 ?_
      refine G_iload_n (pc := 170) 1 dX9_copy_170 rfl ?_
      refine G_imul (pc := 171) dX9_copy_171 ?_
      refine G_iload (pc := 172) 2 dX9_copy_172 rfl ?_
      refine G_iadd (pc := 174) dX9_copy_174 ?_
      refine G_iload (pc := 175) 4 dX9_copy_175 rfl ?_
      refine G_iadd (pc := 177) dX9_copy_177 ?_
      refine G_aload_n (pc := 178) 0 dX9_copy_178 rfl ?_
      refine gwM_X9_19_0 (pc := 179) dX9_copy_179 ?_
      refine G_iload (pc := 182) 4 dX9_copy_182 rfl ?_
      obtain ⟨g23, h⟩ := gi_some h
      refine alwM_4 (pc := 184) dX9_copy_184 g23 ?_
      obtain ⟨g24, h⟩ := gi_some h
      refine aswM_3 (pc := 185) dX9_copy_185 g24 ?_
      refine G_iinc (pc := 186) (1) 4 [(6, .int _), (0, .ref _), (3, .int _), (4, .int _), (5, .int _)] dX9_copy_186 ci_1 rfl (Nat.le_of_ble_eq_true rfl) rfl ?_
      refine G_goto (pc := 189) 157 dX9_copy_189 (by decide) ?_
      refine G_loc [1, 2, 3, 4, 0] [(0, .ref _), (3, .int _), (4, .int _), (5, .int _), (6, .int _)] rfl ?_
      exact ih _ _ _ _ _ _ h
def L_X9_copy_120 : Nat → Int32 → Int32 → Int32 → Int32 → Int32 → Int32 → Mm → Option (Int32 × Mm)
  | 0, _, _, _, _, _, _, _ => none
  | n + 1, x1, x2, x3, x4, x5, x6, μ => if x5 ≤ x6 then L_X9_copy_157 FUEL x3 x4 x5 0 μ else gi (((60 * x1) + x2) + x6) 240 (gi x6 60 (L_X9_copy_120 n x1 x2 x3 x4 x5 (x6 + 1) (wI μ 4 x6.toNatClampNeg (μ.1 3 (((60 * x1) + x2) + x6).toNatClampNeg))))
set_option maxRecDepth 100000 in
set_option maxHeartbeats 4000000 in
theorem L_X9_copy_120_s (n : Nat) (x1 : Int32) (x2 : Int32) (x3 : Int32) (x4 : Int32) (x5 : Int32) (x6 : Int32) (μ : Mm) : L_X9_copy_120  (n + 1) x1 x2 x3 x4 x5 x6 μ = (if x5 ≤ x6 then L_X9_copy_157 FUEL x3 x4 x5 0 μ else gi (((60 * x1) + x2) + x6) 240 (gi x6 60 (L_X9_copy_120 n x1 x2 x3 x4 x5 (x6 + 1) (wI μ 4 x6.toNatClampNeg (μ.1 3 (((60 * x1) + x2) + x6).toNatClampNeg))))) := rfl
set_option maxRecDepth 100000 in
set_option maxHeartbeats 4000000 in
theorem B_X9_copy_120 : ∀ (n : Nat) (x1 : Int32) (x2 : Int32) (x3 : Int32) (x4 : Int32) (x5 : Int32) (x6 : Int32) (μ : Mm) (q : (Int32 × Mm)), L_X9_copy_120  n x1 x2 x3 x4 x5 x6 μ = some q → G wM RX9 cX9_copy 7 (some .int) 2 (some (.int q.1)) q.2 120 [(0, .ref 0), (1, .int x1), (2, .int x2), (3, .int x3), (4, .int x4), (5, .int x5), (6, .int x6)] [] μ := by
  intro n
  induction n with
  | zero =>
    intro x1 x2 x3 x4 x5 x6 μ q  h
    cases h
  | succ n ih =>
    intro x1 x2 x3 x4 x5 x6 μ q  h
    rw [L_X9_copy_120_s] at h
    refine G_iload (pc := 120) 6 dX9_copy_120 rfl ?_
    refine G_iload (pc := 122) 5 dX9_copy_122 rfl ?_
    refine G_icmp_ge (pc := 124) 154 dX9_copy_124 (by decide) (fun c21 => ?_) (fun c21 => ?_)
    · replace h := itp c21 h
      refine G_iconst (pc := 154) (0) dX9_copy_154 ci_0 ?_
      refine G_istore (pc := 155) [(6, .int _), (0, .ref _), (1, .int _), (2, .int _), (3, .int _), (4, .int _), (5, .int _)] dX9_copy_155 (Nat.le_of_ble_eq_true rfl) rfl ?_
      refine G_loc [1, 4, 5, 6, 0] [(0, .ref _), (3, .int _), (4, .int _), (5, .int _), (6, .int _)] rfl ?_
      exact B_X9_copy_157 _ _ _ _ _ _ _ h
    · replace h := itn c21 h
      refine G_aload_n (pc := 127) 0 dX9_copy_127 rfl ?_
      refine gwM_X9_19_0 (pc := 128) dX9_copy_128 ?_
      refine G_iload (pc := 131) 6 dX9_copy_131 rfl ?_
      refine G_aload_n (pc := 133) 0 dX9_copy_133 rfl ?_
      refine gwM_X9_16_0 (pc := 134) dX9_copy_134 ?_
      refine G_bipush (pc := 137) (60) dX9_copy_137 bp_60 ?_
      refine G_iload_n (pc := 139) 1 dX9_copy_139 rfl ?_
      refine G_imul (pc := 140) dX9_copy_140 ?_
      refine G_iload_n (pc := 141) 2 dX9_copy_141 rfl ?_
      refine G_iadd (pc := 142) dX9_copy_142 ?_
      refine G_iload (pc := 143) 6 dX9_copy_143 rfl ?_
      refine G_iadd (pc := 145) dX9_copy_145 ?_
      obtain ⟨g25, h⟩ := gi_some h
      refine alwM_3 (pc := 146) dX9_copy_146 g25 ?_
      obtain ⟨g26, h⟩ := gi_some h
      refine aswM_4 (pc := 147) dX9_copy_147 g26 ?_
      refine G_iinc (pc := 148) (1) 6 [(6, .int _), (0, .ref _), (1, .int _), (2, .int _), (3, .int _), (4, .int _), (5, .int _)] dX9_copy_148 ci_1 rfl (Nat.le_of_ble_eq_true rfl) rfl ?_
      refine G_goto (pc := 151) 120 dX9_copy_151 (by decide) ?_
      refine G_loc [1, 2, 3, 4, 5, 6, 0] [(0, .ref _), (1, .int _), (2, .int _), (3, .int _), (4, .int _), (5, .int _), (6, .int _)] rfl ?_
      exact ih _ _ _ _ _ _ _ _ h
def F_X9_copy (x1 : Int32) (x2 : Int32) (x3 : Int32) (x4 : Int32) (x5 : Int32) (μ : Mm) : Option (Int32 × Mm) := (F_X9_isSheet x1 μ).bind (fun q1 => if q1.1 = 0 then some ((-2), q1.2) else (F_X9_isSheet x3 q1.2).bind (fun q3 => if q3.1 = 0 then some ((-2), q3.2) else gi x1 4 (if (q3.2.1 1 x1.toNatClampNeg) < 0 then F_X9_copy_35 q3.2 else gi x3 4 (if 0 ≤ (q3.2.1 1 x3.toNatClampNeg) then gi x1 4 (gi x3 4 (if (q3.2.1 1 x1.toNatClampNeg) = (q3.2.1 1 x3.toNatClampNeg) then if x2 < 0 then F_X9_copy_111 q3.2 else if x4 < 0 then F_X9_copy_111 q3.2 else if x5 < 0 then F_X9_copy_111 q3.2 else gi x1 4 (if 0 < (lg_cmp (x2.toInt64 + x5.toInt64) ((q3.2.1 2 x1.toNatClampNeg).toInt64)) then F_X9_copy_111 q3.2 else gi x3 4 (if (lg_cmp (x4.toInt64 + x5.toInt64) ((q3.2.1 2 x3.toNatClampNeg).toInt64)) ≤ 0 then L_X9_copy_120 FUEL x1 x2 x3 x4 x5 0 q3.2 else F_X9_copy_111 q3.2)) else (F_X9_finds 4 q3.2).bind (fun q27 => some (q27.1, q27.2)))) else F_X9_copy_35 q3.2))))
set_option maxRecDepth 100000 in
set_option maxHeartbeats 4000000 in
theorem S_X9_copy (x1 : Int32) (x2 : Int32) (x3 : Int32) (x4 : Int32) (x5 : Int32)  (μ : Mm) (q : (Int32 × Mm)) (h : F_X9_copy x1 x2 x3 x4 x5 μ = some q) : Cn wM yX9_copy cX9_copy 7 (some .int) 2 [.ref 0, .int x1, .int x2, .int x3, .int x4, .int x5] μ (some (.int q.1)) q.2 := by
  refine Cn_of (by decide +kernel) (Nat.le_of_ble_eq_true rfl) ?_
  show G wM RX9 cX9_copy 7 (some .int) 2 (some (.int q.1)) q.2 0 [(0, .ref 0), (1, .int x1), (2, .int x2), (3, .int x3), (4, .int x4), (5, .int x5)] [] μ
  unfold F_X9_copy at h
  refine G_iload_n (pc := 0) 1 dX9_copy_0 rfl ?_
  obtain ⟨q1, e1, h⟩ := bnd_some h
  refine G_callS1r (pc := 1) dX9_copy_1 ws_X9_101 cd_X9_isSheet (S_X9_isSheet _ _ _ e1) (by decide) (by decide) (Nat.le_of_ble_eq_true rfl) ?_
  refine G_if_eq (pc := 4) 14 dX9_copy_4 (by decide) (fun c2 => ?_) (fun c2 => ?_)
  · replace h := itp c2 h
    refine G_bipush (pc := 14) (-2) dX9_copy_14 bp_m2 ?_
    obtain rfl := Option.some.inj h
    exact G_iret (pc := 16) rfl dX9_copy_16
  · replace h := itn c2 h
    refine G_iload_n (pc := 7) 3 dX9_copy_7 rfl ?_
    obtain ⟨q3, e3, h⟩ := bnd_some h
    refine G_callS1r (pc := 8) dX9_copy_8 ws_X9_101 cd_X9_isSheet (S_X9_isSheet _ _ _ e3) (by decide) (by decide) (Nat.le_of_ble_eq_true rfl) ?_
    refine G_if_ne (pc := 11) 17 dX9_copy_11 (by decide) (fun c4 => ?_) (fun c4 => ?_)
    · replace h := itn c4 h
      refine G_aload_n (pc := 17) 0 dX9_copy_17 rfl ?_
      refine gwM_X9_7_0 (pc := 18) dX9_copy_18 ?_
      refine G_iload_n (pc := 21) 1 dX9_copy_21 rfl ?_
      obtain ⟨g5, h⟩ := gi_some h
      refine alwM_1 (pc := 22) dX9_copy_22 g5 ?_
      refine G_if_lt (pc := 23) 35 dX9_copy_23 (by decide) (fun c6 => ?_) (fun c6 => ?_)
      · replace h := itp c6 h
        refine G_loc [0] [(0, .ref _)] rfl ?_
        exact B_X9_copy_35 _ _ h
      · replace h := itn c6 h
        refine G_aload_n (pc := 26) 0 dX9_copy_26 rfl ?_
        refine gwM_X9_7_0 (pc := 27) dX9_copy_27 ?_
        refine G_iload_n (pc := 30) 3 dX9_copy_30 rfl ?_
        obtain ⟨g8, h⟩ := gi_some h
        refine alwM_1 (pc := 31) dX9_copy_31 g8 ?_
        refine G_if_ge (pc := 32) 41 dX9_copy_32 (by decide) (fun c9 => ?_) (fun c9 => ?_)
        · replace h := itp c9 h
          refine G_aload_n (pc := 41) 0 dX9_copy_41 rfl ?_
          refine gwM_X9_7_0 (pc := 42) dX9_copy_42 ?_
          refine G_iload_n (pc := 45) 1 dX9_copy_45 rfl ?_
          obtain ⟨g10, h⟩ := gi_some h
          refine alwM_1 (pc := 46) dX9_copy_46 g10 ?_
          refine G_aload_n (pc := 47) 0 dX9_copy_47 rfl ?_
          refine gwM_X9_7_0 (pc := 48) dX9_copy_48 ?_
          refine G_iload_n (pc := 51) 3 dX9_copy_51 rfl ?_
          obtain ⟨g11, h⟩ := gi_some h
          refine alwM_1 (pc := 52) dX9_copy_52 g11 ?_
          refine G_icmp_eq (pc := 53) 62 dX9_copy_53 (by decide) (fun c12 => ?_) (fun c12 => ?_)
          · replace h := itp c12 h
            refine G_iload_n (pc := 62) 2 dX9_copy_62 rfl ?_
            refine G_if_lt (pc := 63) 111 dX9_copy_63 (by decide) (fun c13 => ?_) (fun c13 => ?_)
            · replace h := itp c13 h
              refine G_loc [0] [(0, .ref _)] rfl ?_
              exact B_X9_copy_111 _ _ h
            · replace h := itn c13 h
              refine G_iload (pc := 66) 4 dX9_copy_66 rfl ?_
              refine G_if_lt (pc := 68) 111 dX9_copy_68 (by decide) (fun c15 => ?_) (fun c15 => ?_)
              · replace h := itp c15 h
                refine G_loc [0] [(0, .ref _)] rfl ?_
                exact B_X9_copy_111 _ _ h
              · replace h := itn c15 h
                refine G_iload (pc := 71) 5 dX9_copy_71 rfl ?_
                refine G_if_lt (pc := 73) 111 dX9_copy_73 (by decide) (fun c16 => ?_) (fun c16 => ?_)
                · replace h := itp c16 h
                  refine G_loc [0] [(0, .ref _)] rfl ?_
                  exact B_X9_copy_111 _ _ h
                · replace h := itn c16 h
                  refine G_iload_n (pc := 76) 2 dX9_copy_76 rfl ?_
                  refine G_i2l (pc := 77) dX9_copy_77 ?_
                  refine G_iload (pc := 78) 5 dX9_copy_78 rfl ?_
                  refine G_i2l (pc := 80) dX9_copy_80 ?_
                  refine G_ladd (pc := 81) dX9_copy_81 ?_
                  refine G_aload_n (pc := 82) 0 dX9_copy_82 rfl ?_
                  refine gwM_X9_13_0 (pc := 83) dX9_copy_83 ?_
                  refine G_iload_n (pc := 86) 1 dX9_copy_86 rfl ?_
                  obtain ⟨g17, h⟩ := gi_some h
                  refine alwM_2 (pc := 87) dX9_copy_87 g17 ?_
                  refine G_i2l (pc := 88) dX9_copy_88 ?_
                  refine G_lcmp (pc := 89) dX9_copy_89 ?_
                  refine G_if_gt (pc := 90) 111 dX9_copy_90 (by decide) (fun c18 => ?_) (fun c18 => ?_)
                  · replace h := itp c18 h
                    refine G_loc [0] [(0, .ref _)] rfl ?_
                    exact B_X9_copy_111 _ _ h
                  · replace h := itn c18 h
                    refine G_iload (pc := 93) 4 dX9_copy_93 rfl ?_
                    refine G_i2l (pc := 95) dX9_copy_95 ?_
                    refine G_iload (pc := 96) 5 dX9_copy_96 rfl ?_
                    refine G_i2l (pc := 98) dX9_copy_98 ?_
                    refine G_ladd (pc := 99) dX9_copy_99 ?_
                    refine G_aload_n (pc := 100) 0 dX9_copy_100 rfl ?_
                    refine gwM_X9_13_0 (pc := 101) dX9_copy_101 ?_
                    refine G_iload_n (pc := 104) 3 dX9_copy_104 rfl ?_
                    obtain ⟨g19, h⟩ := gi_some h
                    refine alwM_2 (pc := 105) dX9_copy_105 g19 ?_
                    refine G_i2l (pc := 106) dX9_copy_106 ?_
                    refine G_lcmp (pc := 107) dX9_copy_107 ?_
                    refine G_if_le (pc := 108) 117 dX9_copy_108 (by decide) (fun c20 => ?_) (fun c20 => ?_)
                    · replace h := itp c20 h
                      refine G_iconst (pc := 117) (0) dX9_copy_117 ci_0 ?_
                      refine G_istore (pc := 118) [(6, .int _), (0, .ref _), (1, .int _), (2, .int _), (3, .int _), (4, .int _), (5, .int _)] dX9_copy_118 (Nat.le_of_ble_eq_true rfl) rfl ?_
                      refine G_loc [1, 2, 3, 4, 5, 6, 0] [(0, .ref _), (1, .int _), (2, .int _), (3, .int _), (4, .int _), (5, .int _), (6, .int _)] rfl ?_
                      exact B_X9_copy_120 _ _ _ _ _ _ _ _ _ h
                    · replace h := itn c20 h
                      refine G_loc [0] [(0, .ref _)] rfl ?_
                      exact B_X9_copy_111 _ _ h
          · replace h := itn c12 h
            refine G_aload_n (pc := 56) 0 dX9_copy_56 rfl ?_
            refine G_iconst (pc := 57) (4) dX9_copy_57 ci_4 ?_
            obtain ⟨q27, e27, h⟩ := bnd_some h
            refine G_callV1r (pc := 58) 0 8 dX9_copy_58 wv_X9_107 cd_X9_finds (S_X9_finds _ _ _ e27) (by decide) (by decide) rfl (by decide) (fun _ _ => ⟨_, rfl⟩) (Nat.le_of_ble_eq_true rfl) ?_
            obtain rfl := Option.some.inj h
            exact G_iret (pc := 61) rfl dX9_copy_61
        · replace h := itn c9 h
          refine G_loc [0] [(0, .ref _)] rfl ?_
          exact B_X9_copy_35 _ _ h
    · replace h := itp c4 h
      refine G_bipush (pc := 14) (-2) dX9_copy_14 bp_m2 ?_
      obtain rfl := Option.some.inj h
      exact G_iret (pc := 16) rfl dX9_copy_16
def F_X9_isText (x0 : Int32) (μ : Mm) : Option (Int32 × Mm) := (F_X9_in x0.toInt64 0 2 μ).bind (fun q1 => gb q1.1 (some (q1.1, q1.2)))
set_option maxRecDepth 100000 in
set_option maxHeartbeats 4000000 in
theorem S_X9_isText (x0 : Int32)  (μ : Mm) (q : (Int32 × Mm)) (h : F_X9_isText x0 μ = some q) : Cn wM yX9_isText cX9_isText 1 (some .boolean) 1 [.int x0] μ (some (.int q.1)) q.2 := by
  refine Cn_of (by decide +kernel) (Nat.le_of_ble_eq_true rfl) ?_
  show G wM RX9 cX9_isText 1 (some .boolean) 1 (some (.int q.1)) q.2 0 [(0, .int x0)] [] μ
  unfold F_X9_isText at h
  refine G_iload_n (pc := 0) 0 dX9_isText_0 rfl ?_
  refine G_i2l (pc := 1) dX9_isText_1 ?_
  refine G_lconst (pc := 2) (0) dX9_isText_2 lc_0 ?_
  refine G_ldc2 (pc := 3) (2) dX9_isText_3 kl_X9_105 ?_
  obtain ⟨q1, e1, h⟩ := bnd_some h
  refine G_callS3r (pc := 6) dX9_isText_6 ws_X9_92 cd_X9_in (S_X9_in _ _ _ _ _ e1) (by decide) (by decide) (Nat.le_of_ble_eq_true rfl) ?_
  obtain ⟨g2, h⟩ := gb_some h
  obtain rfl := Option.some.inj h
  exact G_zret (pc := 9) rfl g2 dX9_isText_9
def F_X9_type_49 (x1 : Int32) (x2 : Int32) (y0 : Int32) (y1 : Int32) (μ : Mm) : Option (Int32 × Mm) := if y1 = y0 then some ((-4), μ) else gi x1 3 (gi ((40 * x1) + (μ.1 6 x1.toNatClampNeg)) 120 (gi x1 3 (gi x1 3 (gi x1 3 (some (((wI (wI μ 5 ((40 * x1) + (μ.1 6 x1.toNatClampNeg)).toNatClampNeg x2) 6 x1.toNatClampNeg (((wI μ 5 ((40 * x1) + (μ.1 6 x1.toNatClampNeg)).toNatClampNeg x2).1 6 x1.toNatClampNeg) + 1)).1 6 x1.toNatClampNeg), (wI (wI μ 5 ((40 * x1) + (μ.1 6 x1.toNatClampNeg)).toNatClampNeg x2) 6 x1.toNatClampNeg (((wI μ 5 ((40 * x1) + (μ.1 6 x1.toNatClampNeg)).toNatClampNeg x2).1 6 x1.toNatClampNeg) + 1))))))))
set_option maxRecDepth 100000 in
set_option maxHeartbeats 4000000 in
theorem B_X9_type_49 (x1 : Int32) (x2 : Int32) (y0 : Int32) (y1 : Int32) (μ : Mm) (q : (Int32 × Mm))  (h : F_X9_type_49  x1 x2 y0 y1 μ = some q) : G wM RX9 cX9_type 3 (some .int) 2 (some (.int q.1)) q.2 49 [(0, .ref 0), (1, .int x1), (2, .int x2)] [.int y0, .int y1] μ := by
  unfold F_X9_type_49 at h
  refine G_icmp_ne (pc := 49) 55 dX9_type_49 (by decide) (fun c8 => ?_) (fun c8 => ?_)
  · replace h := itn c8 h
    refine G_aload_n (pc := 55) 0 dX9_type_55 rfl ?_
    refine gwM_X9_22_0 (pc := 56) dX9_type_56 ?_
    refine G_bipush (pc := 59) (40) dX9_type_59 bp_40 ?_
    refine G_iload_n (pc := 61) 1 dX9_type_61 rfl ?_
    refine G_imul (pc := 62) dX9_type_62 ?_
    refine G_aload_n (pc := 63) 0 dX9_type_63 rfl ?_
    refine gwM_X9_25_0 (pc := 64) dX9_type_64 ?_
    refine G_iload_n (pc := 67) 1 dX9_type_67 rfl ?_
    obtain ⟨g9, h⟩ := gi_some h
    refine alwM_6 (pc := 68) dX9_type_68 g9 ?_
    refine G_iadd (pc := 69) dX9_type_69 ?_
    refine G_iload_n (pc := 70) 2 dX9_type_70 rfl ?_
    obtain ⟨g10, h⟩ := gi_some h
    refine aswM_5 (pc := 71) dX9_type_71 g10 ?_
    refine G_aload_n (pc := 72) 0 dX9_type_72 rfl ?_
    refine gwM_X9_25_0 (pc := 73) dX9_type_73 ?_
    refine G_iload_n (pc := 76) 1 dX9_type_76 rfl ?_
    refine G_dup2 (pc := 77) dX9_type_77 rfl rfl ?_
    obtain ⟨g11, h⟩ := gi_some h
    refine alwM_6 (pc := 78) dX9_type_78 g11 ?_
    refine G_iconst (pc := 79) (1) dX9_type_79 ci_1 ?_
    refine G_iadd (pc := 80) dX9_type_80 ?_
    obtain ⟨g12, h⟩ := gi_some h
    refine aswM_6 (pc := 81) dX9_type_81 g12 ?_
    refine G_aload_n (pc := 82) 0 dX9_type_82 rfl ?_
    refine gwM_X9_25_0 (pc := 83) dX9_type_83 ?_
    refine G_iload_n (pc := 86) 1 dX9_type_86 rfl ?_
    obtain ⟨g13, h⟩ := gi_some h
    refine alwM_6 (pc := 87) dX9_type_87 g13 ?_
    obtain rfl := Option.some.inj h
    exact G_iret (pc := 88) rfl dX9_type_88
  · replace h := itp c8 h
    refine G_bipush (pc := 52) (-4) dX9_type_52 bp_m4 ?_
    obtain rfl := Option.some.inj h
    exact G_iret (pc := 54) rfl dX9_type_54
def F_X9_type (x1 : Int32) (x2 : Int32) (μ : Mm) : Option (Int32 × Mm) := (F_X9_isText x1 μ).bind (fun q1 => if q1.1 = 0 then some ((-2), q1.2) else (F_X9_in x2.toInt64 0 255 q1.2).bind (fun q3 => if q3.1 = 0 then some ((-2), q3.2) else gi x1 3 (F_X9_type_49 x1 x2 (if x1 = 0 then 39 else (if x1 = 1 then 15 else 12)) (q3.2.1 6 x1.toNatClampNeg) q3.2)))
set_option maxRecDepth 100000 in
set_option maxHeartbeats 4000000 in
theorem S_X9_type (x1 : Int32) (x2 : Int32)  (μ : Mm) (q : (Int32 × Mm)) (h : F_X9_type x1 x2 μ = some q) : Cn wM yX9_type cX9_type 3 (some .int) 2 [.ref 0, .int x1, .int x2] μ (some (.int q.1)) q.2 := by
  refine Cn_of (by decide +kernel) (Nat.le_of_ble_eq_true rfl) ?_
  show G wM RX9 cX9_type 3 (some .int) 2 (some (.int q.1)) q.2 0 [(0, .ref 0), (1, .int x1), (2, .int x2)] [] μ
  unfold F_X9_type at h
  refine G_iload_n (pc := 0) 1 dX9_type_0 rfl ?_
  obtain ⟨q1, e1, h⟩ := bnd_some h
  refine G_callS1r (pc := 1) dX9_type_1 ws_X9_120 cd_X9_isText (S_X9_isText _ _ _ e1) (by decide) (by decide) (Nat.le_of_ble_eq_true rfl) ?_
  refine G_if_eq (pc := 4) 19 dX9_type_4 (by decide) (fun c2 => ?_) (fun c2 => ?_)
  · replace h := itp c2 h
    refine G_bipush (pc := 19) (-2) dX9_type_19 bp_m2 ?_
    obtain rfl := Option.some.inj h
    exact G_iret (pc := 21) rfl dX9_type_21
  · replace h := itn c2 h
    refine G_iload_n (pc := 7) 2 dX9_type_7 rfl ?_
    refine G_i2l (pc := 8) dX9_type_8 ?_
    refine G_lconst (pc := 9) (0) dX9_type_9 lc_0 ?_
    refine G_ldc2 (pc := 10) (255) dX9_type_10 kl_X9_123 ?_
    obtain ⟨q3, e3, h⟩ := bnd_some h
    refine G_callS3r (pc := 13) dX9_type_13 ws_X9_92 cd_X9_in (S_X9_in _ _ _ _ _ e3) (by decide) (by decide) (Nat.le_of_ble_eq_true rfl) ?_
    refine G_if_ne (pc := 16) 22 dX9_type_16 (by decide) (fun c4 => ?_) (fun c4 => ?_)
    · replace h := itn c4 h
      refine G_aload_n (pc := 22) 0 dX9_type_22 rfl ?_
      refine gwM_X9_25_0 (pc := 23) dX9_type_23 ?_
      refine G_iload_n (pc := 26) 1 dX9_type_26 rfl ?_
      obtain ⟨g5, h⟩ := gi_some h
      refine alwM_6 (pc := 27) dX9_type_27 g5 ?_
      refine G_iload_n (pc := 28) 1 dX9_type_28 rfl ?_
      refine G_if_ne (pc := 29) 37 dX9_type_29 (by decide) (fun c6 => ?_) (fun c6 => ?_)
      · rw [if_neg c6] at h
        refine G_iload_n (pc := 37) 1 dX9_type_37 rfl ?_
        refine G_iconst (pc := 38) (1) dX9_type_38 ci_1 ?_
        refine G_icmp_ne (pc := 39) 47 dX9_type_39 (by decide) (fun c7 => ?_) (fun c7 => ?_)
        · rw [if_neg c7] at h
          refine G_bipush (pc := 47) (12) dX9_type_47 bp_12 ?_
          exact B_X9_type_49 _ _ _ _ _ _ h
        · rw [if_pos c7] at h
          refine G_bipush (pc := 42) (15) dX9_type_42 bp_15 ?_
          refine G_goto (pc := 44) 49 dX9_type_44 (by decide) ?_
          exact B_X9_type_49 _ _ _ _ _ _ h
      · rw [if_pos c6] at h
        refine G_bipush (pc := 32) (39) dX9_type_32 bp_39 ?_
        refine G_goto (pc := 34) 49 dX9_type_34 (by decide) ?_
        exact B_X9_type_49 _ _ _ _ _ _ h
    · replace h := itp c4 h
      refine G_bipush (pc := 19) (-2) dX9_type_19 bp_m2 ?_
      obtain rfl := Option.some.inj h
      exact G_iret (pc := 21) rfl dX9_type_21
def F_X9_wipe (x1 : Int32) (μ : Mm) : Option (Int32 × Mm) := (F_X9_isText x1 μ).bind (fun q1 => if q1.1 = 0 then some ((-2), q1.2) else gi x1 3 (gi x1 3 (some ((q1.2.1 6 x1.toNatClampNeg), (wI q1.2 6 x1.toNatClampNeg 0)))))
set_option maxRecDepth 100000 in
set_option maxHeartbeats 4000000 in
theorem S_X9_wipe (x1 : Int32)  (μ : Mm) (q : (Int32 × Mm)) (h : F_X9_wipe x1 μ = some q) : Cn wM yX9_wipe cX9_wipe 3 (some .int) 2 [.ref 0, .int x1] μ (some (.int q.1)) q.2 := by
  refine Cn_of (by decide +kernel) (Nat.le_of_ble_eq_true rfl) ?_
  show G wM RX9 cX9_wipe 3 (some .int) 2 (some (.int q.1)) q.2 0 [(0, .ref 0), (1, .int x1)] [] μ
  unfold F_X9_wipe at h
  refine G_iload_n (pc := 0) 1 dX9_wipe_0 rfl ?_
  obtain ⟨q1, e1, h⟩ := bnd_some h
  refine G_callS1r (pc := 1) dX9_wipe_1 ws_X9_120 cd_X9_isText (S_X9_isText _ _ _ e1) (by decide) (by decide) (Nat.le_of_ble_eq_true rfl) ?_
  refine G_if_ne (pc := 4) 10 dX9_wipe_4 (by decide) (fun c2 => ?_) (fun c2 => ?_)
  · replace h := itn c2 h
    refine G_aload_n (pc := 10) 0 dX9_wipe_10 rfl ?_
    refine gwM_X9_25_0 (pc := 11) dX9_wipe_11 ?_
    refine G_iload_n (pc := 14) 1 dX9_wipe_14 rfl ?_
    obtain ⟨g3, h⟩ := gi_some h
    refine alwM_6 (pc := 15) dX9_wipe_15 g3 ?_
    refine G_istore_n (pc := 16) [(2, .int _), (0, .ref _), (1, .int _)] dX9_wipe_16 (Nat.le_of_ble_eq_true rfl) rfl ?_
    refine G_aload_n (pc := 17) 1 dX9_wipe_17 rfl ?_
    refine gwM_X9_25_0 (pc := 18) dX9_wipe_18 ?_
    refine G_iload_n (pc := 21) 2 dX9_wipe_21 rfl ?_
    refine G_iconst (pc := 22) (0) dX9_wipe_22 ci_0 ?_
    obtain ⟨g4, h⟩ := gi_some h
    refine aswM_6 (pc := 23) dX9_wipe_23 g4 ?_
    refine G_iload_n (pc := 24) 0 dX9_wipe_24 rfl ?_
    obtain rfl := Option.some.inj h
    exact G_iret (pc := 25) rfl dX9_wipe_25
  · replace h := itp c2 h
    refine G_bipush (pc := 7) (-2) dX9_wipe_7 bp_m2 ?_
    obtain rfl := Option.some.inj h
    exact G_iret (pc := 9) rfl dX9_wipe_9
def F_X9_undo (x1 : Int32) (μ : Mm) : Option (Int32 × Mm) := (F_X9_isText x1 μ).bind (fun q1 => if q1.1 = 0 then some ((-2), q1.2) else gi x1 3 (if (q1.2.1 6 x1.toNatClampNeg) = 0 then some ((-3), q1.2) else gi x1 3 (gi x1 3 (gi x1 3 (some (((wI q1.2 6 x1.toNatClampNeg ((q1.2.1 6 x1.toNatClampNeg) - 1)).1 6 x1.toNatClampNeg), (wI q1.2 6 x1.toNatClampNeg ((q1.2.1 6 x1.toNatClampNeg) - 1))))))))
set_option maxRecDepth 100000 in
set_option maxHeartbeats 4000000 in
theorem S_X9_undo (x1 : Int32)  (μ : Mm) (q : (Int32 × Mm)) (h : F_X9_undo x1 μ = some q) : Cn wM yX9_undo cX9_undo 2 (some .int) 2 [.ref 0, .int x1] μ (some (.int q.1)) q.2 := by
  refine Cn_of (by decide +kernel) (Nat.le_of_ble_eq_true rfl) ?_
  show G wM RX9 cX9_undo 2 (some .int) 2 (some (.int q.1)) q.2 0 [(0, .ref 0), (1, .int x1)] [] μ
  unfold F_X9_undo at h
  refine G_iload_n (pc := 0) 1 dX9_undo_0 rfl ?_
  obtain ⟨q1, e1, h⟩ := bnd_some h
  refine G_callS1r (pc := 1) dX9_undo_1 ws_X9_120 cd_X9_isText (S_X9_isText _ _ _ e1) (by decide) (by decide) (Nat.le_of_ble_eq_true rfl) ?_
  refine G_if_ne (pc := 4) 10 dX9_undo_4 (by decide) (fun c2 => ?_) (fun c2 => ?_)
  · replace h := itn c2 h
    refine G_aload_n (pc := 10) 0 dX9_undo_10 rfl ?_
    refine gwM_X9_25_0 (pc := 11) dX9_undo_11 ?_
    refine G_iload_n (pc := 14) 1 dX9_undo_14 rfl ?_
    obtain ⟨g3, h⟩ := gi_some h
    refine alwM_6 (pc := 15) dX9_undo_15 g3 ?_
    refine G_if_ne (pc := 16) 22 dX9_undo_16 (by decide) (fun c4 => ?_) (fun c4 => ?_)
    · replace h := itn c4 h
      refine G_aload_n (pc := 22) 0 dX9_undo_22 rfl ?_
      refine gwM_X9_25_0 (pc := 23) dX9_undo_23 ?_
      refine G_iload_n (pc := 26) 1 dX9_undo_26 rfl ?_
      refine G_dup2 (pc := 27) dX9_undo_27 rfl rfl ?_
      obtain ⟨g5, h⟩ := gi_some h
      refine alwM_6 (pc := 28) dX9_undo_28 g5 ?_
      refine G_iconst (pc := 29) (1) dX9_undo_29 ci_1 ?_
      refine G_isub (pc := 30) dX9_undo_30 ?_
      obtain ⟨g6, h⟩ := gi_some h
      refine aswM_6 (pc := 31) dX9_undo_31 g6 ?_
      refine G_aload_n (pc := 32) 0 dX9_undo_32 rfl ?_
      refine gwM_X9_25_0 (pc := 33) dX9_undo_33 ?_
      refine G_iload_n (pc := 36) 1 dX9_undo_36 rfl ?_
      obtain ⟨g7, h⟩ := gi_some h
      refine alwM_6 (pc := 37) dX9_undo_37 g7 ?_
      obtain rfl := Option.some.inj h
      exact G_iret (pc := 38) rfl dX9_undo_38
    · replace h := itp c4 h
      refine G_bipush (pc := 19) (-3) dX9_undo_19 bp_m3 ?_
      obtain rfl := Option.some.inj h
      exact G_iret (pc := 21) rfl dX9_undo_21
  · replace h := itp c2 h
    refine G_bipush (pc := 7) (-2) dX9_undo_7 bp_m2 ?_
    obtain rfl := Option.some.inj h
    exact G_iret (pc := 9) rfl dX9_undo_9
def L_X9_clears_2 : Nat → Int32 → Int32 → Mm → Option (Int32 × Mm)
  | 0, _, _, _ => none
  | n + 1, x1, x2, μ => if 12 ≤ x2 then some (x1, (wI μ 0 11 0)) else gi x2 12 (L_X9_clears_2 n x1 (x2 + 1) (wI μ 9 x2.toNatClampNeg 0))
set_option maxRecDepth 100000 in
set_option maxHeartbeats 4000000 in
theorem L_X9_clears_2_s (n : Nat) (x1 : Int32) (x2 : Int32) (μ : Mm) : L_X9_clears_2  (n + 1) x1 x2 μ = (if 12 ≤ x2 then some (x1, (wI μ 0 11 0)) else gi x2 12 (L_X9_clears_2 n x1 (x2 + 1) (wI μ 9 x2.toNatClampNeg 0))) := rfl
set_option maxRecDepth 100000 in
set_option maxHeartbeats 4000000 in
theorem B_X9_clears_2 : ∀ (n : Nat) (x1 : Int32) (x2 : Int32) (μ : Mm) (q : (Int32 × Mm)), L_X9_clears_2  n x1 x2 μ = some q → G wM RX9 cX9_clears 3 (some .int) 0 (some (.int q.1)) q.2 2 [(0, .ref 0), (1, .int x1), (2, .int x2)] [] μ := by
  intro n
  induction n with
  | zero =>
    intro x1 x2 μ q  h
    cases h
  | succ n ih =>
    intro x1 x2 μ q  h
    rw [L_X9_clears_2_s] at h
    refine G_iload_n (pc := 2) 2 dX9_clears_2 rfl ?_
    refine G_bipush (pc := 3) (12) dX9_clears_3 bp_12 ?_
    refine G_icmp_ge (pc := 5) 21 dX9_clears_5 (by decide) (fun c1 => ?_) (fun c1 => ?_)
    · replace h := itp c1 h
      refine G_aload_n (pc := 21) 0 dX9_clears_21 rfl ?_
      refine G_iconst (pc := 22) (0) dX9_clears_22 ci_0 ?_
      refine pwM_X9_137_0 (pc := 23) dX9_clears_23 ?_
      refine G_iload_n (pc := 26) 1 dX9_clears_26 rfl ?_
      obtain rfl := Option.some.inj h
      exact G_iret (pc := 27) rfl dX9_clears_27
    · replace h := itn c1 h
      refine G_aload_n (pc := 8) 0 dX9_clears_8 rfl ?_
      refine gwM_X9_34_0 (pc := 9) dX9_clears_9 ?_
      refine G_iload_n (pc := 12) 2 dX9_clears_12 rfl ?_
      refine G_iconst (pc := 13) (0) dX9_clears_13 ci_0 ?_
      obtain ⟨g2, h⟩ := gi_some h
      refine aswM_9 (pc := 14) dX9_clears_14 g2 ?_
      refine G_iinc (pc := 15) (1) 2 [(2, .int _), (0, .ref _), (1, .int _)] dX9_clears_15 ci_1 rfl (Nat.le_of_ble_eq_true rfl) rfl ?_
      refine G_goto (pc := 18) 2 dX9_clears_18 (by decide) ?_
      refine G_loc [1, 2, 0] [(0, .ref _), (1, .int _), (2, .int _)] rfl ?_
      exact ih _ _ _ _ h
def F_X9_clears (x1 : Int32) (μ : Mm) : Option (Int32 × Mm) := L_X9_clears_2 FUEL x1 0 μ
set_option maxRecDepth 100000 in
set_option maxHeartbeats 4000000 in
theorem S_X9_clears (x1 : Int32)  (μ : Mm) (q : (Int32 × Mm)) (h : F_X9_clears x1 μ = some q) : Cn wM yX9_clears cX9_clears 3 (some .int) 0 [.ref 0, .int x1] μ (some (.int q.1)) q.2 := by
  refine Cn_of (by decide +kernel) (Nat.le_of_ble_eq_true rfl) ?_
  show G wM RX9 cX9_clears 3 (some .int) 0 (some (.int q.1)) q.2 0 [(0, .ref 0), (1, .int x1)] [] μ
  unfold F_X9_clears at h
  refine G_iconst (pc := 0) (0) dX9_clears_0 ci_0 ?_
  refine G_istore_n (pc := 1) [(2, .int _), (0, .ref _), (1, .int _)] dX9_clears_1 (Nat.le_of_ble_eq_true rfl) rfl ?_
  refine G_loc [1, 2, 0] [(0, .ref _), (1, .int _), (2, .int _)] rfl ?_
  exact B_X9_clears_2 _ _ _ _ _ h
def F_X9_figureOf (x0 : Int32) (x1 : Int32) (x2 : Int32) (μ : Mm) : Option (Int32 × Mm) := (F_X9_in x0.toInt64 ((48 + x1).toInt64) ((48 + x2).toInt64) μ).bind (fun q1 => some ((if q1.1 = 0 then (-9) else (x0 - 48)), q1.2))
set_option maxRecDepth 100000 in
set_option maxHeartbeats 4000000 in
theorem S_X9_figureOf (x0 : Int32) (x1 : Int32) (x2 : Int32)  (μ : Mm) (q : (Int32 × Mm)) (h : F_X9_figureOf x0 x1 x2 μ = some q) : Cn wM yX9_figureOf cX9_figureOf 3 (some .int) 1 [.int x0, .int x1, .int x2] μ (some (.int q.1)) q.2 := by
  refine Cn_of (by decide +kernel) (Nat.le_of_ble_eq_true rfl) ?_
  show G wM RX9 cX9_figureOf 3 (some .int) 1 (some (.int q.1)) q.2 0 [(0, .int x0), (1, .int x1), (2, .int x2)] [] μ
  unfold F_X9_figureOf at h
  refine G_iload_n (pc := 0) 0 dX9_figureOf_0 rfl ?_
  refine G_i2l (pc := 1) dX9_figureOf_1 ?_
  refine G_bipush (pc := 2) (48) dX9_figureOf_2 bp_48 ?_
  refine G_iload_n (pc := 4) 1 dX9_figureOf_4 rfl ?_
  refine G_iadd (pc := 5) dX9_figureOf_5 ?_
  refine G_i2l (pc := 6) dX9_figureOf_6 ?_
  refine G_bipush (pc := 7) (48) dX9_figureOf_7 bp_48 ?_
  refine G_iload_n (pc := 9) 2 dX9_figureOf_9 rfl ?_
  refine G_iadd (pc := 10) dX9_figureOf_10 ?_
  refine G_i2l (pc := 11) dX9_figureOf_11 ?_
  obtain ⟨q1, e1, h⟩ := bnd_some h
  refine G_callS3r (pc := 12) dX9_figureOf_12 ws_X9_92 cd_X9_in (S_X9_in _ _ _ _ _ e1) (by decide) (by decide) (Nat.le_of_ble_eq_true rfl) ?_
  refine G_if_eq (pc := 15) 25 dX9_figureOf_15 (by decide) (fun c2 => ?_) (fun c2 => ?_)
  · rw [if_pos c2] at h
    refine G_bipush (pc := 25) (-9) dX9_figureOf_25 bp_m9 ?_
    obtain rfl := Option.some.inj h
    exact G_iret (pc := 27) rfl dX9_figureOf_27
  · rw [if_neg c2] at h
    refine G_iload_n (pc := 18) 0 dX9_figureOf_18 rfl ?_
    refine G_bipush (pc := 19) (48) dX9_figureOf_19 bp_48 ?_
    refine G_isub (pc := 21) dX9_figureOf_21 ?_
    refine G_goto (pc := 22) 27 dX9_figureOf_22 (by decide) ?_
    obtain rfl := Option.some.inj h
    exact G_iret (pc := 27) rfl dX9_figureOf_27
def L_X9_readsBox_8 : Nat → Int32 → Mm → Option (Int32 × Mm)
  | 0, _, _ => none
  | n + 1, x1, μ => gi 2 3 (if (μ.1 6 (2 : Int32).toNatClampNeg) ≤ x1 then some ((-1), μ) else gi (80 + x1) 120 ((F_X9_figureOf (μ.1 5 (80 + x1).toNatClampNeg) 0 3 μ).bind (fun q5 => if q5.1 = (-9) then (F_X9_clears x1 q5.2).bind (fun q8 => some (q8.1, q8.2)) else gi x1 12 (L_X9_readsBox_8 n (x1 + 1) (wI (wI q5.2 9 x1.toNatClampNeg q5.1) 0 11 (((wI q5.2 9 x1.toNatClampNeg q5.1).1 0 11) + 1))))))
set_option maxRecDepth 100000 in
set_option maxHeartbeats 4000000 in
theorem L_X9_readsBox_8_s (n : Nat) (x1 : Int32) (μ : Mm) : L_X9_readsBox_8  (n + 1) x1 μ = (gi 2 3 (if (μ.1 6 (2 : Int32).toNatClampNeg) ≤ x1 then some ((-1), μ) else gi (80 + x1) 120 ((F_X9_figureOf (μ.1 5 (80 + x1).toNatClampNeg) 0 3 μ).bind (fun q5 => if q5.1 = (-9) then (F_X9_clears x1 q5.2).bind (fun q8 => some (q8.1, q8.2)) else gi x1 12 (L_X9_readsBox_8 n (x1 + 1) (wI (wI q5.2 9 x1.toNatClampNeg q5.1) 0 11 (((wI q5.2 9 x1.toNatClampNeg q5.1).1 0 11) + 1))))))) := rfl
set_option maxRecDepth 100000 in
set_option maxHeartbeats 4000000 in
theorem B_X9_readsBox_8 : ∀ (n : Nat) (x1 : Int32) (μ : Mm) (q : (Int32 × Mm)), L_X9_readsBox_8  n x1 μ = some q → G wM RX9 cX9_readsBox 3 (some .int) 2 (some (.int q.1)) q.2 8 [(0, .ref 0), (1, .int x1)] [] μ := by
  intro n
  induction n with
  | zero =>
    intro x1 μ q  h
    cases h
  | succ n ih =>
    intro x1 μ q  h
    rw [L_X9_readsBox_8_s] at h
    refine G_iload_n (pc := 8) 1 dX9_readsBox_8 rfl ?_
    refine G_aload_n (pc := 9) 0 dX9_readsBox_9 rfl ?_
    refine gwM_X9_25_0 (pc := 10) dX9_readsBox_10 ?_
    refine G_iconst (pc := 13) (2) dX9_readsBox_13 ci_2 ?_
    obtain ⟨g2, h⟩ := gi_some h
    refine alwM_6 (pc := 14) dX9_readsBox_14 g2 ?_
    refine G_icmp_ge (pc := 15) 68 dX9_readsBox_15 (by decide) (fun c3 => ?_) (fun c3 => ?_)
    · replace h := itp c3 h
      refine G_iconst (pc := 68) (-1) dX9_readsBox_68 ci_m1 ?_
      obtain rfl := Option.some.inj h
      exact G_iret (pc := 69) rfl dX9_readsBox_69
    · replace h := itn c3 h
      refine G_aload_n (pc := 18) 0 dX9_readsBox_18 rfl ?_
      refine gwM_X9_22_0 (pc := 19) dX9_readsBox_19 ?_
      refine G_bipush (pc := 22) (80) dX9_readsBox_22 bp_80 ?_
      refine G_iload_n (pc := 24) 1 dX9_readsBox_24 rfl ?_
      refine G_iadd (pc := 25) dX9_readsBox_25 ?_
      obtain ⟨g4, h⟩ := gi_some h
      refine alwM_5 (pc := 26) dX9_readsBox_26 g4 ?_
      refine G_iconst (pc := 27) (0) dX9_readsBox_27 ci_0 ?_
      refine G_iconst (pc := 28) (3) dX9_readsBox_28 ci_3 ?_
      obtain ⟨q5, e5, h⟩ := bnd_some h
      refine G_callS3r (pc := 29) dX9_readsBox_29 ws_X9_125 cd_X9_figureOf (S_X9_figureOf _ _ _ _ _ e5) (by decide) (by decide) (Nat.le_of_ble_eq_true rfl) ?_
      refine G_istore_n (pc := 32) [(2, .int _), (0, .ref _), (1, .int _)] dX9_readsBox_32 (Nat.le_of_ble_eq_true rfl) rfl ?_
      refine G_iload_n (pc := 33) 0 dX9_readsBox_33 rfl ?_
      refine G_bipush (pc := 34) (-9) dX9_readsBox_34 bp_m9 ?_
      refine G_icmp_ne (pc := 36) 45 dX9_readsBox_36 (by decide) (fun c6 => ?_) (fun c6 => ?_)
      · replace h := itn c6 h
        refine G_aload_n (pc := 45) 1 dX9_readsBox_45 rfl ?_
        refine gwM_X9_34_0 (pc := 46) dX9_readsBox_46 ?_
        refine G_iload_n (pc := 49) 2 dX9_readsBox_49 rfl ?_
        refine G_iload_n (pc := 50) 0 dX9_readsBox_50 rfl ?_
        obtain ⟨g7, h⟩ := gi_some h
        refine aswM_9 (pc := 51) dX9_readsBox_51 g7 ?_
        refine G_aload_n (pc := 52) 1 dX9_readsBox_52 rfl ?_
        refine G_dup (pc := 53) dX9_readsBox_53 rfl ?_
        refine gwM_X9_137_0 (pc := 54) dX9_readsBox_54 ?_
        refine G_iconst (pc := 57) (1) dX9_readsBox_57 ci_1 ?_
        refine G_iadd (pc := 58) dX9_readsBox_58 ?_
        refine pwM_X9_137_0 (pc := 59) dX9_readsBox_59 ?_
        refine G_iinc (pc := 62) (1) 2 [(1, .int _), (2, .int _), (0, .ref _)] dX9_readsBox_62 ci_1 rfl (Nat.le_of_ble_eq_true rfl) rfl ?_
        refine G_goto (pc := 65) 8 dX9_readsBox_65 (by decide) ?_
        refine G_loc [2, 0] [(0, .ref _), (1, .int _)] rfl ?_
        exact ih _ _ _ h
      · replace h := itp c6 h
        refine G_aload_n (pc := 39) 1 dX9_readsBox_39 rfl ?_
        refine G_iload_n (pc := 40) 2 dX9_readsBox_40 rfl ?_
        obtain ⟨q8, e8, h⟩ := bnd_some h
        refine G_callV1r (pc := 41) 0 8 dX9_readsBox_41 wv_X9_140 cd_X9_clears (S_X9_clears _ _ _ e8) (by decide) (by decide) rfl (by decide) (fun _ _ => ⟨_, rfl⟩) (Nat.le_of_ble_eq_true rfl) ?_
        obtain rfl := Option.some.inj h
        exact G_iret (pc := 44) rfl dX9_readsBox_44
def F_X9_readsBox  (μ : Mm) : Option (Int32 × Mm) := (F_X9_clears (-1) μ).bind (fun q1 => L_X9_readsBox_8 FUEL 0 q1.2)
set_option maxRecDepth 100000 in
set_option maxHeartbeats 4000000 in
theorem S_X9_readsBox   (μ : Mm) (q : (Int32 × Mm)) (h : F_X9_readsBox  μ = some q) : Cn wM yX9_readsBox cX9_readsBox 3 (some .int) 2 [.ref 0] μ (some (.int q.1)) q.2 := by
  refine Cn_of (by decide +kernel) (Nat.le_of_ble_eq_true rfl) ?_
  show G wM RX9 cX9_readsBox 3 (some .int) 2 (some (.int q.1)) q.2 0 [(0, .ref 0)] [] μ
  unfold F_X9_readsBox at h
  refine G_aload_n (pc := 0) 0 dX9_readsBox_0 rfl ?_
  refine G_iconst (pc := 1) (-1) dX9_readsBox_1 ci_m1 ?_
  obtain ⟨q1, e1, h⟩ := bnd_some h
  refine G_callV1r (pc := 2) 0 8 dX9_readsBox_2 wv_X9_140 cd_X9_clears (S_X9_clears _ _ _ e1) (by decide) (by decide) rfl (by decide) (fun _ _ => ⟨_, rfl⟩) (Nat.le_of_ble_eq_true rfl) ?_
  refine G_pop (pc := 5) dX9_readsBox_5 rfl ?_
  refine G_iconst (pc := 6) (0) dX9_readsBox_6 ci_0 ?_
  refine G_istore_n (pc := 7) [(1, .int _), (0, .ref _)] dX9_readsBox_7 (Nat.le_of_ble_eq_true rfl) rfl ?_
  refine G_loc [1, 0] [(0, .ref _), (1, .int _)] rfl ?_
  exact B_X9_readsBox_8 _ _ _ _ h
def F_X9_byteOf (x0 : Int32) (x1 : Int32) (x2 : Int32) (μ : Mm) : Option (Int32 × Mm) := if x0 = 0 then some ((if x1 = 115 then 0 else (if x1 = 99 then 1 else (if x1 = 119 then 2 else (-9)))), μ) else if x0 = 1 then (F_X9_figureOf x1 x2 9 μ).bind (fun q6 => some (q6.1, q6.2)) else if x0 = 2 then (F_X9_figureOf x1 0 5 μ).bind (fun q5 => some (q5.1, q5.2)) else some ((if x1 = 59 then 0 else (-9)), μ)
set_option maxRecDepth 100000 in
set_option maxHeartbeats 4000000 in
theorem S_X9_byteOf (x0 : Int32) (x1 : Int32) (x2 : Int32)  (μ : Mm) (q : (Int32 × Mm)) (h : F_X9_byteOf x0 x1 x2 μ = some q) : Cn wM yX9_byteOf cX9_byteOf 3 (some .int) 2 [.int x0, .int x1, .int x2] μ (some (.int q.1)) q.2 := by
  refine Cn_of (by decide +kernel) (Nat.le_of_ble_eq_true rfl) ?_
  show G wM RX9 cX9_byteOf 3 (some .int) 2 (some (.int q.1)) q.2 0 [(0, .int x0), (1, .int x1), (2, .int x2)] [] μ
  unfold F_X9_byteOf at h
  refine G_iload_n (pc := 0) 0 dX9_byteOf_0 rfl ?_
  by_cases c1 : x0 = 0
  · replace h := itp c1 h
    refine G_tswV (pc := 1) 28 (0) c1 dX9_byteOf_1 (by decide) (by decide) rfl (by decide) ?_
    refine G_iload_n (pc := 28) 1 dX9_byteOf_28 rfl ?_
    refine G_bipush (pc := 29) (115) dX9_byteOf_29 bp_115 ?_
    refine G_icmp_ne (pc := 31) 38 dX9_byteOf_31 (by decide) (fun c7 => ?_) (fun c7 => ?_)
    · rw [if_neg c7] at h
      refine G_iload_n (pc := 38) 1 dX9_byteOf_38 rfl ?_
      refine G_bipush (pc := 39) (99) dX9_byteOf_39 bp_99 ?_
      refine G_icmp_ne (pc := 41) 48 dX9_byteOf_41 (by decide) (fun c8 => ?_) (fun c8 => ?_)
      · rw [if_neg c8] at h
        refine G_iload_n (pc := 48) 1 dX9_byteOf_48 rfl ?_
        refine G_bipush (pc := 49) (119) dX9_byteOf_49 bp_119 ?_
        refine G_icmp_ne (pc := 51) 58 dX9_byteOf_51 (by decide) (fun c9 => ?_) (fun c9 => ?_)
        · rw [if_neg c9] at h
          refine G_bipush (pc := 58) (-9) dX9_byteOf_58 bp_m9 ?_
          obtain rfl := Option.some.inj h
          exact G_iret (pc := 60) rfl dX9_byteOf_60
        · rw [if_pos c9] at h
          refine G_iconst (pc := 54) (2) dX9_byteOf_54 ci_2 ?_
          refine G_goto (pc := 55) 60 dX9_byteOf_55 (by decide) ?_
          obtain rfl := Option.some.inj h
          exact G_iret (pc := 60) rfl dX9_byteOf_60
      · rw [if_pos c8] at h
        refine G_iconst (pc := 44) (1) dX9_byteOf_44 ci_1 ?_
        refine G_goto (pc := 45) 60 dX9_byteOf_45 (by decide) ?_
        obtain rfl := Option.some.inj h
        exact G_iret (pc := 60) rfl dX9_byteOf_60
    · rw [if_pos c7] at h
      refine G_iconst (pc := 34) (0) dX9_byteOf_34 ci_0 ?_
      refine G_goto (pc := 35) 60 dX9_byteOf_35 (by decide) ?_
      obtain rfl := Option.some.inj h
      exact G_iret (pc := 60) rfl dX9_byteOf_60
  · replace h := itn c1 h
    by_cases c2 : x0 = 1
    · replace h := itp c2 h
      refine G_tswV (pc := 1) 61 (1) c2 dX9_byteOf_1 (by decide) (by decide) rfl (by decide) ?_
      refine G_iload_n (pc := 61) 1 dX9_byteOf_61 rfl ?_
      refine G_iload_n (pc := 62) 2 dX9_byteOf_62 rfl ?_
      refine G_bipush (pc := 63) (9) dX9_byteOf_63 bp_9 ?_
      obtain ⟨q6, e6, h⟩ := bnd_some h
      refine G_callS3r (pc := 65) dX9_byteOf_65 ws_X9_125 cd_X9_figureOf (S_X9_figureOf _ _ _ _ _ e6) (by decide) (by decide) (Nat.le_of_ble_eq_true rfl) ?_
      obtain rfl := Option.some.inj h
      exact G_iret (pc := 68) rfl dX9_byteOf_68
    · replace h := itn c2 h
      by_cases c3 : x0 = 2
      · replace h := itp c3 h
        refine G_tswV (pc := 1) 69 (2) c3 dX9_byteOf_1 (by decide) (by decide) rfl (by decide) ?_
        refine G_iload_n (pc := 69) 1 dX9_byteOf_69 rfl ?_
        refine G_iconst (pc := 70) (0) dX9_byteOf_70 ci_0 ?_
        refine G_iconst (pc := 71) (5) dX9_byteOf_71 ci_5 ?_
        obtain ⟨q5, e5, h⟩ := bnd_some h
        refine G_callS3r (pc := 72) dX9_byteOf_72 ws_X9_125 cd_X9_figureOf (S_X9_figureOf _ _ _ _ _ e5) (by decide) (by decide) (Nat.le_of_ble_eq_true rfl) ?_
        obtain rfl := Option.some.inj h
        exact G_iret (pc := 75) rfl dX9_byteOf_75
      · replace h := itn c3 h
        refine G_tswOut (pc := 1) 76 dX9_byteOf_1 (tswO 3 (by decide) (lt_s (lt_s (lt_s lt_0 c1) c2) c3)) (by decide) ?_
        refine G_iload_n (pc := 76) 1 dX9_byteOf_76 rfl ?_
        refine G_bipush (pc := 77) (59) dX9_byteOf_77 bp_59 ?_
        refine G_icmp_ne (pc := 79) 86 dX9_byteOf_79 (by decide) (fun c4 => ?_) (fun c4 => ?_)
        · rw [if_neg c4] at h
          refine G_bipush (pc := 86) (-9) dX9_byteOf_86 bp_m9 ?_
          obtain rfl := Option.some.inj h
          exact G_iret (pc := 88) rfl dX9_byteOf_88
        · rw [if_pos c4] at h
          refine G_iconst (pc := 82) (0) dX9_byteOf_82 ci_0 ?_
          refine G_goto (pc := 83) 88 dX9_byteOf_83 (by decide) ?_
          obtain rfl := Option.some.inj h
          exact G_iret (pc := 88) rfl dX9_byteOf_88
def F_X9_readsJudges_87 (K14 : Int32 → Int32 → Mm → Option (Int32 × Mm)) (x1 : Int32) (x2 : Int32) (y0 : Int32) (y1 : Int32) (μ : Mm) : Option (Int32 × Mm) := K14 x1 (x2 + 1) (wI μ 0 9 (y1 + y0))
set_option maxRecDepth 100000 in
set_option maxHeartbeats 4000000 in
theorem B_X9_readsJudges_87 (K14 : Int32 → Int32 → Mm → Option (Int32 × Mm)) (hK14 : ∀ (x1 : Int32) (x2 : Int32) (μ : Mm) (q : (Int32 × Mm)), K14 x1 x2 μ = some q → G wM RX9 cX9_readsJudges 5 (some .int) 3 (some (.int q.1)) q.2 14 [(0, .ref 0), (1, .int x1), (2, .int x2)] [] μ) (x1 : Int32) (x2 : Int32) (y0 : Int32) (y1 : Int32) (μ : Mm) (q : (Int32 × Mm))  (h : F_X9_readsJudges_87 K14 x1 x2 y0 y1 μ = some q) : G wM RX9 cX9_readsJudges 5 (some .int) 3 (some (.int q.1)) q.2 87 [(0, .ref 0), (1, .int x1), (2, .int x2)] [.int y0, .int y1, .ref 0] μ := by
  unfold F_X9_readsJudges_87 at h
  refine G_iadd (pc := 87) dX9_readsJudges_87 ?_
  refine pwM_X9_134_0 (pc := 88) dX9_readsJudges_88 ?_
  refine G_iinc (pc := 91) (1) 2 [(2, .int _), (0, .ref _), (1, .int _)] dX9_readsJudges_91 ci_1 rfl (Nat.le_of_ble_eq_true rfl) rfl ?_
  refine G_goto (pc := 94) 14 dX9_readsJudges_94 (by decide) ?_
  refine G_loc [1, 2, 0] [(0, .ref _), (1, .int _), (2, .int _)] rfl ?_
  exact hK14 _ _ _ _ h
def F_X9_readsJudges_72 (K14 : Int32 → Int32 → Mm → Option (Int32 × Mm)) (x1 : Int32) (x2 : Int32) (x3 : Int32) (μ : Mm) : Option (Int32 × Mm) := F_X9_readsJudges_87 K14 x1 x2 (if x3 = 2 then 1 else 0) (μ.1 0 9) μ
set_option maxRecDepth 100000 in
set_option maxHeartbeats 4000000 in
theorem B_X9_readsJudges_72 (K14 : Int32 → Int32 → Mm → Option (Int32 × Mm)) (hK14 : ∀ (x1 : Int32) (x2 : Int32) (μ : Mm) (q : (Int32 × Mm)), K14 x1 x2 μ = some q → G wM RX9 cX9_readsJudges 5 (some .int) 3 (some (.int q.1)) q.2 14 [(0, .ref 0), (1, .int x1), (2, .int x2)] [] μ) (x1 : Int32) (x2 : Int32) (x3 : Int32) (μ : Mm) (q : (Int32 × Mm))  (h : F_X9_readsJudges_72 K14 x1 x2 x3 μ = some q) : G wM RX9 cX9_readsJudges 5 (some .int) 3 (some (.int q.1)) q.2 72 [(0, .ref 0), (1, .int x1), (2, .int x2), (3, .int x3)] [] μ := by
  unfold F_X9_readsJudges_72 at h
  refine G_aload_n (pc := 72) 0 dX9_readsJudges_72 rfl ?_
  refine G_dup (pc := 73) dX9_readsJudges_73 rfl ?_
  refine gwM_X9_134_0 (pc := 74) dX9_readsJudges_74 ?_
  refine G_iload_n (pc := 77) 3 dX9_readsJudges_77 rfl ?_
  refine G_iconst (pc := 78) (2) dX9_readsJudges_78 ci_2 ?_
  refine G_icmp_ne (pc := 79) 86 dX9_readsJudges_79 (by decide) (fun c9 => ?_) (fun c9 => ?_)
  · rw [if_neg c9] at h
    refine G_iconst (pc := 86) (0) dX9_readsJudges_86 ci_0 ?_
    refine G_loc [0, 1, 2] [(0, .ref _), (1, .int _), (2, .int _)] rfl ?_
    exact B_X9_readsJudges_87 _ hK14 _ _ _ _ _ _ h
  · rw [if_pos c9] at h
    refine G_iconst (pc := 82) (1) dX9_readsJudges_82 ci_1 ?_
    refine G_goto (pc := 83) 87 dX9_readsJudges_83 (by decide) ?_
    refine G_loc [0, 1, 2] [(0, .ref _), (1, .int _), (2, .int _)] rfl ?_
    exact B_X9_readsJudges_87 _ hK14 _ _ _ _ _ _ h
def L_X9_readsJudges_14 : Nat → Int32 → Int32 → Mm → Option (Int32 × Mm)
  | 0, _, _, _ => none
  | n + 1, x1, x2, μ => if x1 ≤ x2 then if x1 ≤ 0 then some ((-1), μ) else if (x1 - x1 / 4 * 4) = 3 then some ((-1), μ) else some (x1, (wI μ 0 9 0)) else gi (40 + x2) 120 ((F_X9_byteOf (x2 - x2 / 4 * 4) (μ.1 5 (40 + x2).toNatClampNeg) 1 μ).bind (fun q6 => if q6.1 = (-9) then some (x2, (wI q6.2 0 9 0)) else if 3 ≤ (x2 - x2 / 4 * 4) then F_X9_readsJudges_72 (L_X9_readsJudges_14 n) x1 x2 (x2 - x2 / 4 * 4) q6.2 else gi ((3 * (x2 / 4)) + (x2 - x2 / 4 * 4)) 12 (F_X9_readsJudges_72 (L_X9_readsJudges_14 n) x1 x2 (x2 - x2 / 4 * 4) (wI q6.2 8 ((3 * (x2 / 4)) + (x2 - x2 / 4 * 4)).toNatClampNeg q6.1))))
set_option maxRecDepth 100000 in
set_option maxHeartbeats 4000000 in
theorem L_X9_readsJudges_14_s (n : Nat) (x1 : Int32) (x2 : Int32) (μ : Mm) : L_X9_readsJudges_14  (n + 1) x1 x2 μ = (if x1 ≤ x2 then if x1 ≤ 0 then some ((-1), μ) else if (x1 - x1 / 4 * 4) = 3 then some ((-1), μ) else some (x1, (wI μ 0 9 0)) else gi (40 + x2) 120 ((F_X9_byteOf (x2 - x2 / 4 * 4) (μ.1 5 (40 + x2).toNatClampNeg) 1 μ).bind (fun q6 => if q6.1 = (-9) then some (x2, (wI q6.2 0 9 0)) else if 3 ≤ (x2 - x2 / 4 * 4) then F_X9_readsJudges_72 (L_X9_readsJudges_14 n) x1 x2 (x2 - x2 / 4 * 4) q6.2 else gi ((3 * (x2 / 4)) + (x2 - x2 / 4 * 4)) 12 (F_X9_readsJudges_72 (L_X9_readsJudges_14 n) x1 x2 (x2 - x2 / 4 * 4) (wI q6.2 8 ((3 * (x2 / 4)) + (x2 - x2 / 4 * 4)).toNatClampNeg q6.1))))) := rfl
set_option maxRecDepth 100000 in
set_option maxHeartbeats 4000000 in
theorem B_X9_readsJudges_14 : ∀ (n : Nat) (x1 : Int32) (x2 : Int32) (μ : Mm) (q : (Int32 × Mm)), L_X9_readsJudges_14  n x1 x2 μ = some q → G wM RX9 cX9_readsJudges 5 (some .int) 3 (some (.int q.1)) q.2 14 [(0, .ref 0), (1, .int x1), (2, .int x2)] [] μ := by
  intro n
  induction n with
  | zero =>
    intro x1 x2 μ q  h
    cases h
  | succ n ih =>
    intro x1 x2 μ q  h
    rw [L_X9_readsJudges_14_s] at h
    refine G_iload_n (pc := 14) 2 dX9_readsJudges_14 rfl ?_
    refine G_iload_n (pc := 15) 1 dX9_readsJudges_15 rfl ?_
    refine G_icmp_ge (pc := 16) 97 dX9_readsJudges_16 (by decide) (fun c2 => ?_) (fun c2 => ?_)
    · replace h := itp c2 h
      refine G_iload_n (pc := 97) 1 dX9_readsJudges_97 rfl ?_
      refine G_if_le (pc := 98) 115 dX9_readsJudges_98 (by decide) (fun c3 => ?_) (fun c3 => ?_)
      · replace h := itp c3 h
        refine G_iconst (pc := 115) (-1) dX9_readsJudges_115 ci_m1 ?_
        obtain rfl := Option.some.inj h
        exact G_iret (pc := 116) rfl dX9_readsJudges_116
      · replace h := itn c3 h
        refine G_iload_n (pc := 101) 1 dX9_readsJudges_101 rfl ?_
        refine G_iconst (pc := 102) (4) dX9_readsJudges_102 ci_4 ?_
        refine G_irem (pc := 103) dX9_readsJudges_103 (by decide) ?_
        refine G_iconst (pc := 104) (3) dX9_readsJudges_104 ci_3 ?_
        refine G_icmp_eq (pc := 105) 115 dX9_readsJudges_105 (by decide) (fun c4 => ?_) (fun c4 => ?_)
        · replace h := itp c4 h
          refine G_iconst (pc := 115) (-1) dX9_readsJudges_115 ci_m1 ?_
          obtain rfl := Option.some.inj h
          exact G_iret (pc := 116) rfl dX9_readsJudges_116
        · replace h := itn c4 h
          refine G_aload_n (pc := 108) 0 dX9_readsJudges_108 rfl ?_
          refine G_iconst (pc := 109) (0) dX9_readsJudges_109 ci_0 ?_
          refine pwM_X9_134_0 (pc := 110) dX9_readsJudges_110 ?_
          refine G_iload_n (pc := 113) 1 dX9_readsJudges_113 rfl ?_
          obtain rfl := Option.some.inj h
          exact G_iret (pc := 114) rfl dX9_readsJudges_114
    · replace h := itn c2 h
      refine G_iload_n (pc := 19) 2 dX9_readsJudges_19 rfl ?_
      refine G_iconst (pc := 20) (4) dX9_readsJudges_20 ci_4 ?_
      refine G_irem (pc := 21) dX9_readsJudges_21 (by decide) ?_
      refine G_istore_n (pc := 22) [(3, .int _), (0, .ref _), (1, .int _), (2, .int _)] dX9_readsJudges_22 (Nat.le_of_ble_eq_true rfl) rfl ?_
      refine G_iload_n (pc := 23) 0 dX9_readsJudges_23 rfl ?_
      refine G_aload_n (pc := 24) 1 dX9_readsJudges_24 rfl ?_
      refine gwM_X9_22_0 (pc := 25) dX9_readsJudges_25 ?_
      refine G_bipush (pc := 28) (40) dX9_readsJudges_28 bp_40 ?_
      refine G_iload_n (pc := 30) 3 dX9_readsJudges_30 rfl ?_
      refine G_iadd (pc := 31) dX9_readsJudges_31 ?_
      obtain ⟨g5, h⟩ := gi_some h
      refine alwM_5 (pc := 32) dX9_readsJudges_32 g5 ?_
      refine G_iconst (pc := 33) (1) dX9_readsJudges_33 ci_1 ?_
      obtain ⟨q6, e6, h⟩ := bnd_some h
      refine G_callS3r (pc := 34) dX9_readsJudges_34 ws_X9_131 cd_X9_byteOf (S_X9_byteOf _ _ _ _ _ e6) (by decide) (by decide) (Nat.le_of_ble_eq_true rfl) ?_
      refine G_istore (pc := 37) [(4, .int _), (3, .int _), (0, .ref _), (1, .int _), (2, .int _)] dX9_readsJudges_37 (Nat.le_of_ble_eq_true rfl) rfl ?_
      refine G_iload (pc := 39) 0 dX9_readsJudges_39 rfl ?_
      refine G_bipush (pc := 41) (-9) dX9_readsJudges_41 bp_m9 ?_
      refine G_icmp_ne (pc := 43) 53 dX9_readsJudges_43 (by decide) (fun c7 => ?_) (fun c7 => ?_)
      · replace h := itn c7 h
        refine G_iload_n (pc := 53) 1 dX9_readsJudges_53 rfl ?_
        refine G_iconst (pc := 54) (3) dX9_readsJudges_54 ci_3 ?_
        refine G_icmp_ge (pc := 55) 72 dX9_readsJudges_55 (by decide) (fun c8 => ?_) (fun c8 => ?_)
        · replace h := itp c8 h
          refine G_loc [2, 3, 4, 1] [(0, .ref _), (1, .int _), (2, .int _), (3, .int _)] rfl ?_
          exact B_X9_readsJudges_72 _ ih _ _ _ _ _ h
        · replace h := itn c8 h
          refine G_aload_n (pc := 58) 2 dX9_readsJudges_58 rfl ?_
          refine gwM_X9_31_0 (pc := 59) dX9_readsJudges_59 ?_
          refine G_iconst (pc := 62) (3) dX9_readsJudges_62 ci_3 ?_
          refine G_iload_n (pc := 63) 4 dX9_readsJudges_63 rfl ?_
          refine G_iconst (pc := 64) (4) dX9_readsJudges_64 ci_4 ?_
          refine G_idiv (pc := 65) dX9_readsJudges_65 (by decide) ?_
          refine G_imul (pc := 66) dX9_readsJudges_66 ?_
          refine G_iload_n (pc := 67) 1 dX9_readsJudges_67 rfl ?_
          refine G_iadd (pc := 68) dX9_readsJudges_68 ?_
          refine G_iload (pc := 69) 0 dX9_readsJudges_69 rfl ?_
          obtain ⟨g10, h⟩ := gi_some h
          refine aswM_8 (pc := 71) dX9_readsJudges_71 g10 ?_
          refine G_loc [2, 3, 4, 1] [(0, .ref _), (1, .int _), (2, .int _), (3, .int _)] rfl ?_
          exact B_X9_readsJudges_72 _ ih _ _ _ _ _ h
      · replace h := itp c7 h
        refine G_aload_n (pc := 46) 2 dX9_readsJudges_46 rfl ?_
        refine G_iconst (pc := 47) (0) dX9_readsJudges_47 ci_0 ?_
        refine pwM_X9_134_0 (pc := 48) dX9_readsJudges_48 ?_
        refine G_iload_n (pc := 51) 4 dX9_readsJudges_51 rfl ?_
        obtain rfl := Option.some.inj h
        exact G_iret (pc := 52) rfl dX9_readsJudges_52
def F_X9_readsJudges  (μ : Mm) : Option (Int32 × Mm) := gi 1 3 (L_X9_readsJudges_14 FUEL ((wI μ 0 9 0).1 6 (1 : Int32).toNatClampNeg) 0 (wI μ 0 9 0))
set_option maxRecDepth 100000 in
set_option maxHeartbeats 4000000 in
theorem S_X9_readsJudges   (μ : Mm) (q : (Int32 × Mm)) (h : F_X9_readsJudges  μ = some q) : Cn wM yX9_readsJudges cX9_readsJudges 5 (some .int) 3 [.ref 0] μ (some (.int q.1)) q.2 := by
  refine Cn_of (by decide +kernel) (Nat.le_of_ble_eq_true rfl) ?_
  show G wM RX9 cX9_readsJudges 5 (some .int) 3 (some (.int q.1)) q.2 0 [(0, .ref 0)] [] μ
  unfold F_X9_readsJudges at h
  refine G_aload_n (pc := 0) 0 dX9_readsJudges_0 rfl ?_
  refine G_iconst (pc := 1) (0) dX9_readsJudges_1 ci_0 ?_
  refine pwM_X9_134_0 (pc := 2) dX9_readsJudges_2 ?_
  refine G_aload_n (pc := 5) 0 dX9_readsJudges_5 rfl ?_
  refine gwM_X9_25_0 (pc := 6) dX9_readsJudges_6 ?_
  refine G_iconst (pc := 9) (1) dX9_readsJudges_9 ci_1 ?_
  obtain ⟨g1, h⟩ := gi_some h
  refine alwM_6 (pc := 10) dX9_readsJudges_10 g1 ?_
  refine G_istore_n (pc := 11) [(1, .int _), (0, .ref _)] dX9_readsJudges_11 (Nat.le_of_ble_eq_true rfl) rfl ?_
  refine G_iconst (pc := 12) (0) dX9_readsJudges_12 ci_0 ?_
  refine G_istore_n (pc := 13) [(2, .int _), (1, .int _), (0, .ref _)] dX9_readsJudges_13 (Nat.le_of_ble_eq_true rfl) rfl ?_
  refine G_loc [2, 1, 0] [(0, .ref _), (1, .int _), (2, .int _)] rfl ?_
  exact B_X9_readsJudges_14 _ _ _ _ _ h
def F_X9_readsThings_84 (K14 : Int32 → Int32 → Mm → Option (Int32 × Mm)) (x1 : Int32) (x2 : Int32) (y0 : Int32) (y1 : Int32) (μ : Mm) : Option (Int32 × Mm) := K14 x1 (x2 + 1) (wI μ 0 7 (y1 + y0))
set_option maxRecDepth 100000 in
set_option maxHeartbeats 4000000 in
theorem B_X9_readsThings_84 (K14 : Int32 → Int32 → Mm → Option (Int32 × Mm)) (hK14 : ∀ (x1 : Int32) (x2 : Int32) (μ : Mm) (q : (Int32 × Mm)), K14 x1 x2 μ = some q → G wM RX9 cX9_readsThings 5 (some .int) 3 (some (.int q.1)) q.2 14 [(0, .ref 0), (1, .int x1), (2, .int x2)] [] μ) (x1 : Int32) (x2 : Int32) (y0 : Int32) (y1 : Int32) (μ : Mm) (q : (Int32 × Mm))  (h : F_X9_readsThings_84 K14 x1 x2 y0 y1 μ = some q) : G wM RX9 cX9_readsThings 5 (some .int) 3 (some (.int q.1)) q.2 84 [(0, .ref 0), (1, .int x1), (2, .int x2)] [.int y0, .int y1, .ref 0] μ := by
  unfold F_X9_readsThings_84 at h
  refine G_iadd (pc := 84) dX9_readsThings_84 ?_
  refine pwM_X9_128_0 (pc := 85) dX9_readsThings_85 ?_
  refine G_iinc (pc := 88) (1) 2 [(2, .int _), (0, .ref _), (1, .int _)] dX9_readsThings_88 ci_1 rfl (Nat.le_of_ble_eq_true rfl) rfl ?_
  refine G_goto (pc := 91) 14 dX9_readsThings_91 (by decide) ?_
  refine G_loc [1, 2, 0] [(0, .ref _), (1, .int _), (2, .int _)] rfl ?_
  exact hK14 _ _ _ _ h
def F_X9_readsThings_69 (K14 : Int32 → Int32 → Mm → Option (Int32 × Mm)) (x1 : Int32) (x2 : Int32) (x3 : Int32) (μ : Mm) : Option (Int32 × Mm) := F_X9_readsThings_84 K14 x1 x2 (if x3 = 2 then 1 else 0) (μ.1 0 7) μ
set_option maxRecDepth 100000 in
set_option maxHeartbeats 4000000 in
theorem B_X9_readsThings_69 (K14 : Int32 → Int32 → Mm → Option (Int32 × Mm)) (hK14 : ∀ (x1 : Int32) (x2 : Int32) (μ : Mm) (q : (Int32 × Mm)), K14 x1 x2 μ = some q → G wM RX9 cX9_readsThings 5 (some .int) 3 (some (.int q.1)) q.2 14 [(0, .ref 0), (1, .int x1), (2, .int x2)] [] μ) (x1 : Int32) (x2 : Int32) (x3 : Int32) (μ : Mm) (q : (Int32 × Mm))  (h : F_X9_readsThings_69 K14 x1 x2 x3 μ = some q) : G wM RX9 cX9_readsThings 5 (some .int) 3 (some (.int q.1)) q.2 69 [(0, .ref 0), (1, .int x1), (2, .int x2), (3, .int x3)] [] μ := by
  unfold F_X9_readsThings_69 at h
  refine G_aload_n (pc := 69) 0 dX9_readsThings_69 rfl ?_
  refine G_dup (pc := 70) dX9_readsThings_70 rfl ?_
  refine gwM_X9_128_0 (pc := 71) dX9_readsThings_71 ?_
  refine G_iload_n (pc := 74) 3 dX9_readsThings_74 rfl ?_
  refine G_iconst (pc := 75) (2) dX9_readsThings_75 ci_2 ?_
  refine G_icmp_ne (pc := 76) 83 dX9_readsThings_76 (by decide) (fun c9 => ?_) (fun c9 => ?_)
  · rw [if_neg c9] at h
    refine G_iconst (pc := 83) (0) dX9_readsThings_83 ci_0 ?_
    refine G_loc [0, 1, 2] [(0, .ref _), (1, .int _), (2, .int _)] rfl ?_
    exact B_X9_readsThings_84 _ hK14 _ _ _ _ _ _ h
  · rw [if_pos c9] at h
    refine G_iconst (pc := 79) (1) dX9_readsThings_79 ci_1 ?_
    refine G_goto (pc := 80) 84 dX9_readsThings_80 (by decide) ?_
    refine G_loc [0, 1, 2] [(0, .ref _), (1, .int _), (2, .int _)] rfl ?_
    exact B_X9_readsThings_84 _ hK14 _ _ _ _ _ _ h
def L_X9_readsThings_14 : Nat → Int32 → Int32 → Mm → Option (Int32 × Mm)
  | 0, _, _, _ => none
  | n + 1, x1, x2, μ => if x1 ≤ x2 then if x1 ≤ 0 then some ((-1), μ) else if (x1 - x1 / 4 * 4) = 3 then some ((-1), μ) else some (x1, (wI μ 0 7 0)) else gi x2 120 ((F_X9_byteOf (x2 - x2 / 4 * 4) (μ.1 5 x2.toNatClampNeg) 0 μ).bind (fun q6 => if q6.1 = (-9) then some (x2, (wI q6.2 0 7 0)) else if 3 ≤ (x2 - x2 / 4 * 4) then F_X9_readsThings_69 (L_X9_readsThings_14 n) x1 x2 (x2 - x2 / 4 * 4) q6.2 else gi ((3 * (x2 / 4)) + (x2 - x2 / 4 * 4)) 30 (F_X9_readsThings_69 (L_X9_readsThings_14 n) x1 x2 (x2 - x2 / 4 * 4) (wI q6.2 7 ((3 * (x2 / 4)) + (x2 - x2 / 4 * 4)).toNatClampNeg q6.1))))
set_option maxRecDepth 100000 in
set_option maxHeartbeats 4000000 in
theorem L_X9_readsThings_14_s (n : Nat) (x1 : Int32) (x2 : Int32) (μ : Mm) : L_X9_readsThings_14  (n + 1) x1 x2 μ = (if x1 ≤ x2 then if x1 ≤ 0 then some ((-1), μ) else if (x1 - x1 / 4 * 4) = 3 then some ((-1), μ) else some (x1, (wI μ 0 7 0)) else gi x2 120 ((F_X9_byteOf (x2 - x2 / 4 * 4) (μ.1 5 x2.toNatClampNeg) 0 μ).bind (fun q6 => if q6.1 = (-9) then some (x2, (wI q6.2 0 7 0)) else if 3 ≤ (x2 - x2 / 4 * 4) then F_X9_readsThings_69 (L_X9_readsThings_14 n) x1 x2 (x2 - x2 / 4 * 4) q6.2 else gi ((3 * (x2 / 4)) + (x2 - x2 / 4 * 4)) 30 (F_X9_readsThings_69 (L_X9_readsThings_14 n) x1 x2 (x2 - x2 / 4 * 4) (wI q6.2 7 ((3 * (x2 / 4)) + (x2 - x2 / 4 * 4)).toNatClampNeg q6.1))))) := rfl
set_option maxRecDepth 100000 in
set_option maxHeartbeats 4000000 in
theorem B_X9_readsThings_14 : ∀ (n : Nat) (x1 : Int32) (x2 : Int32) (μ : Mm) (q : (Int32 × Mm)), L_X9_readsThings_14  n x1 x2 μ = some q → G wM RX9 cX9_readsThings 5 (some .int) 3 (some (.int q.1)) q.2 14 [(0, .ref 0), (1, .int x1), (2, .int x2)] [] μ := by
  intro n
  induction n with
  | zero =>
    intro x1 x2 μ q  h
    cases h
  | succ n ih =>
    intro x1 x2 μ q  h
    rw [L_X9_readsThings_14_s] at h
    refine G_iload_n (pc := 14) 2 dX9_readsThings_14 rfl ?_
    refine G_iload_n (pc := 15) 1 dX9_readsThings_15 rfl ?_
    refine G_icmp_ge (pc := 16) 94 dX9_readsThings_16 (by decide) (fun c2 => ?_) (fun c2 => ?_)
    · replace h := itp c2 h
      refine G_iload_n (pc := 94) 1 dX9_readsThings_94 rfl ?_
      refine G_if_le (pc := 95) 112 dX9_readsThings_95 (by decide) (fun c3 => ?_) (fun c3 => ?_)
      · replace h := itp c3 h
        refine G_iconst (pc := 112) (-1) dX9_readsThings_112 ci_m1 ?_
        obtain rfl := Option.some.inj h
        exact G_iret (pc := 113) rfl dX9_readsThings_113
      · replace h := itn c3 h
        refine G_iload_n (pc := 98) 1 dX9_readsThings_98 rfl ?_
        refine G_iconst (pc := 99) (4) dX9_readsThings_99 ci_4 ?_
        refine G_irem (pc := 100) dX9_readsThings_100 (by decide) ?_
        refine G_iconst (pc := 101) (3) dX9_readsThings_101 ci_3 ?_
        refine G_icmp_eq (pc := 102) 112 dX9_readsThings_102 (by decide) (fun c4 => ?_) (fun c4 => ?_)
        · replace h := itp c4 h
          refine G_iconst (pc := 112) (-1) dX9_readsThings_112 ci_m1 ?_
          obtain rfl := Option.some.inj h
          exact G_iret (pc := 113) rfl dX9_readsThings_113
        · replace h := itn c4 h
          refine G_aload_n (pc := 105) 0 dX9_readsThings_105 rfl ?_
          refine G_iconst (pc := 106) (0) dX9_readsThings_106 ci_0 ?_
          refine pwM_X9_128_0 (pc := 107) dX9_readsThings_107 ?_
          refine G_iload_n (pc := 110) 1 dX9_readsThings_110 rfl ?_
          obtain rfl := Option.some.inj h
          exact G_iret (pc := 111) rfl dX9_readsThings_111
    · replace h := itn c2 h
      refine G_iload_n (pc := 19) 2 dX9_readsThings_19 rfl ?_
      refine G_iconst (pc := 20) (4) dX9_readsThings_20 ci_4 ?_
      refine G_irem (pc := 21) dX9_readsThings_21 (by decide) ?_
      refine G_istore_n (pc := 22) [(3, .int _), (0, .ref _), (1, .int _), (2, .int _)] dX9_readsThings_22 (Nat.le_of_ble_eq_true rfl) rfl ?_
      refine G_iload_n (pc := 23) 0 dX9_readsThings_23 rfl ?_
      refine G_aload_n (pc := 24) 1 dX9_readsThings_24 rfl ?_
      refine gwM_X9_22_0 (pc := 25) dX9_readsThings_25 ?_
      refine G_iload_n (pc := 28) 3 dX9_readsThings_28 rfl ?_
      obtain ⟨g5, h⟩ := gi_some h
      refine alwM_5 (pc := 29) dX9_readsThings_29 g5 ?_
      refine G_iconst (pc := 30) (0) dX9_readsThings_30 ci_0 ?_
      obtain ⟨q6, e6, h⟩ := bnd_some h
      refine G_callS3r (pc := 31) dX9_readsThings_31 ws_X9_131 cd_X9_byteOf (S_X9_byteOf _ _ _ _ _ e6) (by decide) (by decide) (Nat.le_of_ble_eq_true rfl) ?_
      refine G_istore (pc := 34) [(4, .int _), (3, .int _), (0, .ref _), (1, .int _), (2, .int _)] dX9_readsThings_34 (Nat.le_of_ble_eq_true rfl) rfl ?_
      refine G_iload (pc := 36) 0 dX9_readsThings_36 rfl ?_
      refine G_bipush (pc := 38) (-9) dX9_readsThings_38 bp_m9 ?_
      refine G_icmp_ne (pc := 40) 50 dX9_readsThings_40 (by decide) (fun c7 => ?_) (fun c7 => ?_)
      · replace h := itn c7 h
        refine G_iload_n (pc := 50) 1 dX9_readsThings_50 rfl ?_
        refine G_iconst (pc := 51) (3) dX9_readsThings_51 ci_3 ?_
        refine G_icmp_ge (pc := 52) 69 dX9_readsThings_52 (by decide) (fun c8 => ?_) (fun c8 => ?_)
        · replace h := itp c8 h
          refine G_loc [2, 3, 4, 1] [(0, .ref _), (1, .int _), (2, .int _), (3, .int _)] rfl ?_
          exact B_X9_readsThings_69 _ ih _ _ _ _ _ h
        · replace h := itn c8 h
          refine G_aload_n (pc := 55) 2 dX9_readsThings_55 rfl ?_
          refine gwM_X9_28_0 (pc := 56) dX9_readsThings_56 ?_
          refine G_iconst (pc := 59) (3) dX9_readsThings_59 ci_3 ?_
          refine G_iload_n (pc := 60) 4 dX9_readsThings_60 rfl ?_
          refine G_iconst (pc := 61) (4) dX9_readsThings_61 ci_4 ?_
          refine G_idiv (pc := 62) dX9_readsThings_62 (by decide) ?_
          refine G_imul (pc := 63) dX9_readsThings_63 ?_
          refine G_iload_n (pc := 64) 1 dX9_readsThings_64 rfl ?_
          refine G_iadd (pc := 65) dX9_readsThings_65 ?_
          refine G_iload (pc := 66) 0 dX9_readsThings_66 rfl ?_
          obtain ⟨g10, h⟩ := gi_some h
          refine aswM_7 (pc := 68) dX9_readsThings_68 g10 ?_
          refine G_loc [2, 3, 4, 1] [(0, .ref _), (1, .int _), (2, .int _), (3, .int _)] rfl ?_
          exact B_X9_readsThings_69 _ ih _ _ _ _ _ h
      · replace h := itp c7 h
        refine G_aload_n (pc := 43) 2 dX9_readsThings_43 rfl ?_
        refine G_iconst (pc := 44) (0) dX9_readsThings_44 ci_0 ?_
        refine pwM_X9_128_0 (pc := 45) dX9_readsThings_45 ?_
        refine G_iload_n (pc := 48) 4 dX9_readsThings_48 rfl ?_
        obtain rfl := Option.some.inj h
        exact G_iret (pc := 49) rfl dX9_readsThings_49
def F_X9_readsThings  (μ : Mm) : Option (Int32 × Mm) := gi 0 3 (L_X9_readsThings_14 FUEL ((wI μ 0 7 0).1 6 (0 : Int32).toNatClampNeg) 0 (wI μ 0 7 0))
set_option maxRecDepth 100000 in
set_option maxHeartbeats 4000000 in
theorem S_X9_readsThings   (μ : Mm) (q : (Int32 × Mm)) (h : F_X9_readsThings  μ = some q) : Cn wM yX9_readsThings cX9_readsThings 5 (some .int) 3 [.ref 0] μ (some (.int q.1)) q.2 := by
  refine Cn_of (by decide +kernel) (Nat.le_of_ble_eq_true rfl) ?_
  show G wM RX9 cX9_readsThings 5 (some .int) 3 (some (.int q.1)) q.2 0 [(0, .ref 0)] [] μ
  unfold F_X9_readsThings at h
  refine G_aload_n (pc := 0) 0 dX9_readsThings_0 rfl ?_
  refine G_iconst (pc := 1) (0) dX9_readsThings_1 ci_0 ?_
  refine pwM_X9_128_0 (pc := 2) dX9_readsThings_2 ?_
  refine G_aload_n (pc := 5) 0 dX9_readsThings_5 rfl ?_
  refine gwM_X9_25_0 (pc := 6) dX9_readsThings_6 ?_
  refine G_iconst (pc := 9) (0) dX9_readsThings_9 ci_0 ?_
  obtain ⟨g1, h⟩ := gi_some h
  refine alwM_6 (pc := 10) dX9_readsThings_10 g1 ?_
  refine G_istore_n (pc := 11) [(1, .int _), (0, .ref _)] dX9_readsThings_11 (Nat.le_of_ble_eq_true rfl) rfl ?_
  refine G_iconst (pc := 12) (0) dX9_readsThings_12 ci_0 ?_
  refine G_istore_n (pc := 13) [(2, .int _), (1, .int _), (0, .ref _)] dX9_readsThings_13 (Nat.le_of_ble_eq_true rfl) rfl ?_
  refine G_loc [2, 1, 0] [(0, .ref _), (1, .int _), (2, .int _)] rfl ?_
  exact B_X9_readsThings_14 _ _ _ _ _ h
def F_X9_readsText (x1 : Int32) (μ : Mm) : Option (Int32 × Mm) := if x1 = 0 then (F_X9_readsThings μ).bind (fun q5 => some (q5.1, q5.2)) else if x1 = 1 then (F_X9_readsJudges μ).bind (fun q4 => some (q4.1, q4.2)) else (F_X9_readsBox μ).bind (fun q3 => some (q3.1, q3.2))
set_option maxRecDepth 100000 in
set_option maxHeartbeats 4000000 in
theorem S_X9_readsText (x1 : Int32)  (μ : Mm) (q : (Int32 × Mm)) (h : F_X9_readsText x1 μ = some q) : Cn wM yX9_readsText cX9_readsText 2 (some .int) 4 [.ref 0, .int x1] μ (some (.int q.1)) q.2 := by
  refine Cn_of (by decide +kernel) (Nat.le_of_ble_eq_true rfl) ?_
  show G wM RX9 cX9_readsText 2 (some .int) 4 (some (.int q.1)) q.2 0 [(0, .ref 0), (1, .int x1)] [] μ
  unfold F_X9_readsText at h
  refine G_iload_n (pc := 0) 1 dX9_readsText_0 rfl ?_
  refine G_if_ne (pc := 1) 11 dX9_readsText_1 (by decide) (fun c1 => ?_) (fun c1 => ?_)
  · replace h := itn c1 h
    refine G_iload_n (pc := 11) 1 dX9_readsText_11 rfl ?_
    refine G_iconst (pc := 12) (1) dX9_readsText_12 ci_1 ?_
    refine G_icmp_ne (pc := 13) 23 dX9_readsText_13 (by decide) (fun c2 => ?_) (fun c2 => ?_)
    · replace h := itn c2 h
      refine G_aload_n (pc := 23) 0 dX9_readsText_23 rfl ?_
      obtain ⟨q3, e3, h⟩ := bnd_some h
      refine G_callV0r (pc := 24) 0 8 dX9_readsText_24 wv_X9_150 cd_X9_readsBox (S_X9_readsBox _ _ e3) (by decide) (by decide) rfl (by decide) (fun _ _ => ⟨_, rfl⟩) (Nat.le_of_ble_eq_true rfl) ?_
      obtain rfl := Option.some.inj h
      exact G_iret (pc := 27) rfl dX9_readsText_27
    · replace h := itp c2 h
      refine G_aload_n (pc := 16) 0 dX9_readsText_16 rfl ?_
      obtain ⟨q4, e4, h⟩ := bnd_some h
      refine G_callV0r (pc := 17) 0 8 dX9_readsText_17 wv_X9_147 cd_X9_readsJudges (S_X9_readsJudges _ _ e4) (by decide) (by decide) rfl (by decide) (fun _ _ => ⟨_, rfl⟩) (Nat.le_of_ble_eq_true rfl) ?_
      refine G_goto (pc := 20) 27 dX9_readsText_20 (by decide) ?_
      obtain rfl := Option.some.inj h
      exact G_iret (pc := 27) rfl dX9_readsText_27
  · replace h := itp c1 h
    refine G_aload_n (pc := 4) 0 dX9_readsText_4 rfl ?_
    obtain ⟨q5, e5, h⟩ := bnd_some h
    refine G_callV0r (pc := 5) 0 8 dX9_readsText_5 wv_X9_143 cd_X9_readsThings (S_X9_readsThings _ _ e5) (by decide) (by decide) rfl (by decide) (fun _ _ => ⟨_, rfl⟩) (Nat.le_of_ble_eq_true rfl) ?_
    refine G_goto (pc := 8) 27 dX9_readsText_8 (by decide) ?_
    obtain rfl := Option.some.inj h
    exact G_iret (pc := 27) rfl dX9_readsText_27
def F_X9_fault (x1 : Int32) (μ : Mm) : Option (Int32 × Mm) := (F_X9_isText x1 μ).bind (fun q1 => if q1.1 = 0 then some ((-2), q1.2) else (F_X9_readsText x1 q1.2).bind (fun q3 => some (q3.1, q3.2)))
set_option maxRecDepth 100000 in
set_option maxHeartbeats 4000000 in
theorem S_X9_fault (x1 : Int32)  (μ : Mm) (q : (Int32 × Mm)) (h : F_X9_fault x1 μ = some q) : Cn wM yX9_fault cX9_fault 2 (some .int) 5 [.ref 0, .int x1] μ (some (.int q.1)) q.2 := by
  refine Cn_of (by decide +kernel) (Nat.le_of_ble_eq_true rfl) ?_
  show G wM RX9 cX9_fault 2 (some .int) 5 (some (.int q.1)) q.2 0 [(0, .ref 0), (1, .int x1)] [] μ
  unfold F_X9_fault at h
  refine G_iload_n (pc := 0) 1 dX9_fault_0 rfl ?_
  obtain ⟨q1, e1, h⟩ := bnd_some h
  refine G_callS1r (pc := 1) dX9_fault_1 ws_X9_120 cd_X9_isText (S_X9_isText _ _ _ e1) (by decide) (by decide) (Nat.le_of_ble_eq_true rfl) ?_
  refine G_if_eq (pc := 4) 15 dX9_fault_4 (by decide) (fun c2 => ?_) (fun c2 => ?_)
  · replace h := itp c2 h
    refine G_bipush (pc := 15) (-2) dX9_fault_15 bp_m2 ?_
    obtain rfl := Option.some.inj h
    exact G_iret (pc := 17) rfl dX9_fault_17
  · replace h := itn c2 h
    refine G_aload_n (pc := 7) 0 dX9_fault_7 rfl ?_
    refine G_iload_n (pc := 8) 1 dX9_fault_8 rfl ?_
    obtain ⟨q3, e3, h⟩ := bnd_some h
    refine G_callV1r (pc := 9) 0 8 dX9_fault_9 wv_X9_153 cd_X9_readsText (S_X9_readsText _ _ _ e3) (by decide) (by decide) rfl (by decide) (fun _ _ => ⟨_, rfl⟩) (Nat.le_of_ble_eq_true rfl) ?_
    refine G_goto (pc := 12) 17 dX9_fault_12 (by decide) ?_
    obtain rfl := Option.some.inj h
    exact G_iret (pc := 17) rfl dX9_fault_17
def F_X9_isThing (x1 : Int32) (μ : Mm) : Option (Int32 × Mm) := (F_X9_in x1.toInt64 0 (((μ.1 0 7) - 1).toInt64) μ).bind (fun q1 => gb q1.1 (some (q1.1, q1.2)))
set_option maxRecDepth 100000 in
set_option maxHeartbeats 4000000 in
theorem S_X9_isThing (x1 : Int32)  (μ : Mm) (q : (Int32 × Mm)) (h : F_X9_isThing x1 μ = some q) : Cn wM yX9_isThing cX9_isThing 2 (some .boolean) 1 [.ref 0, .int x1] μ (some (.int q.1)) q.2 := by
  refine Cn_of (by decide +kernel) (Nat.le_of_ble_eq_true rfl) ?_
  show G wM RX9 cX9_isThing 2 (some .boolean) 1 (some (.int q.1)) q.2 0 [(0, .ref 0), (1, .int x1)] [] μ
  unfold F_X9_isThing at h
  refine G_iload_n (pc := 0) 1 dX9_isThing_0 rfl ?_
  refine G_i2l (pc := 1) dX9_isThing_1 ?_
  refine G_lconst (pc := 2) (0) dX9_isThing_2 lc_0 ?_
  refine G_aload_n (pc := 3) 0 dX9_isThing_3 rfl ?_
  refine gwM_X9_128_0 (pc := 4) dX9_isThing_4 ?_
  refine G_iconst (pc := 7) (1) dX9_isThing_7 ci_1 ?_
  refine G_isub (pc := 8) dX9_isThing_8 ?_
  refine G_i2l (pc := 9) dX9_isThing_9 ?_
  obtain ⟨q1, e1, h⟩ := bnd_some h
  refine G_callS3r (pc := 10) dX9_isThing_10 ws_X9_92 cd_X9_in (S_X9_in _ _ _ _ _ e1) (by decide) (by decide) (Nat.le_of_ble_eq_true rfl) ?_
  obtain ⟨g2, h⟩ := gb_some h
  obtain rfl := Option.some.inj h
  exact G_zret (pc := 13) rfl g2 dX9_isThing_13
def F_X9_thing (x1 : Int32) (x2 : Int32) (μ : Mm) : Option (Int32 × Mm) := (F_X9_readsThings μ).bind (fun q1 => (F_X9_isThing x1 q1.2).bind (fun q2 => if q2.1 = 0 then some ((-2), q2.2) else (F_X9_in x2.toInt64 0 2 q2.2).bind (fun q4 => if q4.1 = 0 then some ((-2), q4.2) else gi ((3 * x1) + x2) 30 (some ((q4.2.1 7 ((3 * x1) + x2).toNatClampNeg), q4.2)))))
set_option maxRecDepth 100000 in
set_option maxHeartbeats 4000000 in
theorem S_X9_thing (x1 : Int32) (x2 : Int32)  (μ : Mm) (q : (Int32 × Mm)) (h : F_X9_thing x1 x2 μ = some q) : Cn wM yX9_thing cX9_thing 3 (some .int) 4 [.ref 0, .int x1, .int x2] μ (some (.int q.1)) q.2 := by
  refine Cn_of (by decide +kernel) (Nat.le_of_ble_eq_true rfl) ?_
  show G wM RX9 cX9_thing 3 (some .int) 4 (some (.int q.1)) q.2 0 [(0, .ref 0), (1, .int x1), (2, .int x2)] [] μ
  unfold F_X9_thing at h
  refine G_aload_n (pc := 0) 0 dX9_thing_0 rfl ?_
  obtain ⟨q1, e1, h⟩ := bnd_some h
  refine G_callV0r (pc := 1) 0 8 dX9_thing_1 wv_X9_143 cd_X9_readsThings (S_X9_readsThings _ _ e1) (by decide) (by decide) rfl (by decide) (fun _ _ => ⟨_, rfl⟩) (Nat.le_of_ble_eq_true rfl) ?_
  refine G_pop (pc := 4) dX9_thing_4 rfl ?_
  refine G_aload_n (pc := 5) 0 dX9_thing_5 rfl ?_
  refine G_iload_n (pc := 6) 1 dX9_thing_6 rfl ?_
  obtain ⟨q2, e2, h⟩ := bnd_some h
  refine G_callV1r (pc := 7) 0 8 dX9_thing_7 wv_X9_158 cd_X9_isThing (S_X9_isThing _ _ _ e2) (by decide) (by decide) rfl (by decide) (fun _ _ => ⟨_, rfl⟩) (Nat.le_of_ble_eq_true rfl) ?_
  refine G_if_eq (pc := 10) 38 dX9_thing_10 (by decide) (fun c3 => ?_) (fun c3 => ?_)
  · replace h := itp c3 h
    refine G_bipush (pc := 38) (-2) dX9_thing_38 bp_m2 ?_
    obtain rfl := Option.some.inj h
    exact G_iret (pc := 40) rfl dX9_thing_40
  · replace h := itn c3 h
    refine G_iload_n (pc := 13) 2 dX9_thing_13 rfl ?_
    refine G_i2l (pc := 14) dX9_thing_14 ?_
    refine G_lconst (pc := 15) (0) dX9_thing_15 lc_0 ?_
    refine G_ldc2 (pc := 16) (2) dX9_thing_16 kl_X9_105 ?_
    obtain ⟨q4, e4, h⟩ := bnd_some h
    refine G_callS3r (pc := 19) dX9_thing_19 ws_X9_92 cd_X9_in (S_X9_in _ _ _ _ _ e4) (by decide) (by decide) (Nat.le_of_ble_eq_true rfl) ?_
    refine G_if_eq (pc := 22) 38 dX9_thing_22 (by decide) (fun c5 => ?_) (fun c5 => ?_)
    · replace h := itp c5 h
      refine G_bipush (pc := 38) (-2) dX9_thing_38 bp_m2 ?_
      obtain rfl := Option.some.inj h
      exact G_iret (pc := 40) rfl dX9_thing_40
    · replace h := itn c5 h
      refine G_aload_n (pc := 25) 0 dX9_thing_25 rfl ?_
      refine gwM_X9_28_0 (pc := 26) dX9_thing_26 ?_
      refine G_iconst (pc := 29) (3) dX9_thing_29 ci_3 ?_
      refine G_iload_n (pc := 30) 1 dX9_thing_30 rfl ?_
      refine G_imul (pc := 31) dX9_thing_31 ?_
      refine G_iload_n (pc := 32) 2 dX9_thing_32 rfl ?_
      refine G_iadd (pc := 33) dX9_thing_33 ?_
      obtain ⟨g6, h⟩ := gi_some h
      refine alwM_7 (pc := 34) dX9_thing_34 g6 ?_
      refine G_goto (pc := 35) 40 dX9_thing_35 (by decide) ?_
      obtain rfl := Option.some.inj h
      exact G_iret (pc := 40) rfl dX9_thing_40
def F_X9_isJudge (x1 : Int32) (μ : Mm) : Option (Int32 × Mm) := (F_X9_in x1.toInt64 0 (((μ.1 0 9) - 1).toInt64) μ).bind (fun q1 => gb q1.1 (some (q1.1, q1.2)))
set_option maxRecDepth 100000 in
set_option maxHeartbeats 4000000 in
theorem S_X9_isJudge (x1 : Int32)  (μ : Mm) (q : (Int32 × Mm)) (h : F_X9_isJudge x1 μ = some q) : Cn wM yX9_isJudge cX9_isJudge 2 (some .boolean) 1 [.ref 0, .int x1] μ (some (.int q.1)) q.2 := by
  refine Cn_of (by decide +kernel) (Nat.le_of_ble_eq_true rfl) ?_
  show G wM RX9 cX9_isJudge 2 (some .boolean) 1 (some (.int q.1)) q.2 0 [(0, .ref 0), (1, .int x1)] [] μ
  unfold F_X9_isJudge at h
  refine G_iload_n (pc := 0) 1 dX9_isJudge_0 rfl ?_
  refine G_i2l (pc := 1) dX9_isJudge_1 ?_
  refine G_lconst (pc := 2) (0) dX9_isJudge_2 lc_0 ?_
  refine G_aload_n (pc := 3) 0 dX9_isJudge_3 rfl ?_
  refine gwM_X9_134_0 (pc := 4) dX9_isJudge_4 ?_
  refine G_iconst (pc := 7) (1) dX9_isJudge_7 ci_1 ?_
  refine G_isub (pc := 8) dX9_isJudge_8 ?_
  refine G_i2l (pc := 9) dX9_isJudge_9 ?_
  obtain ⟨q1, e1, h⟩ := bnd_some h
  refine G_callS3r (pc := 10) dX9_isJudge_10 ws_X9_92 cd_X9_in (S_X9_in _ _ _ _ _ e1) (by decide) (by decide) (Nat.le_of_ble_eq_true rfl) ?_
  obtain ⟨g2, h⟩ := gb_some h
  obtain rfl := Option.some.inj h
  exact G_zret (pc := 13) rfl g2 dX9_isJudge_13
def F_X9_judge (x1 : Int32) (x2 : Int32) (μ : Mm) : Option (Int32 × Mm) := (F_X9_readsJudges μ).bind (fun q1 => (F_X9_isJudge x1 q1.2).bind (fun q2 => if q2.1 = 0 then some ((-2), q2.2) else (F_X9_in x2.toInt64 0 2 q2.2).bind (fun q4 => if q4.1 = 0 then some ((-2), q4.2) else gi ((3 * x1) + x2) 12 (some ((q4.2.1 8 ((3 * x1) + x2).toNatClampNeg), q4.2)))))
set_option maxRecDepth 100000 in
set_option maxHeartbeats 4000000 in
theorem S_X9_judge (x1 : Int32) (x2 : Int32)  (μ : Mm) (q : (Int32 × Mm)) (h : F_X9_judge x1 x2 μ = some q) : Cn wM yX9_judge cX9_judge 3 (some .int) 4 [.ref 0, .int x1, .int x2] μ (some (.int q.1)) q.2 := by
  refine Cn_of (by decide +kernel) (Nat.le_of_ble_eq_true rfl) ?_
  show G wM RX9 cX9_judge 3 (some .int) 4 (some (.int q.1)) q.2 0 [(0, .ref 0), (1, .int x1), (2, .int x2)] [] μ
  unfold F_X9_judge at h
  refine G_aload_n (pc := 0) 0 dX9_judge_0 rfl ?_
  obtain ⟨q1, e1, h⟩ := bnd_some h
  refine G_callV0r (pc := 1) 0 8 dX9_judge_1 wv_X9_147 cd_X9_readsJudges (S_X9_readsJudges _ _ e1) (by decide) (by decide) rfl (by decide) (fun _ _ => ⟨_, rfl⟩) (Nat.le_of_ble_eq_true rfl) ?_
  refine G_pop (pc := 4) dX9_judge_4 rfl ?_
  refine G_aload_n (pc := 5) 0 dX9_judge_5 rfl ?_
  refine G_iload_n (pc := 6) 1 dX9_judge_6 rfl ?_
  obtain ⟨q2, e2, h⟩ := bnd_some h
  refine G_callV1r (pc := 7) 0 8 dX9_judge_7 wv_X9_161 cd_X9_isJudge (S_X9_isJudge _ _ _ e2) (by decide) (by decide) rfl (by decide) (fun _ _ => ⟨_, rfl⟩) (Nat.le_of_ble_eq_true rfl) ?_
  refine G_if_eq (pc := 10) 38 dX9_judge_10 (by decide) (fun c3 => ?_) (fun c3 => ?_)
  · replace h := itp c3 h
    refine G_bipush (pc := 38) (-2) dX9_judge_38 bp_m2 ?_
    obtain rfl := Option.some.inj h
    exact G_iret (pc := 40) rfl dX9_judge_40
  · replace h := itn c3 h
    refine G_iload_n (pc := 13) 2 dX9_judge_13 rfl ?_
    refine G_i2l (pc := 14) dX9_judge_14 ?_
    refine G_lconst (pc := 15) (0) dX9_judge_15 lc_0 ?_
    refine G_ldc2 (pc := 16) (2) dX9_judge_16 kl_X9_105 ?_
    obtain ⟨q4, e4, h⟩ := bnd_some h
    refine G_callS3r (pc := 19) dX9_judge_19 ws_X9_92 cd_X9_in (S_X9_in _ _ _ _ _ e4) (by decide) (by decide) (Nat.le_of_ble_eq_true rfl) ?_
    refine G_if_eq (pc := 22) 38 dX9_judge_22 (by decide) (fun c5 => ?_) (fun c5 => ?_)
    · replace h := itp c5 h
      refine G_bipush (pc := 38) (-2) dX9_judge_38 bp_m2 ?_
      obtain rfl := Option.some.inj h
      exact G_iret (pc := 40) rfl dX9_judge_40
    · replace h := itn c5 h
      refine G_aload_n (pc := 25) 0 dX9_judge_25 rfl ?_
      refine gwM_X9_31_0 (pc := 26) dX9_judge_26 ?_
      refine G_iconst (pc := 29) (3) dX9_judge_29 ci_3 ?_
      refine G_iload_n (pc := 30) 1 dX9_judge_30 rfl ?_
      refine G_imul (pc := 31) dX9_judge_31 ?_
      refine G_iload_n (pc := 32) 2 dX9_judge_32 rfl ?_
      refine G_iadd (pc := 33) dX9_judge_33 ?_
      obtain ⟨g6, h⟩ := gi_some h
      refine alwM_8 (pc := 34) dX9_judge_34 g6 ?_
      refine G_goto (pc := 35) 40 dX9_judge_35 (by decide) ?_
      obtain rfl := Option.some.inj h
      exact G_iret (pc := 40) rfl dX9_judge_40
def F_X9_isWeek (x0 : Int32) (μ : Mm) : Option (Int32 × Mm) := (F_X9_in x0.toInt64 0 11 μ).bind (fun q1 => gb q1.1 (some (q1.1, q1.2)))
set_option maxRecDepth 100000 in
set_option maxHeartbeats 4000000 in
theorem S_X9_isWeek (x0 : Int32)  (μ : Mm) (q : (Int32 × Mm)) (h : F_X9_isWeek x0 μ = some q) : Cn wM yX9_isWeek cX9_isWeek 1 (some .boolean) 1 [.int x0] μ (some (.int q.1)) q.2 := by
  refine Cn_of (by decide +kernel) (Nat.le_of_ble_eq_true rfl) ?_
  show G wM RX9 cX9_isWeek 1 (some .boolean) 1 (some (.int q.1)) q.2 0 [(0, .int x0)] [] μ
  unfold F_X9_isWeek at h
  refine G_iload_n (pc := 0) 0 dX9_isWeek_0 rfl ?_
  refine G_i2l (pc := 1) dX9_isWeek_1 ?_
  refine G_lconst (pc := 2) (0) dX9_isWeek_2 lc_0 ?_
  refine G_ldc2 (pc := 3) (11) dX9_isWeek_3 kl_X9_156 ?_
  obtain ⟨q1, e1, h⟩ := bnd_some h
  refine G_callS3r (pc := 6) dX9_isWeek_6 ws_X9_92 cd_X9_in (S_X9_in _ _ _ _ _ e1) (by decide) (by decide) (Nat.le_of_ble_eq_true rfl) ?_
  obtain ⟨g2, h⟩ := gb_some h
  obtain rfl := Option.some.inj h
  exact G_zret (pc := 9) rfl g2 dX9_isWeek_9
def F_X9_event (x1 : Int32) (x2 : Int32) (x3 : Int32) (μ : Mm) : Option (Int32 × Mm) := (F_X9_in x1.toInt64 0 2 μ).bind (fun q1 => if q1.1 = 0 then some ((-2), q1.2) else (F_X9_isWeek x2 q1.2).bind (fun q3 => if q3.1 = 0 then some ((-2), q3.2) else (F_X9_in x3.toInt64 0 9 q3.2).bind (fun q5 => if q5.1 = 0 then some ((-2), q5.2) else if (q5.2.1 0 13) = 8 then some ((-4), q5.2) else gi (3 * (q5.2.1 0 13)) 24 (gi ((3 * ((wI q5.2 10 (3 * (q5.2.1 0 13)).toNatClampNeg x1).1 0 13)) + 1) 24 (gi ((3 * ((wI (wI q5.2 10 (3 * (q5.2.1 0 13)).toNatClampNeg x1) 10 ((3 * ((wI q5.2 10 (3 * (q5.2.1 0 13)).toNatClampNeg x1).1 0 13)) + 1).toNatClampNeg x2).1 0 13)) + 2) 24 (some (((wI (wI (wI (wI q5.2 10 (3 * (q5.2.1 0 13)).toNatClampNeg x1) 10 ((3 * ((wI q5.2 10 (3 * (q5.2.1 0 13)).toNatClampNeg x1).1 0 13)) + 1).toNatClampNeg x2) 10 ((3 * ((wI (wI q5.2 10 (3 * (q5.2.1 0 13)).toNatClampNeg x1) 10 ((3 * ((wI q5.2 10 (3 * (q5.2.1 0 13)).toNatClampNeg x1).1 0 13)) + 1).toNatClampNeg x2).1 0 13)) + 2).toNatClampNeg x3) 0 13 (((wI (wI (wI q5.2 10 (3 * (q5.2.1 0 13)).toNatClampNeg x1) 10 ((3 * ((wI q5.2 10 (3 * (q5.2.1 0 13)).toNatClampNeg x1).1 0 13)) + 1).toNatClampNeg x2) 10 ((3 * ((wI (wI q5.2 10 (3 * (q5.2.1 0 13)).toNatClampNeg x1) 10 ((3 * ((wI q5.2 10 (3 * (q5.2.1 0 13)).toNatClampNeg x1).1 0 13)) + 1).toNatClampNeg x2).1 0 13)) + 2).toNatClampNeg x3).1 0 13) + 1)).1 0 13), (wI (wI (wI (wI q5.2 10 (3 * (q5.2.1 0 13)).toNatClampNeg x1) 10 ((3 * ((wI q5.2 10 (3 * (q5.2.1 0 13)).toNatClampNeg x1).1 0 13)) + 1).toNatClampNeg x2) 10 ((3 * ((wI (wI q5.2 10 (3 * (q5.2.1 0 13)).toNatClampNeg x1) 10 ((3 * ((wI q5.2 10 (3 * (q5.2.1 0 13)).toNatClampNeg x1).1 0 13)) + 1).toNatClampNeg x2).1 0 13)) + 2).toNatClampNeg x3) 0 13 (((wI (wI (wI q5.2 10 (3 * (q5.2.1 0 13)).toNatClampNeg x1) 10 ((3 * ((wI q5.2 10 (3 * (q5.2.1 0 13)).toNatClampNeg x1).1 0 13)) + 1).toNatClampNeg x2) 10 ((3 * ((wI (wI q5.2 10 (3 * (q5.2.1 0 13)).toNatClampNeg x1) 10 ((3 * ((wI q5.2 10 (3 * (q5.2.1 0 13)).toNatClampNeg x1).1 0 13)) + 1).toNatClampNeg x2).1 0 13)) + 2).toNatClampNeg x3).1 0 13) + 1)))))))))
set_option maxRecDepth 100000 in
set_option maxHeartbeats 4000000 in
theorem S_X9_event (x1 : Int32) (x2 : Int32) (x3 : Int32)  (μ : Mm) (q : (Int32 × Mm)) (h : F_X9_event x1 x2 x3 μ = some q) : Cn wM yX9_event cX9_event 4 (some .int) 2 [.ref 0, .int x1, .int x2, .int x3] μ (some (.int q.1)) q.2 := by
  refine Cn_of (by decide +kernel) (Nat.le_of_ble_eq_true rfl) ?_
  show G wM RX9 cX9_event 4 (some .int) 2 (some (.int q.1)) q.2 0 [(0, .ref 0), (1, .int x1), (2, .int x2), (3, .int x3)] [] μ
  unfold F_X9_event at h
  refine G_iload_n (pc := 0) 1 dX9_event_0 rfl ?_
  refine G_i2l (pc := 1) dX9_event_1 ?_
  refine G_lconst (pc := 2) (0) dX9_event_2 lc_0 ?_
  refine G_ldc2 (pc := 3) (2) dX9_event_3 kl_X9_105 ?_
  obtain ⟨q1, e1, h⟩ := bnd_some h
  refine G_callS3r (pc := 6) dX9_event_6 ws_X9_92 cd_X9_in (S_X9_in _ _ _ _ _ e1) (by decide) (by decide) (Nat.le_of_ble_eq_true rfl) ?_
  refine G_if_eq (pc := 9) 31 dX9_event_9 (by decide) (fun c2 => ?_) (fun c2 => ?_)
  · replace h := itp c2 h
    refine G_bipush (pc := 31) (-2) dX9_event_31 bp_m2 ?_
    obtain rfl := Option.some.inj h
    exact G_iret (pc := 33) rfl dX9_event_33
  · replace h := itn c2 h
    refine G_iload_n (pc := 12) 2 dX9_event_12 rfl ?_
    obtain ⟨q3, e3, h⟩ := bnd_some h
    refine G_callS1r (pc := 13) dX9_event_13 ws_X9_164 cd_X9_isWeek (S_X9_isWeek _ _ _ e3) (by decide) (by decide) (Nat.le_of_ble_eq_true rfl) ?_
    refine G_if_eq (pc := 16) 31 dX9_event_16 (by decide) (fun c4 => ?_) (fun c4 => ?_)
    · replace h := itp c4 h
      refine G_bipush (pc := 31) (-2) dX9_event_31 bp_m2 ?_
      obtain rfl := Option.some.inj h
      exact G_iret (pc := 33) rfl dX9_event_33
    · replace h := itn c4 h
      refine G_iload_n (pc := 19) 3 dX9_event_19 rfl ?_
      refine G_i2l (pc := 20) dX9_event_20 ?_
      refine G_lconst (pc := 21) (0) dX9_event_21 lc_0 ?_
      refine G_ldc2 (pc := 22) (9) dX9_event_22 kl_X9_167 ?_
      obtain ⟨q5, e5, h⟩ := bnd_some h
      refine G_callS3r (pc := 25) dX9_event_25 ws_X9_92 cd_X9_in (S_X9_in _ _ _ _ _ e5) (by decide) (by decide) (Nat.le_of_ble_eq_true rfl) ?_
      refine G_if_ne (pc := 28) 34 dX9_event_28 (by decide) (fun c6 => ?_) (fun c6 => ?_)
      · replace h := itn c6 h
        refine G_aload_n (pc := 34) 0 dX9_event_34 rfl ?_
        refine gwM_X9_169_0 (pc := 35) dX9_event_35 ?_
        refine G_bipush (pc := 38) (8) dX9_event_38 bp_8 ?_
        refine G_icmp_ne (pc := 40) 46 dX9_event_40 (by decide) (fun c7 => ?_) (fun c7 => ?_)
        · replace h := itn c7 h
          refine G_aload_n (pc := 46) 0 dX9_event_46 rfl ?_
          refine gwM_X9_37_0 (pc := 47) dX9_event_47 ?_
          refine G_iconst (pc := 50) (3) dX9_event_50 ci_3 ?_
          refine G_aload_n (pc := 51) 0 dX9_event_51 rfl ?_
          refine gwM_X9_169_0 (pc := 52) dX9_event_52 ?_
          refine G_imul (pc := 55) dX9_event_55 ?_
          refine G_iload_n (pc := 56) 1 dX9_event_56 rfl ?_
          obtain ⟨g8, h⟩ := gi_some h
          refine aswM_10 (pc := 57) dX9_event_57 g8 ?_
          refine G_aload_n (pc := 58) 0 dX9_event_58 rfl ?_
          refine gwM_X9_37_0 (pc := 59) dX9_event_59 ?_
          refine G_iconst (pc := 62) (3) dX9_event_62 ci_3 ?_
          refine G_aload_n (pc := 63) 0 dX9_event_63 rfl ?_
          refine gwM_X9_169_0 (pc := 64) dX9_event_64 ?_
          refine G_imul (pc := 67) dX9_event_67 ?_
          refine G_iconst (pc := 68) (1) dX9_event_68 ci_1 ?_
          refine G_iadd (pc := 69) dX9_event_69 ?_
          refine G_iload_n (pc := 70) 2 dX9_event_70 rfl ?_
          obtain ⟨g9, h⟩ := gi_some h
          refine aswM_10 (pc := 71) dX9_event_71 g9 ?_
          refine G_aload_n (pc := 72) 0 dX9_event_72 rfl ?_
          refine gwM_X9_37_0 (pc := 73) dX9_event_73 ?_
          refine G_iconst (pc := 76) (3) dX9_event_76 ci_3 ?_
          refine G_aload_n (pc := 77) 0 dX9_event_77 rfl ?_
          refine gwM_X9_169_0 (pc := 78) dX9_event_78 ?_
          refine G_imul (pc := 81) dX9_event_81 ?_
          refine G_iconst (pc := 82) (2) dX9_event_82 ci_2 ?_
          refine G_iadd (pc := 83) dX9_event_83 ?_
          refine G_iload_n (pc := 84) 3 dX9_event_84 rfl ?_
          obtain ⟨g10, h⟩ := gi_some h
          refine aswM_10 (pc := 85) dX9_event_85 g10 ?_
          refine G_aload_n (pc := 86) 0 dX9_event_86 rfl ?_
          refine G_dup (pc := 87) dX9_event_87 rfl ?_
          refine gwM_X9_169_0 (pc := 88) dX9_event_88 ?_
          refine G_iconst (pc := 91) (1) dX9_event_91 ci_1 ?_
          refine G_iadd (pc := 92) dX9_event_92 ?_
          refine pwM_X9_169_0 (pc := 93) dX9_event_93 ?_
          refine G_aload_n (pc := 96) 0 dX9_event_96 rfl ?_
          refine gwM_X9_169_0 (pc := 97) dX9_event_97 ?_
          obtain rfl := Option.some.inj h
          exact G_iret (pc := 100) rfl dX9_event_100
        · replace h := itp c7 h
          refine G_bipush (pc := 43) (-4) dX9_event_43 bp_m4 ?_
          obtain rfl := Option.some.inj h
          exact G_iret (pc := 45) rfl dX9_event_45
      · replace h := itp c6 h
        refine G_bipush (pc := 31) (-2) dX9_event_31 bp_m2 ?_
        obtain rfl := Option.some.inj h
        exact G_iret (pc := 33) rfl dX9_event_33
def F_X9_back  (μ : Mm) : Option (Int32 × Mm) := if (μ.1 0 13) = 0 then some ((-3), μ) else some (((wI μ 0 13 ((μ.1 0 13) - 1)).1 0 13), (wI μ 0 13 ((μ.1 0 13) - 1)))
set_option maxRecDepth 100000 in
set_option maxHeartbeats 4000000 in
theorem S_X9_back   (μ : Mm) (q : (Int32 × Mm)) (h : F_X9_back  μ = some q) : Cn wM yX9_back cX9_back 1 (some .int) 0 [.ref 0] μ (some (.int q.1)) q.2 := by
  refine Cn_of (by decide +kernel) (Nat.le_of_ble_eq_true rfl) ?_
  show G wM RX9 cX9_back 1 (some .int) 0 (some (.int q.1)) q.2 0 [(0, .ref 0)] [] μ
  unfold F_X9_back at h
  refine G_aload_n (pc := 0) 0 dX9_back_0 rfl ?_
  refine gwM_X9_169_0 (pc := 1) dX9_back_1 ?_
  refine G_if_ne (pc := 4) 10 dX9_back_4 (by decide) (fun c1 => ?_) (fun c1 => ?_)
  · replace h := itn c1 h
    refine G_aload_n (pc := 10) 0 dX9_back_10 rfl ?_
    refine G_dup (pc := 11) dX9_back_11 rfl ?_
    refine gwM_X9_169_0 (pc := 12) dX9_back_12 ?_
    refine G_iconst (pc := 15) (1) dX9_back_15 ci_1 ?_
    refine G_isub (pc := 16) dX9_back_16 ?_
    refine pwM_X9_169_0 (pc := 17) dX9_back_17 ?_
    refine G_aload_n (pc := 20) 0 dX9_back_20 rfl ?_
    refine gwM_X9_169_0 (pc := 21) dX9_back_21 ?_
    obtain rfl := Option.some.inj h
    exact G_iret (pc := 24) rfl dX9_back_24
  · replace h := itp c1 h
    refine G_bipush (pc := 7) (-3) dX9_back_7 bp_m3 ?_
    obtain rfl := Option.some.inj h
    exact G_iret (pc := 9) rfl dX9_back_9
def F_X9_read_105 (K29 : Int32 → Int32 → Int32 → Mm → Option (Int32 × Mm)) (x1 : Int32) (x3 : Int32) (y0 : Int32) (y1 : Int32) (μ : Mm) : Option (Int32 × Mm) := K29 x1 (y1 + y0) x3 μ
set_option maxRecDepth 100000 in
set_option maxHeartbeats 4000000 in
theorem B_X9_read_105 (K29 : Int32 → Int32 → Int32 → Mm → Option (Int32 × Mm)) (hK29 : ∀ (x1 : Int32) (x2 : Int32) (x3 : Int32) (μ : Mm) (q : (Int32 × Mm)), K29 x1 x2 x3 μ = some q → G wM RX9 cX9_read 5 (some .int) 3 (some (.int q.1)) q.2 29 [(0, .ref 0), (1, .int x1), (2, .int x2), (3, .int x3)] [] μ) (x1 : Int32) (x3 : Int32) (y0 : Int32) (y1 : Int32) (μ : Mm) (q : (Int32 × Mm))  (h : F_X9_read_105 K29 x1 x3 y0 y1 μ = some q) : G wM RX9 cX9_read 5 (some .int) 3 (some (.int q.1)) q.2 105 [(0, .ref 0), (1, .int x1), (3, .int x3)] [.int y0, .int y1] μ := by
  unfold F_X9_read_105 at h
  refine G_iadd (pc := 105) dX9_read_105 ?_
  refine G_istore_n (pc := 106) [(2, .int _), (0, .ref _), (1, .int _), (3, .int _)] dX9_read_106 (Nat.le_of_ble_eq_true rfl) rfl ?_
  refine G_goto (pc := 107) 29 dX9_read_107 (by decide) ?_
  refine G_loc [1, 2, 0, 3] [(0, .ref _), (1, .int _), (2, .int _), (3, .int _)] rfl ?_
  exact hK29 _ _ _ _ _ h
def F_X9_read_94 (K29 : Int32 → Int32 → Int32 → Mm → Option (Int32 × Mm)) (x1 : Int32) (x2 : Int32) (y0 : Int32) (μ : Mm) : Option (Int32 × Mm) := F_X9_read_105 K29 x1 y0 (if y0 = 0 then 0 else 1) x2 μ
set_option maxRecDepth 100000 in
set_option maxHeartbeats 4000000 in
theorem B_X9_read_94 (K29 : Int32 → Int32 → Int32 → Mm → Option (Int32 × Mm)) (hK29 : ∀ (x1 : Int32) (x2 : Int32) (x3 : Int32) (μ : Mm) (q : (Int32 × Mm)), K29 x1 x2 x3 μ = some q → G wM RX9 cX9_read 5 (some .int) 3 (some (.int q.1)) q.2 29 [(0, .ref 0), (1, .int x1), (2, .int x2), (3, .int x3)] [] μ) (x1 : Int32) (x2 : Int32) (y0 : Int32) (μ : Mm) (q : (Int32 × Mm))  (h : F_X9_read_94 K29 x1 x2 y0 μ = some q) : G wM RX9 cX9_read 5 (some .int) 3 (some (.int q.1)) q.2 94 [(0, .ref 0), (1, .int x1), (2, .int x2)] [.int y0] μ := by
  unfold F_X9_read_94 at h
  refine G_istore_n (pc := 94) [(3, .int _), (0, .ref _), (1, .int _), (2, .int _)] dX9_read_94 (Nat.le_of_ble_eq_true rfl) rfl ?_
  refine G_iload_n (pc := 95) 3 dX9_read_95 rfl ?_
  refine G_iload_n (pc := 96) 0 dX9_read_96 rfl ?_
  refine G_if_eq (pc := 97) 104 dX9_read_97 (by decide) (fun c13 => ?_) (fun c13 => ?_)
  · rw [if_pos c13] at h
    refine G_iconst (pc := 104) (0) dX9_read_104 ci_0 ?_
    refine G_loc [1, 2, 0] [(0, .ref _), (1, .int _), (3, .int _)] rfl ?_
    exact B_X9_read_105 _ hK29 _ _ _ _ _ _ h
  · rw [if_neg c13] at h
    refine G_iconst (pc := 100) (1) dX9_read_100 ci_1 ?_
    refine G_goto (pc := 101) 105 dX9_read_101 (by decide) ?_
    refine G_loc [1, 2, 0] [(0, .ref _), (1, .int _), (3, .int _)] rfl ?_
    exact B_X9_read_105 _ hK29 _ _ _ _ _ _ h
def L_X9_read_29 : Nat → Int32 → Int32 → Int32 → Mm → Option (Int32 × Mm)
  | 0, _, _, _, _ => none
  | n + 1, x1, x2, x3, μ => if x3 = 0 then some (x2, μ) else gi x1 4 (if (μ.1 2 x1.toNatClampNeg) < ((3 * x2) + 3) then some (x2, μ) else gi ((60 * x1) + (3 * x2)) 240 (gi (((60 * x1) + (3 * x2)) + 1) 240 (gi (((60 * x1) + (3 * x2)) + 2) 240 ((F_X9_event (μ.1 3 ((60 * x1) + (3 * x2)).toNatClampNeg) (μ.1 3 (((60 * x1) + (3 * x2)) + 1).toNatClampNeg) (μ.1 3 (((60 * x1) + (3 * x2)) + 2).toNatClampNeg) μ).bind (fun q11 => F_X9_read_94 (L_X9_read_29 n) x1 x2 (if q11.1 < 0 then 0 else 1) q11.2)))))
set_option maxRecDepth 100000 in
set_option maxHeartbeats 4000000 in
theorem L_X9_read_29_s (n : Nat) (x1 : Int32) (x2 : Int32) (x3 : Int32) (μ : Mm) : L_X9_read_29  (n + 1) x1 x2 x3 μ = (if x3 = 0 then some (x2, μ) else gi x1 4 (if (μ.1 2 x1.toNatClampNeg) < ((3 * x2) + 3) then some (x2, μ) else gi ((60 * x1) + (3 * x2)) 240 (gi (((60 * x1) + (3 * x2)) + 1) 240 (gi (((60 * x1) + (3 * x2)) + 2) 240 ((F_X9_event (μ.1 3 ((60 * x1) + (3 * x2)).toNatClampNeg) (μ.1 3 (((60 * x1) + (3 * x2)) + 1).toNatClampNeg) (μ.1 3 (((60 * x1) + (3 * x2)) + 2).toNatClampNeg) μ).bind (fun q11 => F_X9_read_94 (L_X9_read_29 n) x1 x2 (if q11.1 < 0 then 0 else 1) q11.2)))))) := rfl
set_option maxRecDepth 100000 in
set_option maxHeartbeats 4000000 in
theorem B_X9_read_29 : ∀ (n : Nat) (x1 : Int32) (x2 : Int32) (x3 : Int32) (μ : Mm) (q : (Int32 × Mm)), L_X9_read_29  n x1 x2 x3 μ = some q → G wM RX9 cX9_read 5 (some .int) 3 (some (.int q.1)) q.2 29 [(0, .ref 0), (1, .int x1), (2, .int x2), (3, .int x3)] [] μ := by
  intro n
  induction n with
  | zero =>
    intro x1 x2 x3 μ q  h
    cases h
  | succ n ih =>
    intro x1 x2 x3 μ q  h
    rw [L_X9_read_29_s] at h
    refine G_iload_n (pc := 29) 3 dX9_read_29 rfl ?_
    refine G_if_eq (pc := 30) 110 dX9_read_30 (by decide) (fun c5 => ?_) (fun c5 => ?_)
    · replace h := itp c5 h
      refine G_iload_n (pc := 110) 2 dX9_read_110 rfl ?_
      obtain rfl := Option.some.inj h
      exact G_iret (pc := 111) rfl dX9_read_111
    · replace h := itn c5 h
      refine G_iconst (pc := 33) (3) dX9_read_33 ci_3 ?_
      refine G_iload_n (pc := 34) 2 dX9_read_34 rfl ?_
      refine G_imul (pc := 35) dX9_read_35 ?_
      refine G_iconst (pc := 36) (3) dX9_read_36 ci_3 ?_
      refine G_iadd (pc := 37) dX9_read_37 ?_
      refine G_aload_n (pc := 38) 0 dX9_read_38 rfl ?_
      refine gwM_X9_13_0 (pc := 39) dX9_read_39 ?_
      refine G_iload_n (pc := 42) 1 dX9_read_42 rfl ?_
      obtain ⟨g6, h⟩ := gi_some h
      refine alwM_2 (pc := 43) dX9_read_43 g6 ?_
      refine G_icmp_gt (pc := 44) 110 dX9_read_44 (by decide) (fun c7 => ?_) (fun c7 => ?_)
      · replace h := itp c7 h
        refine G_iload_n (pc := 110) 2 dX9_read_110 rfl ?_
        obtain rfl := Option.some.inj h
        exact G_iret (pc := 111) rfl dX9_read_111
      · replace h := itn c7 h
        refine G_bipush (pc := 47) (60) dX9_read_47 bp_60 ?_
        refine G_iload_n (pc := 49) 1 dX9_read_49 rfl ?_
        refine G_imul (pc := 50) dX9_read_50 ?_
        refine G_iconst (pc := 51) (3) dX9_read_51 ci_3 ?_
        refine G_iload_n (pc := 52) 2 dX9_read_52 rfl ?_
        refine G_imul (pc := 53) dX9_read_53 ?_
        refine G_iadd (pc := 54) dX9_read_54 ?_
        refine G_istore (pc := 55) [(4, .int _), (0, .ref _), (1, .int _), (2, .int _), (3, .int _)] dX9_read_55 (Nat.le_of_ble_eq_true rfl) rfl ?_
        refine G_aload_n (pc := 57) 1 dX9_read_57 rfl ?_
        refine G_aload_n (pc := 58) 1 dX9_read_58 rfl ?_
        refine gwM_X9_16_0 (pc := 59) dX9_read_59 ?_
        refine G_iload (pc := 62) 0 dX9_read_62 rfl ?_
        obtain ⟨g8, h⟩ := gi_some h
        refine alwM_3 (pc := 64) dX9_read_64 g8 ?_
        refine G_aload_n (pc := 65) 1 dX9_read_65 rfl ?_
        refine gwM_X9_16_0 (pc := 66) dX9_read_66 ?_
        refine G_iload (pc := 69) 0 dX9_read_69 rfl ?_
        refine G_iconst (pc := 71) (1) dX9_read_71 ci_1 ?_
        refine G_iadd (pc := 72) dX9_read_72 ?_
        obtain ⟨g9, h⟩ := gi_some h
        refine alwM_3 (pc := 73) dX9_read_73 g9 ?_
        refine G_aload_n (pc := 74) 1 dX9_read_74 rfl ?_
        refine gwM_X9_16_0 (pc := 75) dX9_read_75 ?_
        refine G_iload (pc := 78) 0 dX9_read_78 rfl ?_
        refine G_iconst (pc := 80) (2) dX9_read_80 ci_2 ?_
        refine G_iadd (pc := 81) dX9_read_81 ?_
        obtain ⟨g10, h⟩ := gi_some h
        refine alwM_3 (pc := 82) dX9_read_82 g10 ?_
        obtain ⟨q11, e11, h⟩ := bnd_some h
        refine G_callV3r (pc := 83) 0 8 dX9_read_83 wv_X9_172 cd_X9_event (S_X9_event _ _ _ _ _ e11) (by decide) (by decide) rfl (by decide) (fun _ _ => ⟨_, rfl⟩) (Nat.le_of_ble_eq_true rfl) ?_
        refine G_if_lt (pc := 86) 93 dX9_read_86 (by decide) (fun c12 => ?_) (fun c12 => ?_)
        · rw [if_pos c12] at h
          refine G_iconst (pc := 93) (0) dX9_read_93 ci_0 ?_
          refine G_loc [1, 2, 3] [(0, .ref _), (1, .int _), (2, .int _)] rfl ?_
          exact B_X9_read_94 _ ih _ _ _ _ _ h
        · rw [if_neg c12] at h
          refine G_iconst (pc := 89) (1) dX9_read_89 ci_1 ?_
          refine G_goto (pc := 90) 94 dX9_read_90 (by decide) ?_
          refine G_loc [1, 2, 3] [(0, .ref _), (1, .int _), (2, .int _)] rfl ?_
          exact B_X9_read_94 _ ih _ _ _ _ _ h
def F_X9_read (x1 : Int32) (μ : Mm) : Option (Int32 × Mm) := (F_X9_isSheet x1 μ).bind (fun q1 => if q1.1 = 0 then some ((-2), q1.2) else gi x1 4 (if 0 ≤ (q1.2.1 1 x1.toNatClampNeg) then L_X9_read_29 FUEL x1 0 1 q1.2 else (F_X9_finds 1 q1.2).bind (fun q14 => some (q14.1, q14.2))))
set_option maxRecDepth 100000 in
set_option maxHeartbeats 4000000 in
theorem S_X9_read (x1 : Int32)  (μ : Mm) (q : (Int32 × Mm)) (h : F_X9_read x1 μ = some q) : Cn wM yX9_read cX9_read 5 (some .int) 3 [.ref 0, .int x1] μ (some (.int q.1)) q.2 := by
  refine Cn_of (by decide +kernel) (Nat.le_of_ble_eq_true rfl) ?_
  show G wM RX9 cX9_read 5 (some .int) 3 (some (.int q.1)) q.2 0 [(0, .ref 0), (1, .int x1)] [] μ
  unfold F_X9_read at h
  refine G_iload_n (pc := 0) 1 dX9_read_0 rfl ?_
  obtain ⟨q1, e1, h⟩ := bnd_some h
  refine G_callS1r (pc := 1) dX9_read_1 ws_X9_101 cd_X9_isSheet (S_X9_isSheet _ _ _ e1) (by decide) (by decide) (Nat.le_of_ble_eq_true rfl) ?_
  refine G_if_ne (pc := 4) 10 dX9_read_4 (by decide) (fun c2 => ?_) (fun c2 => ?_)
  · replace h := itn c2 h
    refine G_aload_n (pc := 10) 0 dX9_read_10 rfl ?_
    refine gwM_X9_7_0 (pc := 11) dX9_read_11 ?_
    refine G_iload_n (pc := 14) 1 dX9_read_14 rfl ?_
    obtain ⟨g3, h⟩ := gi_some h
    refine alwM_1 (pc := 15) dX9_read_15 g3 ?_
    refine G_if_ge (pc := 16) 25 dX9_read_16 (by decide) (fun c4 => ?_) (fun c4 => ?_)
    · replace h := itp c4 h
      refine G_iconst (pc := 25) (0) dX9_read_25 ci_0 ?_
      refine G_istore_n (pc := 26) [(2, .int _), (0, .ref _), (1, .int _)] dX9_read_26 (Nat.le_of_ble_eq_true rfl) rfl ?_
      refine G_iconst (pc := 27) (1) dX9_read_27 ci_1 ?_
      refine G_istore_n (pc := 28) [(3, .int _), (2, .int _), (0, .ref _), (1, .int _)] dX9_read_28 (Nat.le_of_ble_eq_true rfl) rfl ?_
      refine G_loc [2, 3, 1, 0] [(0, .ref _), (1, .int _), (2, .int _), (3, .int _)] rfl ?_
      exact B_X9_read_29 _ _ _ _ _ _ h
    · replace h := itn c4 h
      refine G_aload_n (pc := 19) 0 dX9_read_19 rfl ?_
      refine G_iconst (pc := 20) (1) dX9_read_20 ci_1 ?_
      obtain ⟨q14, e14, h⟩ := bnd_some h
      refine G_callV1r (pc := 21) 0 8 dX9_read_21 wv_X9_107 cd_X9_finds (S_X9_finds _ _ _ e14) (by decide) (by decide) rfl (by decide) (fun _ _ => ⟨_, rfl⟩) (Nat.le_of_ble_eq_true rfl) ?_
      obtain rfl := Option.some.inj h
      exact G_iret (pc := 24) rfl dX9_read_24
  · replace h := itp c2 h
    refine G_bipush (pc := 7) (-2) dX9_read_7 bp_m2 ?_
    obtain rfl := Option.some.inj h
    exact G_iret (pc := 9) rfl dX9_read_9
def F_X9_greater (x0 : Int32) (x1 : Int32) (μ : Mm) : Option (Int32 × Mm) := some ((if x0 ≤ x1 then x1 else x0), μ)
set_option maxRecDepth 100000 in
set_option maxHeartbeats 4000000 in
theorem S_X9_greater (x0 : Int32) (x1 : Int32)  (μ : Mm) (q : (Int32 × Mm)) (h : F_X9_greater x0 x1 μ = some q) : Cn wM yX9_greater cX9_greater 2 (some .int) 0 [.int x0, .int x1] μ (some (.int q.1)) q.2 := by
  refine Cn_of (by decide +kernel) (Nat.le_of_ble_eq_true rfl) ?_
  show G wM RX9 cX9_greater 2 (some .int) 0 (some (.int q.1)) q.2 0 [(0, .int x0), (1, .int x1)] [] μ
  unfold F_X9_greater at h
  refine G_iload_n (pc := 0) 0 dX9_greater_0 rfl ?_
  refine G_iload_n (pc := 1) 1 dX9_greater_1 rfl ?_
  refine G_icmp_le (pc := 2) 9 dX9_greater_2 (by decide) (fun c1 => ?_) (fun c1 => ?_)
  · rw [if_pos c1] at h
    refine G_iload_n (pc := 9) 1 dX9_greater_9 rfl ?_
    obtain rfl := Option.some.inj h
    exact G_iret (pc := 10) rfl dX9_greater_10
  · rw [if_neg c1] at h
    refine G_iload_n (pc := 5) 0 dX9_greater_5 rfl ?_
    refine G_goto (pc := 6) 10 dX9_greater_6 (by decide) ?_
    obtain rfl := Option.some.inj h
    exact G_iret (pc := 10) rfl dX9_greater_10
def F_X9_scoreOf_89 (x1 : Int32) (x2 : Int32) (y0 : Int32) (y1 : Int32) (μ : Mm) : Option (Int32 × Mm) := gi ((3 * x1) + 2) 30 (gi ((3 * x2) + 2) 12 (some ((if (μ.1 7 ((3 * x1) + 2).toNatClampNeg) = (μ.1 8 ((3 * x2) + 2).toNatClampNeg) then ((y1 + y0) + 3) else ((y1 + y0) + 0)), μ)))
set_option maxRecDepth 100000 in
set_option maxHeartbeats 4000000 in
theorem B_X9_scoreOf_89 (x1 : Int32) (x2 : Int32) (y0 : Int32) (y1 : Int32) (μ : Mm) (q : (Int32 × Mm))  (h : F_X9_scoreOf_89  x1 x2 y0 y1 μ = some q) : G wM RX9 cX9_scoreOf 5 (some .int) 1 (some (.int q.1)) q.2 89 [(0, .ref 0), (1, .int x1), (2, .int x2)] [.int y0, .int y1] μ := by
  unfold F_X9_scoreOf_89 at h
  refine G_iadd (pc := 89) dX9_scoreOf_89 ?_
  refine G_istore (pc := 90) [(4, .int _), (0, .ref _), (1, .int _), (2, .int _)] dX9_scoreOf_90 (Nat.le_of_ble_eq_true rfl) rfl ?_
  refine G_iload (pc := 92) 0 dX9_scoreOf_92 rfl ?_
  refine G_aload_n (pc := 94) 1 dX9_scoreOf_94 rfl ?_
  refine gwM_X9_28_0 (pc := 95) dX9_scoreOf_95 ?_
  refine G_iconst (pc := 98) (3) dX9_scoreOf_98 ci_3 ?_
  refine G_iload_n (pc := 99) 2 dX9_scoreOf_99 rfl ?_
  refine G_imul (pc := 100) dX9_scoreOf_100 ?_
  refine G_iconst (pc := 101) (2) dX9_scoreOf_101 ci_2 ?_
  refine G_iadd (pc := 102) dX9_scoreOf_102 ?_
  obtain ⟨g7, h⟩ := gi_some h
  refine alwM_7 (pc := 103) dX9_scoreOf_103 g7 ?_
  refine G_aload_n (pc := 104) 1 dX9_scoreOf_104 rfl ?_
  refine gwM_X9_31_0 (pc := 105) dX9_scoreOf_105 ?_
  refine G_iconst (pc := 108) (3) dX9_scoreOf_108 ci_3 ?_
  refine G_iload_n (pc := 109) 3 dX9_scoreOf_109 rfl ?_
  refine G_imul (pc := 110) dX9_scoreOf_110 ?_
  refine G_iconst (pc := 111) (2) dX9_scoreOf_111 ci_2 ?_
  refine G_iadd (pc := 112) dX9_scoreOf_112 ?_
  obtain ⟨g8, h⟩ := gi_some h
  refine alwM_8 (pc := 113) dX9_scoreOf_113 g8 ?_
  refine G_icmp_ne (pc := 114) 121 dX9_scoreOf_114 (by decide) (fun c9 => ?_) (fun c9 => ?_)
  · rw [if_neg c9] at h
    refine G_iconst (pc := 121) (0) dX9_scoreOf_121 ci_0 ?_
    refine G_iadd (pc := 122) dX9_scoreOf_122 ?_
    obtain rfl := Option.some.inj h
    exact G_iret (pc := 123) rfl dX9_scoreOf_123
  · rw [if_pos c9] at h
    refine G_iconst (pc := 117) (3) dX9_scoreOf_117 ci_3 ?_
    refine G_goto (pc := 118) 122 dX9_scoreOf_118 (by decide) ?_
    refine G_iadd (pc := 122) dX9_scoreOf_122 ?_
    obtain rfl := Option.some.inj h
    exact G_iret (pc := 123) rfl dX9_scoreOf_123
def F_X9_scoreOf_59 (x1 : Int32) (x2 : Int32) (x3 : Int32) (y0 : Int32) (μ : Mm) : Option (Int32 × Mm) := gi (3 * x2) 12 (if (μ.1 8 (3 * x2).toNatClampNeg) = x3 then gi ((3 * x2) + 1) 12 (F_X9_scoreOf_89 x1 x2 (μ.1 8 ((3 * x2) + 1).toNatClampNeg) y0 μ) else F_X9_scoreOf_89 x1 x2 0 y0 μ)
set_option maxRecDepth 100000 in
set_option maxHeartbeats 4000000 in
theorem B_X9_scoreOf_59 (x1 : Int32) (x2 : Int32) (x3 : Int32) (y0 : Int32) (μ : Mm) (q : (Int32 × Mm))  (h : F_X9_scoreOf_59  x1 x2 x3 y0 μ = some q) : G wM RX9 cX9_scoreOf 5 (some .int) 1 (some (.int q.1)) q.2 59 [(0, .ref 0), (1, .int x1), (2, .int x2), (3, .int x3)] [.int y0] μ := by
  unfold F_X9_scoreOf_59 at h
  refine G_istore (pc := 59) [(4, .int _), (0, .ref _), (1, .int _), (2, .int _), (3, .int _)] dX9_scoreOf_59 (Nat.le_of_ble_eq_true rfl) rfl ?_
  refine G_iload (pc := 61) 0 dX9_scoreOf_61 rfl ?_
  refine G_aload_n (pc := 63) 1 dX9_scoreOf_63 rfl ?_
  refine gwM_X9_31_0 (pc := 64) dX9_scoreOf_64 ?_
  refine G_iconst (pc := 67) (3) dX9_scoreOf_67 ci_3 ?_
  refine G_iload_n (pc := 68) 3 dX9_scoreOf_68 rfl ?_
  refine G_imul (pc := 69) dX9_scoreOf_69 ?_
  obtain ⟨g5, h⟩ := gi_some h
  refine alwM_8 (pc := 70) dX9_scoreOf_70 g5 ?_
  refine G_iload_n (pc := 71) 4 dX9_scoreOf_71 rfl ?_
  refine G_icmp_ne (pc := 72) 88 dX9_scoreOf_72 (by decide) (fun c6 => ?_) (fun c6 => ?_)
  · replace h := itn c6 h
    refine G_iconst (pc := 88) (0) dX9_scoreOf_88 ci_0 ?_
    refine G_loc [1, 2, 3] [(0, .ref _), (1, .int _), (2, .int _)] rfl ?_
    exact B_X9_scoreOf_89 _ _ _ _ _ _ h
  · replace h := itp c6 h
    refine G_aload_n (pc := 75) 1 dX9_scoreOf_75 rfl ?_
    refine gwM_X9_31_0 (pc := 76) dX9_scoreOf_76 ?_
    refine G_iconst (pc := 79) (3) dX9_scoreOf_79 ci_3 ?_
    refine G_iload_n (pc := 80) 3 dX9_scoreOf_80 rfl ?_
    refine G_imul (pc := 81) dX9_scoreOf_81 ?_
    refine G_iconst (pc := 82) (1) dX9_scoreOf_82 ci_1 ?_
    refine G_iadd (pc := 83) dX9_scoreOf_83 ?_
    obtain ⟨g10, h⟩ := gi_some h
    refine alwM_8 (pc := 84) dX9_scoreOf_84 g10 ?_
    refine G_goto (pc := 85) 89 dX9_scoreOf_85 (by decide) ?_
    refine G_loc [1, 2, 3] [(0, .ref _), (1, .int _), (2, .int _)] rfl ?_
    exact B_X9_scoreOf_89 _ _ _ _ _ _ h
def F_X9_scoreOf_57 (x1 : Int32) (x2 : Int32) (x3 : Int32) (x4 : Int32) (μ : Mm) : Option (Int32 × Mm) := F_X9_scoreOf_59 x1 x2 x3 x4 μ
set_option maxRecDepth 100000 in
set_option maxHeartbeats 4000000 in
theorem B_X9_scoreOf_57 (x1 : Int32) (x2 : Int32) (x3 : Int32) (x4 : Int32) (μ : Mm) (q : (Int32 × Mm))  (h : F_X9_scoreOf_57  x1 x2 x3 x4 μ = some q) : G wM RX9 cX9_scoreOf 5 (some .int) 1 (some (.int q.1)) q.2 57 [(0, .ref 0), (1, .int x1), (2, .int x2), (3, .int x3), (4, .int x4)] [] μ := by
  unfold F_X9_scoreOf_57 at h
  refine G_iload (pc := 57) 4 dX9_scoreOf_57 rfl ?_
  refine G_loc [0, 1, 2, 3] [(0, .ref _), (1, .int _), (2, .int _), (3, .int _)] rfl ?_
  exact B_X9_scoreOf_59 _ _ _ _ _ _ h
def F_X9_scoreOf (x1 : Int32) (x2 : Int32) (μ : Mm) : Option (Int32 × Mm) := gi (3 * x1) 30 (gi x1 10 (if (μ.1 7 (3 * x1).toNatClampNeg) = 2 then gi x1 10 (F_X9_scoreOf_59 x1 x2 (μ.1 7 (3 * x1).toNatClampNeg) ((μ.1 11 x1.toNatClampNeg) + (μ.1 13 x1.toNatClampNeg)) μ) else if (μ.1 7 (3 * x1).toNatClampNeg) = 1 then if (μ.1 0 25) = 0 then F_X9_scoreOf_57 x1 x2 (μ.1 7 (3 * x1).toNatClampNeg) (μ.1 11 x1.toNatClampNeg) μ else (F_X9_greater ((μ.1 11 x1.toNatClampNeg) - 2) 0 μ).bind (fun q12 => F_X9_scoreOf_59 x1 x2 (μ.1 7 (3 * x1).toNatClampNeg) q12.1 q12.2) else F_X9_scoreOf_57 x1 x2 (μ.1 7 (3 * x1).toNatClampNeg) (μ.1 11 x1.toNatClampNeg) μ))
set_option maxRecDepth 100000 in
set_option maxHeartbeats 4000000 in
theorem S_X9_scoreOf (x1 : Int32) (x2 : Int32)  (μ : Mm) (q : (Int32 × Mm)) (h : F_X9_scoreOf x1 x2 μ = some q) : Cn wM yX9_scoreOf cX9_scoreOf 5 (some .int) 1 [.ref 0, .int x1, .int x2] μ (some (.int q.1)) q.2 := by
  refine Cn_of (by decide +kernel) (Nat.le_of_ble_eq_true rfl) ?_
  show G wM RX9 cX9_scoreOf 5 (some .int) 1 (some (.int q.1)) q.2 0 [(0, .ref 0), (1, .int x1), (2, .int x2)] [] μ
  unfold F_X9_scoreOf at h
  refine G_aload_n (pc := 0) 0 dX9_scoreOf_0 rfl ?_
  refine gwM_X9_28_0 (pc := 1) dX9_scoreOf_1 ?_
  refine G_iconst (pc := 4) (3) dX9_scoreOf_4 ci_3 ?_
  refine G_iload_n (pc := 5) 1 dX9_scoreOf_5 rfl ?_
  refine G_imul (pc := 6) dX9_scoreOf_6 ?_
  obtain ⟨g1, h⟩ := gi_some h
  refine alwM_7 (pc := 7) dX9_scoreOf_7 g1 ?_
  refine G_istore_n (pc := 8) [(3, .int _), (0, .ref _), (1, .int _), (2, .int _)] dX9_scoreOf_8 (Nat.le_of_ble_eq_true rfl) rfl ?_
  refine G_aload_n (pc := 9) 1 dX9_scoreOf_9 rfl ?_
  refine gwM_X9_40_0 (pc := 10) dX9_scoreOf_10 ?_
  refine G_iload_n (pc := 13) 2 dX9_scoreOf_13 rfl ?_
  obtain ⟨g2, h⟩ := gi_some h
  refine alwM_11 (pc := 14) dX9_scoreOf_14 g2 ?_
  refine G_istore (pc := 15) [(4, .int _), (3, .int _), (0, .ref _), (1, .int _), (2, .int _)] dX9_scoreOf_15 (Nat.le_of_ble_eq_true rfl) rfl ?_
  refine G_iload_n (pc := 17) 1 dX9_scoreOf_17 rfl ?_
  refine G_iconst (pc := 18) (2) dX9_scoreOf_18 ci_2 ?_
  refine G_icmp_ne (pc := 19) 34 dX9_scoreOf_19 (by decide) (fun c3 => ?_) (fun c3 => ?_)
  · replace h := itn c3 h
    refine G_iload_n (pc := 34) 1 dX9_scoreOf_34 rfl ?_
    refine G_iconst (pc := 35) (1) dX9_scoreOf_35 ci_1 ?_
    refine G_icmp_ne (pc := 36) 57 dX9_scoreOf_36 (by decide) (fun c4 => ?_) (fun c4 => ?_)
    · replace h := itn c4 h
      refine G_loc [2, 3, 4, 1, 0] [(0, .ref _), (1, .int _), (2, .int _), (3, .int _), (4, .int _)] rfl ?_
      exact B_X9_scoreOf_57 _ _ _ _ _ _ h
    · replace h := itp c4 h
      refine G_aload_n (pc := 39) 2 dX9_scoreOf_39 rfl ?_
      refine gwM_X9_177_0 (pc := 40) dX9_scoreOf_40 ?_
      refine G_if_eq (pc := 43) 57 dX9_scoreOf_43 (by decide) (fun c11 => ?_) (fun c11 => ?_)
      · replace h := itp c11 h
        refine G_loc [2, 3, 4, 1, 0] [(0, .ref _), (1, .int _), (2, .int _), (3, .int _), (4, .int _)] rfl ?_
        exact B_X9_scoreOf_57 _ _ _ _ _ _ h
      · replace h := itn c11 h
        refine G_iload (pc := 46) 0 dX9_scoreOf_46 rfl ?_
        refine G_iconst (pc := 48) (2) dX9_scoreOf_48 ci_2 ?_
        refine G_isub (pc := 49) dX9_scoreOf_49 ?_
        refine G_iconst (pc := 50) (0) dX9_scoreOf_50 ci_0 ?_
        obtain ⟨q12, e12, h⟩ := bnd_some h
        refine G_callS2r (pc := 51) dX9_scoreOf_51 ws_X9_181 cd_X9_greater (S_X9_greater _ _ _ _ e12) (by decide) (by decide) (Nat.le_of_ble_eq_true rfl) ?_
        refine G_goto (pc := 54) 59 dX9_scoreOf_54 (by decide) ?_
        refine G_loc [2, 3, 4, 1] [(0, .ref _), (1, .int _), (2, .int _), (3, .int _)] rfl ?_
        exact B_X9_scoreOf_59 _ _ _ _ _ _ h
  · replace h := itp c3 h
    refine G_iload (pc := 22) 0 dX9_scoreOf_22 rfl ?_
    refine G_aload_n (pc := 24) 2 dX9_scoreOf_24 rfl ?_
    refine gwM_X9_46_0 (pc := 25) dX9_scoreOf_25 ?_
    refine G_iload_n (pc := 28) 3 dX9_scoreOf_28 rfl ?_
    obtain ⟨g13, h⟩ := gi_some h
    refine alwM_13 (pc := 29) dX9_scoreOf_29 g13 ?_
    refine G_iadd (pc := 30) dX9_scoreOf_30 ?_
    refine G_goto (pc := 31) 59 dX9_scoreOf_31 (by decide) ?_
    refine G_loc [2, 3, 4, 1] [(0, .ref _), (1, .int _), (2, .int _), (3, .int _)] rfl ?_
    exact B_X9_scoreOf_59 _ _ _ _ _ _ h
def F_X9_scores_84 (K9 : Int32 → Int32 → Mm → Option Mm) (x2 : Int32) (x3 : Int32) (y0 : Int32) (y1 : Int32) (μ : Mm) : Option Mm := gi y1 10 (K9 x2 (x3 + 1) (wI μ 15 y1.toNatClampNeg y0))
set_option maxRecDepth 100000 in
set_option maxHeartbeats 4000000 in
theorem B_X9_scores_84 (K9 : Int32 → Int32 → Mm → Option Mm) (hK9 : ∀ (x2 : Int32) (x3 : Int32) (μ : Mm) (q : Mm), K9 x2 x3 μ = some q → G wM RX9 cX9_scores 5 none 2 none q 9 [(0, .ref 0), (2, .int x2), (3, .int x3)] [] μ) (x2 : Int32) (x3 : Int32) (y0 : Int32) (y1 : Int32) (μ : Mm) (q : Mm)  (h : F_X9_scores_84 K9 x2 x3 y0 y1 μ = some q) : G wM RX9 cX9_scores 5 none 2 none q 84 [(0, .ref 0), (2, .int x2), (3, .int x3)] [.int y0, .int y1, .ref 15] μ := by
  unfold F_X9_scores_84 at h
  obtain ⟨g6, h⟩ := gi_some h
  refine aswM_15 (pc := 84) dX9_scores_84 g6 ?_
  refine G_iinc (pc := 85) (1) 2 [(3, .int _), (0, .ref _), (2, .int _)] dX9_scores_85 ci_1 rfl (Nat.le_of_ble_eq_true rfl) rfl ?_
  refine G_goto (pc := 88) 9 dX9_scores_88 (by decide) ?_
  refine G_loc [1, 2, 0] [(0, .ref _), (2, .int _), (3, .int _)] rfl ?_
  exact hK9 _ _ _ _ h
