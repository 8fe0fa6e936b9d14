def F_X9_tellsThing (x1 : Int64) (x3 : Int32) (μ : Mm) : Option (Int64 × Mm) := (F_X9_lives μ).bind (fun q1 => L_X9_tellsThing_10 FUEL x3 x1 0 q1)
set_option maxRecDepth 100000 in
set_option maxHeartbeats 4000000 in
theorem S_X9_tellsThing (x1 : Int64) (x3 : Int32)  (μ : Mm) (q : (Int64 × Mm)) (h : F_X9_tellsThing x1 x3 μ = some q) : Cn wM yX9_tellsThing cX9_tellsThing 7 (some .long) 8 [.ref 0, .long x1, .int x3] μ (some (.long q.1)) q.2 := by
  refine Cn_of (by decide +kernel) (Nat.le_of_ble_eq_true rfl) ?_
  show G wM RX9 cX9_tellsThing 7 (some .long) 8 (some (.long q.1)) q.2 0 [(0, .ref 0), (1, .long x1), (3, .int x3)] [] μ
  unfold F_X9_tellsThing at h
  refine G_aload_n (pc := 0) 0 dX9_tellsThing_0 rfl ?_
  obtain ⟨q1, e1, h⟩ := bnd_some h
  refine G_callV0v (pc := 1) 0 8 dX9_tellsThing_1 wv_X9_217 cd_X9_lives (S_X9_lives _ _ e1) (by decide) (by decide) rfl (by decide) (fun _ _ => ⟨_, rfl⟩) (Nat.le_of_ble_eq_true rfl) ?_
  refine G_lload_n (pc := 4) 1 dX9_tellsThing_4 rfl ?_
  refine G_lstore (pc := 5) [(4, .long _), (0, .ref _), (1, .long _), (3, .int _)] dX9_tellsThing_5 (Nat.le_of_ble_eq_true rfl) rfl ?_
  refine G_iconst (pc := 7) (0) dX9_tellsThing_7 ci_0 ?_
  refine G_istore (pc := 8) [(6, .int _), (4, .long _), (0, .ref _), (1, .long _), (3, .int _)] dX9_tellsThing_8 (Nat.le_of_ble_eq_true rfl) rfl ?_
  refine G_loc [2, 4, 1, 0] [(0, .ref _), (3, .int _), (4, .long _), (6, .int _)] rfl ?_
  exact B_X9_tellsThing_10 _ _ _ _ _ _ h
def L_X9_digest_225 : Nat → Int64 → Int32 → Mm → Option (Int64 × Mm)
  | 0, _, _, _ => none
  | n + 1, x1, x3, μ => if 6 ≤ x3 then (F_X9_lives μ).bind (fun q8 => (F_X9_championNow q8).bind (fun q9 => (F_X9_bestNow q9.2).bind (fun q10 => (F_X9_leftBy 0 q10.2).bind (fun q11 => (F_X9_leftBy 1 q11.2).bind (fun q12 => (F_X9_spareBy (-1) q12.2).bind (fun q13 => (F_X9_spareBy 0 q13.2).bind (fun q14 => (F_X9_neverNow q14.2).bind (fun q15 => (F_X9_yearsOf 7 9 0 q15.2).bind (fun q16 => (F_X9_yearsOf 7 9 1 q16.2).bind (fun q17 => some (((31 * ((31 * ((31 * ((31 * ((31 * ((31 * ((31 * ((31 * ((31 * x1) + q9.1.toInt64)) + q10.1.toInt64)) + q11.1.toInt64)) + q12.1.toInt64)) + q13.1.toInt64)) + q14.1.toInt64)) + q15.1.toInt64)) + q16.1.toInt64)) + q17.1.toInt64), q17.2))))))))))) else (F_X9_tellsOwner x1 x3 μ).bind (fun q18 => L_X9_digest_225 n q18.1 (x3 + 1) q18.2)
set_option maxRecDepth 100000 in
set_option maxHeartbeats 4000000 in
theorem L_X9_digest_225_s (n : Nat) (x1 : Int64) (x3 : Int32) (μ : Mm) : L_X9_digest_225  (n + 1) x1 x3 μ = (if 6 ≤ x3 then (F_X9_lives μ).bind (fun q8 => (F_X9_championNow q8).bind (fun q9 => (F_X9_bestNow q9.2).bind (fun q10 => (F_X9_leftBy 0 q10.2).bind (fun q11 => (F_X9_leftBy 1 q11.2).bind (fun q12 => (F_X9_spareBy (-1) q12.2).bind (fun q13 => (F_X9_spareBy 0 q13.2).bind (fun q14 => (F_X9_neverNow q14.2).bind (fun q15 => (F_X9_yearsOf 7 9 0 q15.2).bind (fun q16 => (F_X9_yearsOf 7 9 1 q16.2).bind (fun q17 => some (((31 * ((31 * ((31 * ((31 * ((31 * ((31 * ((31 * ((31 * ((31 * x1) + q9.1.toInt64)) + q10.1.toInt64)) + q11.1.toInt64)) + q12.1.toInt64)) + q13.1.toInt64)) + q14.1.toInt64)) + q15.1.toInt64)) + q16.1.toInt64)) + q17.1.toInt64), q17.2))))))))))) else (F_X9_tellsOwner x1 x3 μ).bind (fun q18 => L_X9_digest_225 n q18.1 (x3 + 1) q18.2)) := rfl
set_option maxRecDepth 100000 in
set_option maxHeartbeats 4000000 in
theorem B_X9_digest_225 : ∀ (n : Nat) (x1 : Int64) (x3 : Int32) (μ : Mm) (q : (Int64 × Mm)), L_X9_digest_225  n x1 x3 μ = some q → G wM RX9 cX9_digest 5 (some .long) 9 (some (.long q.1)) q.2 225 [(0, .ref 0), (1, .long x1), (3, .int x3)] [] μ := by
  intro n
  induction n with
  | zero =>
    intro x1 x3 μ q  h
    cases h
  | succ n ih =>
    intro x1 x3 μ q  h
    rw [L_X9_digest_225_s] at h
    refine G_iload_n (pc := 225) 2 dX9_digest_225 rfl ?_
    refine G_bipush (pc := 226) (6) dX9_digest_226 bp_6 ?_
    refine G_icmp_ge (pc := 228) 244 dX9_digest_228 (by decide) (fun c7 => ?_) (fun c7 => ?_)
    · replace h := itp c7 h
      refine G_aload_n (pc := 244) 0 dX9_digest_244 rfl ?_
      obtain ⟨q8, e8, h⟩ := bnd_some h
      refine G_callV0v (pc := 245) 0 8 dX9_digest_245 wv_X9_217 cd_X9_lives (S_X9_lives _ _ e8) (by decide) (by decide) rfl (by decide) (fun _ _ => ⟨_, rfl⟩) (Nat.le_of_ble_eq_true rfl) ?_
      refine G_ldc2 (pc := 248) (31) dX9_digest_248 kl_X9_319 ?_
      refine G_lload_n (pc := 251) 1 dX9_digest_251 rfl ?_
      refine G_lmul (pc := 252) dX9_digest_252 ?_
      refine G_aload_n (pc := 253) 0 dX9_digest_253 rfl ?_
      obtain ⟨q9, e9, h⟩ := bnd_some h
      refine G_callV0r (pc := 254) 0 8 dX9_digest_254 wv_X9_239 cd_X9_championNow (S_X9_championNow _ _ e9) (by decide) (by decide) rfl (by decide) (fun _ _ => ⟨_, rfl⟩) (Nat.le_of_ble_eq_true rfl) ?_
      refine G_i2l (pc := 257) dX9_digest_257 ?_
      refine G_ladd (pc := 258) dX9_digest_258 ?_
      refine G_lstore_n (pc := 259) [(1, .long _), (0, .ref _), (3, .int _)] dX9_digest_259 (Nat.le_of_ble_eq_true rfl) rfl ?_
      refine G_ldc2 (pc := 260) (31) dX9_digest_260 kl_X9_319 ?_
      refine G_lload_n (pc := 263) 0 dX9_digest_263 rfl ?_
      refine G_lmul (pc := 264) dX9_digest_264 ?_
      refine G_aload_n (pc := 265) 1 dX9_digest_265 rfl ?_
      obtain ⟨q10, e10, h⟩ := bnd_some h
      refine G_callV0r (pc := 266) 0 8 dX9_digest_266 wv_X9_242 cd_X9_bestNow (S_X9_bestNow _ _ e10) (by decide) (by decide) rfl (by decide) (fun _ _ => ⟨_, rfl⟩) (Nat.le_of_ble_eq_true rfl) ?_
      refine G_i2l (pc := 269) dX9_digest_269 ?_
      refine G_ladd (pc := 270) dX9_digest_270 ?_
      refine G_lstore_n (pc := 271) [(1, .long _), (0, .ref _), (3, .int _)] dX9_digest_271 (Nat.le_of_ble_eq_true rfl) rfl ?_
      refine G_ldc2 (pc := 272) (31) dX9_digest_272 kl_X9_319 ?_
      refine G_lload_n (pc := 275) 0 dX9_digest_275 rfl ?_
      refine G_lmul (pc := 276) dX9_digest_276 ?_
      refine G_aload_n (pc := 277) 1 dX9_digest_277 rfl ?_
      refine G_iconst (pc := 278) (0) dX9_digest_278 ci_0 ?_
      obtain ⟨q11, e11, h⟩ := bnd_some h
      refine G_callV1r (pc := 279) 0 8 dX9_digest_279 wv_X9_245 cd_X9_leftBy (S_X9_leftBy _ _ _ e11) (by decide) (by decide) rfl (by decide) (fun _ _ => ⟨_, rfl⟩) (Nat.le_of_ble_eq_true rfl) ?_
      refine G_i2l (pc := 282) dX9_digest_282 ?_
      refine G_ladd (pc := 283) dX9_digest_283 ?_
      refine G_lstore_n (pc := 284) [(1, .long _), (0, .ref _), (3, .int _)] dX9_digest_284 (Nat.le_of_ble_eq_true rfl) rfl ?_
      refine G_ldc2 (pc := 285) (31) dX9_digest_285 kl_X9_319 ?_
      refine G_lload_n (pc := 288) 0 dX9_digest_288 rfl ?_
      refine G_lmul (pc := 289) dX9_digest_289 ?_
      refine G_aload_n (pc := 290) 1 dX9_digest_290 rfl ?_
      refine G_iconst (pc := 291) (1) dX9_digest_291 ci_1 ?_
      obtain ⟨q12, e12, h⟩ := bnd_some h
      refine G_callV1r (pc := 292) 0 8 dX9_digest_292 wv_X9_245 cd_X9_leftBy (S_X9_leftBy _ _ _ e12) (by decide) (by decide) rfl (by decide) (fun _ _ => ⟨_, rfl⟩) (Nat.le_of_ble_eq_true rfl) ?_
      refine G_i2l (pc := 295) dX9_digest_295 ?_
      refine G_ladd (pc := 296) dX9_digest_296 ?_
      refine G_lstore_n (pc := 297) [(1, .long _), (0, .ref _), (3, .int _)] dX9_digest_297 (Nat.le_of_ble_eq_true rfl) rfl ?_
      refine G_ldc2 (pc := 298) (31) dX9_digest_298 kl_X9_319 ?_
      refine G_lload_n (pc := 301) 0 dX9_digest_301 rfl ?_
      refine G_lmul (pc := 302) dX9_digest_302 ?_
      refine G_aload_n (pc := 303) 1 dX9_digest_303 rfl ?_
      refine G_iconst (pc := 304) (-1) dX9_digest_304 ci_m1 ?_
      obtain ⟨q13, e13, h⟩ := bnd_some h
      refine G_callV1r (pc := 305) 0 8 dX9_digest_305 wv_X9_262 cd_X9_spareBy (S_X9_spareBy _ _ _ e13) (by decide) (by decide) rfl (by decide) (fun _ _ => ⟨_, rfl⟩) (Nat.le_of_ble_eq_true rfl) ?_
      refine G_i2l (pc := 308) dX9_digest_308 ?_
      refine G_ladd (pc := 309) dX9_digest_309 ?_
      refine G_lstore_n (pc := 310) [(1, .long _), (0, .ref _), (3, .int _)] dX9_digest_310 (Nat.le_of_ble_eq_true rfl) rfl ?_
      refine G_ldc2 (pc := 311) (31) dX9_digest_311 kl_X9_319 ?_
      refine G_lload_n (pc := 314) 0 dX9_digest_314 rfl ?_
      refine G_lmul (pc := 315) dX9_digest_315 ?_
      refine G_aload_n (pc := 316) 1 dX9_digest_316 rfl ?_
      refine G_iconst (pc := 317) (0) dX9_digest_317 ci_0 ?_
      obtain ⟨q14, e14, h⟩ := bnd_some h
      refine G_callV1r (pc := 318) 0 8 dX9_digest_318 wv_X9_262 cd_X9_spareBy (S_X9_spareBy _ _ _ e14) (by decide) (by decide) rfl (by decide) (fun _ _ => ⟨_, rfl⟩) (Nat.le_of_ble_eq_true rfl) ?_
      refine G_i2l (pc := 321) dX9_digest_321 ?_
      refine G_ladd (pc := 322) dX9_digest_322 ?_
      refine G_lstore_n (pc := 323) [(1, .long _), (0, .ref _), (3, .int _)] dX9_digest_323 (Nat.le_of_ble_eq_true rfl) rfl ?_
      refine G_ldc2 (pc := 324) (31) dX9_digest_324 kl_X9_319 ?_
      refine G_lload_n (pc := 327) 0 dX9_digest_327 rfl ?_
      refine G_lmul (pc := 328) dX9_digest_328 ?_
      refine G_aload_n (pc := 329) 1 dX9_digest_329 rfl ?_
      obtain ⟨q15, e15, h⟩ := bnd_some h
      refine G_callV0r (pc := 330) 0 8 dX9_digest_330 wv_X9_275 cd_X9_neverNow (S_X9_neverNow _ _ e15) (by decide) (by decide) rfl (by decide) (fun _ _ => ⟨_, rfl⟩) (Nat.le_of_ble_eq_true rfl) ?_
      refine G_i2l (pc := 333) dX9_digest_333 ?_
      refine G_ladd (pc := 334) dX9_digest_334 ?_
      refine G_lstore_n (pc := 335) [(1, .long _), (0, .ref _), (3, .int _)] dX9_digest_335 (Nat.le_of_ble_eq_true rfl) rfl ?_
      refine G_ldc2 (pc := 336) (31) dX9_digest_336 kl_X9_319 ?_
      refine G_lload_n (pc := 339) 0 dX9_digest_339 rfl ?_
      refine G_lmul (pc := 340) dX9_digest_340 ?_
      refine G_aload_n (pc := 341) 1 dX9_digest_341 rfl ?_
      refine G_bipush (pc := 342) (7) dX9_digest_342 bp_7 ?_
      refine G_bipush (pc := 344) (9) dX9_digest_344 bp_9 ?_
      refine G_iconst (pc := 346) (0) dX9_digest_346 ci_0 ?_
      obtain ⟨q16, e16, h⟩ := bnd_some h
      refine G_callV3r (pc := 347) 0 8 dX9_digest_347 wv_X9_316 cd_X9_yearsOf (S_X9_yearsOf _ _ _ _ _ e16) (by decide) (by decide) rfl (by decide) (fun _ _ => ⟨_, rfl⟩) (Nat.le_of_ble_eq_true rfl) ?_
      refine G_i2l (pc := 350) dX9_digest_350 ?_
      refine G_ladd (pc := 351) dX9_digest_351 ?_
      refine G_lstore_n (pc := 352) [(1, .long _), (0, .ref _), (3, .int _)] dX9_digest_352 (Nat.le_of_ble_eq_true rfl) rfl ?_
      refine G_ldc2 (pc := 353) (31) dX9_digest_353 kl_X9_319 ?_
      refine G_lload_n (pc := 356) 0 dX9_digest_356 rfl ?_
      refine G_lmul (pc := 357) dX9_digest_357 ?_
      refine G_aload_n (pc := 358) 1 dX9_digest_358 rfl ?_
      refine G_bipush (pc := 359) (7) dX9_digest_359 bp_7 ?_
      refine G_bipush (pc := 361) (9) dX9_digest_361 bp_9 ?_
      refine G_iconst (pc := 363) (1) dX9_digest_363 ci_1 ?_
      obtain ⟨q17, e17, h⟩ := bnd_some h
      refine G_callV3r (pc := 364) 0 8 dX9_digest_364 wv_X9_316 cd_X9_yearsOf (S_X9_yearsOf _ _ _ _ _ e17) (by decide) (by decide) rfl (by decide) (fun _ _ => ⟨_, rfl⟩) (Nat.le_of_ble_eq_true rfl) ?_
      refine G_i2l (pc := 367) dX9_digest_367 ?_
      refine G_ladd (pc := 368) dX9_digest_368 ?_
      obtain rfl := Option.some.inj h
      exact G_lret (pc := 369) rfl dX9_digest_369
    · replace h := itn c7 h
      refine G_aload_n (pc := 231) 0 dX9_digest_231 rfl ?_
      refine G_lload_n (pc := 232) 1 dX9_digest_232 rfl ?_
      refine G_iload_n (pc := 233) 2 dX9_digest_233 rfl ?_
      obtain ⟨q18, e18, h⟩ := bnd_some h
      refine G_callV2r (pc := 234) 0 8 dX9_digest_234 wv_X9_334 cd_X9_tellsOwner (S_X9_tellsOwner _ _ _ _ e18) (by decide) (by decide) rfl (by decide) (fun _ _ => ⟨_, rfl⟩) (Nat.le_of_ble_eq_true rfl) ?_
      refine G_lstore_n (pc := 237) [(1, .long _), (0, .ref _), (3, .int _)] dX9_digest_237 (Nat.le_of_ble_eq_true rfl) rfl ?_
      refine G_iinc (pc := 238) (1) 2 [(3, .int _), (1, .long _), (0, .ref _)] dX9_digest_238 ci_1 rfl (Nat.le_of_ble_eq_true rfl) rfl ?_
      refine G_goto (pc := 241) 225 dX9_digest_241 (by decide) ?_
      refine G_loc [2, 1, 0] [(0, .ref _), (1, .long _), (3, .int _)] rfl ?_
      exact ih _ _ _ _ h
def L_X9_digest_173 (K162 : Int64 → Int32 → Mm → Option (Int64 × Mm)) : Nat → Int64 → Int32 → Int32 → Mm → Option (Int64 × Mm)
  | 0, _, _, _, _ => none
  | n + 1, x1, x3, x4, μ => if 3 ≤ x4 then (F_X9_tastesOf x3 μ).bind (fun q20 => K162 ((31 * x1) + q20.1.toInt64) (x3 + 1) q20.2) else gi ((3 * x3) + x4) 12 (L_X9_digest_173 K162 n ((31 * x1) + (μ.1 8 ((3 * x3) + x4).toNatClampNeg).toInt64) x3 (x4 + 1) μ)
set_option maxRecDepth 100000 in
set_option maxHeartbeats 4000000 in
theorem L_X9_digest_173_s (K162 : Int64 → Int32 → Mm → Option (Int64 × Mm)) (n : Nat) (x1 : Int64) (x3 : Int32) (x4 : Int32) (μ : Mm) : L_X9_digest_173 K162 (n + 1) x1 x3 x4 μ = (if 3 ≤ x4 then (F_X9_tastesOf x3 μ).bind (fun q20 => K162 ((31 * x1) + q20.1.toInt64) (x3 + 1) q20.2) else gi ((3 * x3) + x4) 12 (L_X9_digest_173 K162 n ((31 * x1) + (μ.1 8 ((3 * x3) + x4).toNatClampNeg).toInt64) x3 (x4 + 1) μ)) := rfl
set_option maxRecDepth 100000 in
set_option maxHeartbeats 4000000 in
theorem B_X9_digest_173 (K162 : Int64 → Int32 → Mm → Option (Int64 × Mm)) (hK162 : ∀ (x1 : Int64) (x3 : Int32) (μ : Mm) (q : (Int64 × Mm)), K162 x1 x3 μ = some q → G wM RX9 cX9_digest 5 (some .long) 9 (some (.long q.1)) q.2 162 [(0, .ref 0), (1, .long x1), (3, .int x3)] [] μ) : ∀ (n : Nat) (x1 : Int64) (x3 : Int32) (x4 : Int32) (μ : Mm) (q : (Int64 × Mm)), L_X9_digest_173 K162 n x1 x3 x4 μ = some q → G wM RX9 cX9_digest 5 (some .long) 9 (some (.long q.1)) q.2 173 [(0, .ref 0), (1, .long x1), (3, .int x3), (4, .int x4)] [] μ := by
  intro n
  induction n with
  | zero =>
    intro x1 x3 x4 μ q  h
    cases h
  | succ n ih =>
    intro x1 x3 x4 μ q  h
    rw [L_X9_digest_173_s] at h
    refine G_iload (pc := 173) 3 dX9_digest_173 rfl ?_
    refine G_iconst (pc := 175) (3) dX9_digest_175 ci_3 ?_
    refine G_icmp_ge (pc := 176) 204 dX9_digest_176 (by decide) (fun c19 => ?_) (fun c19 => ?_)
    · replace h := itp c19 h
      refine G_ldc2 (pc := 204) (31) dX9_digest_204 kl_X9_319 ?_
      refine G_lload_n (pc := 207) 1 dX9_digest_207 rfl ?_
      refine G_lmul (pc := 208) dX9_digest_208 ?_
      refine G_aload_n (pc := 209) 0 dX9_digest_209 rfl ?_
      refine G_iload_n (pc := 210) 2 dX9_digest_210 rfl ?_
      obtain ⟨q20, e20, h⟩ := bnd_some h
      refine G_callV1r (pc := 211) 0 8 dX9_digest_211 wv_X9_281 cd_X9_tastesOf (S_X9_tastesOf _ _ _ e20) (by decide) (by decide) rfl (by decide) (fun _ _ => ⟨_, rfl⟩) (Nat.le_of_ble_eq_true rfl) ?_
      refine G_i2l (pc := 214) dX9_digest_214 ?_
      refine G_ladd (pc := 215) dX9_digest_215 ?_
      refine G_lstore_n (pc := 216) [(1, .long _), (0, .ref _), (3, .int _), (4, .int _)] dX9_digest_216 (Nat.le_of_ble_eq_true rfl) rfl ?_
      refine G_iinc (pc := 217) (1) 2 [(3, .int _), (1, .long _), (0, .ref _), (4, .int _)] dX9_digest_217 ci_1 rfl (Nat.le_of_ble_eq_true rfl) rfl ?_
      refine G_goto (pc := 220) 162 dX9_digest_220 (by decide) ?_
      refine G_loc [2, 1, 0] [(0, .ref _), (1, .long _), (3, .int _)] rfl ?_
      exact hK162 _ _ _ _ h
    · replace h := itn c19 h
      refine G_ldc2 (pc := 179) (31) dX9_digest_179 kl_X9_319 ?_
      refine G_lload_n (pc := 182) 1 dX9_digest_182 rfl ?_
      refine G_lmul (pc := 183) dX9_digest_183 ?_
      refine G_aload_n (pc := 184) 0 dX9_digest_184 rfl ?_
      refine gwM_X9_31_0 (pc := 185) dX9_digest_185 ?_
      refine G_iconst (pc := 188) (3) dX9_digest_188 ci_3 ?_
      refine G_iload_n (pc := 189) 2 dX9_digest_189 rfl ?_
      refine G_imul (pc := 190) dX9_digest_190 ?_
      refine G_iload (pc := 191) 3 dX9_digest_191 rfl ?_
      refine G_iadd (pc := 193) dX9_digest_193 ?_
      obtain ⟨g21, h⟩ := gi_some h
      refine alwM_8 (pc := 194) dX9_digest_194 g21 ?_
      refine G_i2l (pc := 195) dX9_digest_195 ?_
      refine G_ladd (pc := 196) dX9_digest_196 ?_
      refine G_lstore_n (pc := 197) [(1, .long _), (0, .ref _), (3, .int _), (4, .int _)] dX9_digest_197 (Nat.le_of_ble_eq_true rfl) rfl ?_
      refine G_iinc (pc := 198) (1) 3 [(4, .int _), (1, .long _), (0, .ref _), (3, .int _)] dX9_digest_198 ci_1 rfl (Nat.le_of_ble_eq_true rfl) rfl ?_
      refine G_goto (pc := 201) 173 dX9_digest_201 (by decide) ?_
      refine G_loc [2, 1, 3, 0] [(0, .ref _), (1, .long _), (3, .int _), (4, .int _)] rfl ?_
      exact ih _ _ _ _ _ h
def L_X9_digest_162 : Nat → Int64 → Int32 → Mm → Option (Int64 × Mm)
  | 0, _, _, _ => none
  | n + 1, x1, x3, μ => if (μ.1 0 9) ≤ x3 then L_X9_digest_225 FUEL x1 0 μ else L_X9_digest_173 (L_X9_digest_162 n) FUEL x1 x3 0 μ
set_option maxRecDepth 100000 in
set_option maxHeartbeats 4000000 in
theorem L_X9_digest_162_s (n : Nat) (x1 : Int64) (x3 : Int32) (μ : Mm) : L_X9_digest_162  (n + 1) x1 x3 μ = (if (μ.1 0 9) ≤ x3 then L_X9_digest_225 FUEL x1 0 μ else L_X9_digest_173 (L_X9_digest_162 n) FUEL x1 x3 0 μ) := rfl
set_option maxRecDepth 100000 in
set_option maxHeartbeats 4000000 in
theorem B_X9_digest_162 : ∀ (n : Nat) (x1 : Int64) (x3 : Int32) (μ : Mm) (q : (Int64 × Mm)), L_X9_digest_162  n x1 x3 μ = some q → G wM RX9 cX9_digest 5 (some .long) 9 (some (.long q.1)) q.2 162 [(0, .ref 0), (1, .long x1), (3, .int x3)] [] μ := by
  intro n
  induction n with
  | zero =>
    intro x1 x3 μ q  h
    cases h
  | succ n ih =>
    intro x1 x3 μ q  h
    rw [L_X9_digest_162_s] at h
    refine G_iload_n (pc := 162) 2 dX9_digest_162 rfl ?_
    refine G_aload_n (pc := 163) 0 dX9_digest_163 rfl ?_
    refine gwM_X9_134_0 (pc := 164) dX9_digest_164 ?_
    refine G_icmp_ge (pc := 167) 223 dX9_digest_167 (by decide) (fun c6 => ?_) (fun c6 => ?_)
    · replace h := itp c6 h
      refine G_iconst (pc := 223) (0) dX9_digest_223 ci_0 ?_
      refine G_istore_n (pc := 224) [(3, .int _), (0, .ref _), (1, .long _)] dX9_digest_224 (Nat.le_of_ble_eq_true rfl) rfl ?_
      refine G_loc [1, 2, 0] [(0, .ref _), (1, .long _), (3, .int _)] rfl ?_
      exact B_X9_digest_225 _ _ _ _ _ h
    · replace h := itn c6 h
      refine G_iconst (pc := 170) (0) dX9_digest_170 ci_0 ?_
      refine G_istore (pc := 171) [(4, .int _), (0, .ref _), (1, .long _), (3, .int _)] dX9_digest_171 (Nat.le_of_ble_eq_true rfl) rfl ?_
      refine G_loc [1, 2, 3, 0] [(0, .ref _), (1, .long _), (3, .int _), (4, .int _)] rfl ?_
      exact B_X9_digest_173 _ ih _ _ _ _ _ _ h
def L_X9_digest_139 : Nat → Int64 → Int32 → Mm → Option (Int64 × Mm)
  | 0, _, _, _ => none
  | n + 1, x1, x3, μ => if (μ.1 0 7) ≤ x3 then L_X9_digest_162 FUEL x1 0 μ else (F_X9_tellsThing x1 x3 μ).bind (fun q22 => L_X9_digest_139 n q22.1 (x3 + 1) q22.2)
set_option maxRecDepth 100000 in
set_option maxHeartbeats 4000000 in
theorem L_X9_digest_139_s (n : Nat) (x1 : Int64) (x3 : Int32) (μ : Mm) : L_X9_digest_139  (n + 1) x1 x3 μ = (if (μ.1 0 7) ≤ x3 then L_X9_digest_162 FUEL x1 0 μ else (F_X9_tellsThing x1 x3 μ).bind (fun q22 => L_X9_digest_139 n q22.1 (x3 + 1) q22.2)) := rfl
set_option maxRecDepth 100000 in
set_option maxHeartbeats 4000000 in
theorem B_X9_digest_139 : ∀ (n : Nat) (x1 : Int64) (x3 : Int32) (μ : Mm) (q : (Int64 × Mm)), L_X9_digest_139  n x1 x3 μ = some q → G wM RX9 cX9_digest 5 (some .long) 9 (some (.long q.1)) q.2 139 [(0, .ref 0), (1, .long x1), (3, .int x3)] [] μ := by
  intro n
  induction n with
  | zero =>
    intro x1 x3 μ q  h
    cases h
  | succ n ih =>
    intro x1 x3 μ q  h
    rw [L_X9_digest_139_s] at h
    refine G_iload_n (pc := 139) 2 dX9_digest_139 rfl ?_
    refine G_aload_n (pc := 140) 0 dX9_digest_140 rfl ?_
    refine gwM_X9_128_0 (pc := 141) dX9_digest_141 ?_
    refine G_icmp_ge (pc := 144) 160 dX9_digest_144 (by decide) (fun c5 => ?_) (fun c5 => ?_)
    · replace h := itp c5 h
      refine G_iconst (pc := 160) (0) dX9_digest_160 ci_0 ?_
      refine G_istore_n (pc := 161) [(3, .int _), (0, .ref _), (1, .long _)] dX9_digest_161 (Nat.le_of_ble_eq_true rfl) rfl ?_
      refine G_loc [1, 2, 0] [(0, .ref _), (1, .long _), (3, .int _)] rfl ?_
      exact B_X9_digest_162 _ _ _ _ _ h
    · replace h := itn c5 h
      refine G_aload_n (pc := 147) 0 dX9_digest_147 rfl ?_
      refine G_lload_n (pc := 148) 1 dX9_digest_148 rfl ?_
      refine G_iload_n (pc := 149) 2 dX9_digest_149 rfl ?_
      obtain ⟨q22, e22, h⟩ := bnd_some h
      refine G_callV2r (pc := 150) 0 8 dX9_digest_150 wv_X9_330 cd_X9_tellsThing (S_X9_tellsThing _ _ _ _ e22) (by decide) (by decide) rfl (by decide) (fun _ _ => ⟨_, rfl⟩) (Nat.le_of_ble_eq_true rfl) ?_
      refine G_lstore_n (pc := 153) [(1, .long _), (0, .ref _), (3, .int _)] dX9_digest_153 (Nat.le_of_ble_eq_true rfl) rfl ?_
      refine G_iinc (pc := 154) (1) 2 [(3, .int _), (1, .long _), (0, .ref _)] dX9_digest_154 ci_1 rfl (Nat.le_of_ble_eq_true rfl) rfl ?_
      refine G_goto (pc := 157) 139 dX9_digest_157 (by decide) ?_
      refine G_loc [2, 1, 0] [(0, .ref _), (1, .long _), (3, .int _)] rfl ?_
      exact ih _ _ _ _ h
def L_X9_digest_100 (K63 : Int64 → Int32 → Mm → Option (Int64 × Mm)) : Nat → Int64 → Int32 → Int32 → Mm → Option (Int64 × Mm)
  | 0, _, _, _, _ => none
  | n + 1, x1, x3, x4, μ => if 3 ≤ x4 then K63 x1 (x3 + 1) μ else gi ((3 * x3) + x4) 36 (L_X9_digest_100 K63 n ((31 * x1) + (μ.1 22 ((3 * x3) + x4).toNatClampNeg).toInt64) x3 (x4 + 1) μ)
set_option maxRecDepth 100000 in
set_option maxHeartbeats 4000000 in
theorem L_X9_digest_100_s (K63 : Int64 → Int32 → Mm → Option (Int64 × Mm)) (n : Nat) (x1 : Int64) (x3 : Int32) (x4 : Int32) (μ : Mm) : L_X9_digest_100 K63 (n + 1) x1 x3 x4 μ = (if 3 ≤ x4 then K63 x1 (x3 + 1) μ else gi ((3 * x3) + x4) 36 (L_X9_digest_100 K63 n ((31 * x1) + (μ.1 22 ((3 * x3) + x4).toNatClampNeg).toInt64) x3 (x4 + 1) μ)) := rfl
set_option maxRecDepth 100000 in
set_option maxHeartbeats 4000000 in
theorem B_X9_digest_100 (K63 : Int64 → Int32 → Mm → Option (Int64 × Mm)) (hK63 : ∀ (x1 : Int64) (x3 : Int32) (μ : Mm) (q : (Int64 × Mm)), K63 x1 x3 μ = some q → G wM RX9 cX9_digest 5 (some .long) 9 (some (.long q.1)) q.2 63 [(0, .ref 0), (1, .long x1), (3, .int x3)] [] μ) : ∀ (n : Nat) (x1 : Int64) (x3 : Int32) (x4 : Int32) (μ : Mm) (q : (Int64 × Mm)), L_X9_digest_100 K63 n x1 x3 x4 μ = some q → G wM RX9 cX9_digest 5 (some .long) 9 (some (.long q.1)) q.2 100 [(0, .ref 0), (1, .long x1), (3, .int x3), (4, .int x4)] [] μ := by
  intro n
  induction n with
  | zero =>
    intro x1 x3 x4 μ q  h
    cases h
  | succ n ih =>
    intro x1 x3 x4 μ q  h
    rw [L_X9_digest_100_s] at h
    refine G_iload (pc := 100) 3 dX9_digest_100 rfl ?_
    refine G_iconst (pc := 102) (3) dX9_digest_102 ci_3 ?_
    refine G_icmp_ge (pc := 103) 131 dX9_digest_103 (by decide) (fun c25 => ?_) (fun c25 => ?_)
    · replace h := itp c25 h
      refine G_iinc (pc := 131) (1) 2 [(3, .int _), (0, .ref _), (1, .long _), (4, .int _)] dX9_digest_131 ci_1 rfl (Nat.le_of_ble_eq_true rfl) rfl ?_
      refine G_goto (pc := 134) 63 dX9_digest_134 (by decide) ?_
      refine G_loc [1, 2, 0] [(0, .ref _), (1, .long _), (3, .int _)] rfl ?_
      exact hK63 _ _ _ _ h
    · replace h := itn c25 h
      refine G_ldc2 (pc := 106) (31) dX9_digest_106 kl_X9_319 ?_
      refine G_lload_n (pc := 109) 1 dX9_digest_109 rfl ?_
      refine G_lmul (pc := 110) dX9_digest_110 ?_
      refine G_aload_n (pc := 111) 0 dX9_digest_111 rfl ?_
      refine gwM_X9_74_0 (pc := 112) dX9_digest_112 ?_
      refine G_iconst (pc := 115) (3) dX9_digest_115 ci_3 ?_
      refine G_iload_n (pc := 116) 2 dX9_digest_116 rfl ?_
      refine G_imul (pc := 117) dX9_digest_117 ?_
      refine G_iload (pc := 118) 3 dX9_digest_118 rfl ?_
      refine G_iadd (pc := 120) dX9_digest_120 ?_
      obtain ⟨g26, h⟩ := gi_some h
      refine alwM_22 (pc := 121) dX9_digest_121 g26 ?_
      refine G_i2l (pc := 122) dX9_digest_122 ?_
      refine G_ladd (pc := 123) dX9_digest_123 ?_
      refine G_lstore_n (pc := 124) [(1, .long _), (0, .ref _), (3, .int _), (4, .int _)] dX9_digest_124 (Nat.le_of_ble_eq_true rfl) rfl ?_
      refine G_iinc (pc := 125) (1) 3 [(4, .int _), (1, .long _), (0, .ref _), (3, .int _)] dX9_digest_125 ci_1 rfl (Nat.le_of_ble_eq_true rfl) rfl ?_
      refine G_goto (pc := 128) 100 dX9_digest_128 (by decide) ?_
      refine G_loc [2, 1, 3, 0] [(0, .ref _), (1, .long _), (3, .int _), (4, .int _)] rfl ?_
      exact ih _ _ _ _ _ h
def L_X9_digest_63 : Nat → Int64 → Int32 → Mm → Option (Int64 × Mm)
  | 0, _, _, _ => none
  | n + 1, x1, x3, μ => if 12 ≤ x3 then L_X9_digest_139 FUEL x1 0 μ else (F_X9_showOf x3 0 μ).bind (fun q23 => (F_X9_showOf x3 1 q23.2).bind (fun q24 => L_X9_digest_100 (L_X9_digest_63 n) FUEL ((31 * ((31 * x1) + q23.1.toInt64)) + q24.1.toInt64) x3 0 q24.2))
set_option maxRecDepth 100000 in
set_option maxHeartbeats 4000000 in
theorem L_X9_digest_63_s (n : Nat) (x1 : Int64) (x3 : Int32) (μ : Mm) : L_X9_digest_63  (n + 1) x1 x3 μ = (if 12 ≤ x3 then L_X9_digest_139 FUEL x1 0 μ else (F_X9_showOf x3 0 μ).bind (fun q23 => (F_X9_showOf x3 1 q23.2).bind (fun q24 => L_X9_digest_100 (L_X9_digest_63 n) FUEL ((31 * ((31 * x1) + q23.1.toInt64)) + q24.1.toInt64) x3 0 q24.2))) := rfl
set_option maxRecDepth 100000 in
set_option maxHeartbeats 4000000 in
theorem B_X9_digest_63 : ∀ (n : Nat) (x1 : Int64) (x3 : Int32) (μ : Mm) (q : (Int64 × Mm)), L_X9_digest_63  n x1 x3 μ = some q → G wM RX9 cX9_digest 5 (some .long) 9 (some (.long q.1)) q.2 63 [(0, .ref 0), (1, .long x1), (3, .int x3)] [] μ := by
  intro n
  induction n with
  | zero =>
    intro x1 x3 μ q  h
    cases h
  | succ n ih =>
    intro x1 x3 μ q  h
    rw [L_X9_digest_63_s] at h
    refine G_iload_n (pc := 63) 2 dX9_digest_63 rfl ?_
    refine G_bipush (pc := 64) (12) dX9_digest_64 bp_12 ?_
    refine G_icmp_ge (pc := 66) 137 dX9_digest_66 (by decide) (fun c4 => ?_) (fun c4 => ?_)
    · replace h := itp c4 h
      refine G_iconst (pc := 137) (0) dX9_digest_137 ci_0 ?_
      refine G_istore_n (pc := 138) [(3, .int _), (0, .ref _), (1, .long _)] dX9_digest_138 (Nat.le_of_ble_eq_true rfl) rfl ?_
      refine G_loc [1, 2, 0] [(0, .ref _), (1, .long _), (3, .int _)] rfl ?_
      exact B_X9_digest_139 _ _ _ _ _ h
    · replace h := itn c4 h
      refine G_ldc2 (pc := 69) (31) dX9_digest_69 kl_X9_319 ?_
      refine G_lload_n (pc := 72) 1 dX9_digest_72 rfl ?_
      refine G_lmul (pc := 73) dX9_digest_73 ?_
      refine G_aload_n (pc := 74) 0 dX9_digest_74 rfl ?_
      refine G_iload_n (pc := 75) 2 dX9_digest_75 rfl ?_
      refine G_iconst (pc := 76) (0) dX9_digest_76 ci_0 ?_
      obtain ⟨q23, e23, h⟩ := bnd_some h
      refine G_callV2r (pc := 77) 0 8 dX9_digest_77 wv_X9_231 cd_X9_showOf (S_X9_showOf _ _ _ _ e23) (by decide) (by decide) rfl (by decide) (fun _ _ => ⟨_, rfl⟩) (Nat.le_of_ble_eq_true rfl) ?_
      refine G_i2l (pc := 80) dX9_digest_80 ?_
      refine G_ladd (pc := 81) dX9_digest_81 ?_
      refine G_lstore_n (pc := 82) [(1, .long _), (0, .ref _), (3, .int _)] dX9_digest_82 (Nat.le_of_ble_eq_true rfl) rfl ?_
      refine G_ldc2 (pc := 83) (31) dX9_digest_83 kl_X9_319 ?_
      refine G_lload_n (pc := 86) 0 dX9_digest_86 rfl ?_
      refine G_lmul (pc := 87) dX9_digest_87 ?_
      refine G_aload_n (pc := 88) 1 dX9_digest_88 rfl ?_
      refine G_iload_n (pc := 89) 2 dX9_digest_89 rfl ?_
      refine G_iconst (pc := 90) (1) dX9_digest_90 ci_1 ?_
      obtain ⟨q24, e24, h⟩ := bnd_some h
      refine G_callV2r (pc := 91) 0 8 dX9_digest_91 wv_X9_231 cd_X9_showOf (S_X9_showOf _ _ _ _ e24) (by decide) (by decide) rfl (by decide) (fun _ _ => ⟨_, rfl⟩) (Nat.le_of_ble_eq_true rfl) ?_
      refine G_i2l (pc := 94) dX9_digest_94 ?_
      refine G_ladd (pc := 95) dX9_digest_95 ?_
      refine G_lstore_n (pc := 96) [(1, .long _), (0, .ref _), (3, .int _)] dX9_digest_96 (Nat.le_of_ble_eq_true rfl) rfl ?_
      refine G_iconst (pc := 97) (0) dX9_digest_97 ci_0 ?_
      refine G_istore (pc := 98) [(4, .int _), (1, .long _), (0, .ref _), (3, .int _)] dX9_digest_98 (Nat.le_of_ble_eq_true rfl) rfl ?_
      refine G_loc [2, 1, 3, 0] [(0, .ref _), (1, .long _), (3, .int _), (4, .int _)] rfl ?_
      exact B_X9_digest_100 _ ih _ _ _ _ _ _ h
def L_X9_digest_33 : Nat → Int64 → Int32 → Mm → Option (Int64 × Mm)
  | 0, _, _, _ => none
  | n + 1, x1, x3, μ => if 3 ≤ x3 then (F_X9_lives μ).bind (fun q3 => L_X9_digest_63 FUEL x1 0 q3) else (F_X9_readsText x3 μ).bind (fun q27 => L_X9_digest_33 n ((31 * x1) + q27.1.toInt64) (x3 + 1) q27.2)
set_option maxRecDepth 100000 in
set_option maxHeartbeats 4000000 in
theorem L_X9_digest_33_s (n : Nat) (x1 : Int64) (x3 : Int32) (μ : Mm) : L_X9_digest_33  (n + 1) x1 x3 μ = (if 3 ≤ x3 then (F_X9_lives μ).bind (fun q3 => L_X9_digest_63 FUEL x1 0 q3) else (F_X9_readsText x3 μ).bind (fun q27 => L_X9_digest_33 n ((31 * x1) + q27.1.toInt64) (x3 + 1) q27.2)) := rfl
set_option maxRecDepth 100000 in
set_option maxHeartbeats 4000000 in
theorem B_X9_digest_33 : ∀ (n : Nat) (x1 : Int64) (x3 : Int32) (μ : Mm) (q : (Int64 × Mm)), L_X9_digest_33  n x1 x3 μ = some q → G wM RX9 cX9_digest 5 (some .long) 9 (some (.long q.1)) q.2 33 [(0, .ref 0), (1, .long x1), (3, .int x3)] [] μ := by
  intro n
  induction n with
  | zero =>
    intro x1 x3 μ q  h
    cases h
  | succ n ih =>
    intro x1 x3 μ q  h
    rw [L_X9_digest_33_s] at h
    refine G_iload_n (pc := 33) 2 dX9_digest_33 rfl ?_
    refine G_iconst (pc := 34) (3) dX9_digest_34 ci_3 ?_
    refine G_icmp_ge (pc := 35) 57 dX9_digest_35 (by decide) (fun c2 => ?_) (fun c2 => ?_)
    · replace h := itp c2 h
      refine G_aload_n (pc := 57) 0 dX9_digest_57 rfl ?_
      obtain ⟨q3, e3, h⟩ := bnd_some h
      refine G_callV0v (pc := 58) 0 8 dX9_digest_58 wv_X9_217 cd_X9_lives (S_X9_lives _ _ e3) (by decide) (by decide) rfl (by decide) (fun _ _ => ⟨_, rfl⟩) (Nat.le_of_ble_eq_true rfl) ?_
      refine G_iconst (pc := 61) (0) dX9_digest_61 ci_0 ?_
      refine G_istore_n (pc := 62) [(3, .int _), (0, .ref _), (1, .long _)] dX9_digest_62 (Nat.le_of_ble_eq_true rfl) rfl ?_
      refine G_loc [1, 2, 0] [(0, .ref _), (1, .long _), (3, .int _)] rfl ?_
      exact B_X9_digest_63 _ _ _ _ _ h
    · replace h := itn c2 h
      refine G_ldc2 (pc := 38) (31) dX9_digest_38 kl_X9_319 ?_
      refine G_lload_n (pc := 41) 1 dX9_digest_41 rfl ?_
      refine G_lmul (pc := 42) dX9_digest_42 ?_
      refine G_aload_n (pc := 43) 0 dX9_digest_43 rfl ?_
      refine G_iload_n (pc := 44) 2 dX9_digest_44 rfl ?_
      obtain ⟨q27, e27, h⟩ := bnd_some h
      refine G_callV1r (pc := 45) 0 8 dX9_digest_45 wv_X9_153 cd_X9_readsText (S_X9_readsText _ _ _ e27) (by decide) (by decide) rfl (by decide) (fun _ _ => ⟨_, rfl⟩) (Nat.le_of_ble_eq_true rfl) ?_
      refine G_i2l (pc := 48) dX9_digest_48 ?_
      refine G_ladd (pc := 49) dX9_digest_49 ?_
      refine G_lstore_n (pc := 50) [(1, .long _), (0, .ref _), (3, .int _)] dX9_digest_50 (Nat.le_of_ble_eq_true rfl) rfl ?_
      refine G_iinc (pc := 51) (1) 2 [(3, .int _), (1, .long _), (0, .ref _)] dX9_digest_51 ci_1 rfl (Nat.le_of_ble_eq_true rfl) rfl ?_
      refine G_goto (pc := 54) 33 dX9_digest_54 (by decide) ?_
      refine G_loc [2, 1, 0] [(0, .ref _), (1, .long _), (3, .int _)] rfl ?_
      exact ih _ _ _ _ h
def L_X9_digest_6 : Nat → Int64 → Int32 → Mm → Option (Int64 × Mm)
  | 0, _, _, _ => none
  | n + 1, x1, x3, μ => if 8 ≤ x3 then L_X9_digest_33 FUEL x1 0 μ else (F_X9_count x3 μ).bind (fun q28 => L_X9_digest_6 n ((31 * x1) + q28.1.toInt64) (x3 + 1) q28.2)
set_option maxRecDepth 100000 in
set_option maxHeartbeats 4000000 in
theorem L_X9_digest_6_s (n : Nat) (x1 : Int64) (x3 : Int32) (μ : Mm) : L_X9_digest_6  (n + 1) x1 x3 μ = (if 8 ≤ x3 then L_X9_digest_33 FUEL x1 0 μ else (F_X9_count x3 μ).bind (fun q28 => L_X9_digest_6 n ((31 * x1) + q28.1.toInt64) (x3 + 1) q28.2)) := rfl
set_option maxRecDepth 100000 in
set_option maxHeartbeats 4000000 in
theorem B_X9_digest_6 : ∀ (n : Nat) (x1 : Int64) (x3 : Int32) (μ : Mm) (q : (Int64 × Mm)), L_X9_digest_6  n x1 x3 μ = some q → G wM RX9 cX9_digest 5 (some .long) 9 (some (.long q.1)) q.2 6 [(0, .ref 0), (1, .long x1), (3, .int x3)] [] μ := by
  intro n
  induction n with
  | zero =>
    intro x1 x3 μ q  h
    cases h
  | succ n ih =>
    intro x1 x3 μ q  h
    rw [L_X9_digest_6_s] at h
    refine G_iload_n (pc := 6) 2 dX9_digest_6 rfl ?_
    refine G_bipush (pc := 7) (8) dX9_digest_7 bp_8 ?_
    refine G_icmp_ge (pc := 9) 31 dX9_digest_9 (by decide) (fun c1 => ?_) (fun c1 => ?_)
    · replace h := itp c1 h
      refine G_iconst (pc := 31) (0) dX9_digest_31 ci_0 ?_
      refine G_istore_n (pc := 32) [(3, .int _), (0, .ref _), (1, .long _)] dX9_digest_32 (Nat.le_of_ble_eq_true rfl) rfl ?_
      refine G_loc [1, 2, 0] [(0, .ref _), (1, .long _), (3, .int _)] rfl ?_
      exact B_X9_digest_33 _ _ _ _ _ h
    · replace h := itn c1 h
      refine G_ldc2 (pc := 12) (31) dX9_digest_12 kl_X9_319 ?_
      refine G_lload_n (pc := 15) 1 dX9_digest_15 rfl ?_
      refine G_lmul (pc := 16) dX9_digest_16 ?_
      refine G_aload_n (pc := 17) 0 dX9_digest_17 rfl ?_
      refine G_iload_n (pc := 18) 2 dX9_digest_18 rfl ?_
      obtain ⟨q28, e28, h⟩ := bnd_some h
      refine G_callV1r (pc := 19) 0 8 dX9_digest_19 wv_X9_327 cd_X9_count (S_X9_count _ _ _ e28) (by decide) (by decide) rfl (by decide) (fun _ _ => ⟨_, rfl⟩) (Nat.le_of_ble_eq_true rfl) ?_
      refine G_i2l (pc := 22) dX9_digest_22 ?_
      refine G_ladd (pc := 23) dX9_digest_23 ?_
      refine G_lstore_n (pc := 24) [(1, .long _), (0, .ref _), (3, .int _)] dX9_digest_24 (Nat.le_of_ble_eq_true rfl) rfl ?_
      refine G_iinc (pc := 25) (1) 2 [(3, .int _), (1, .long _), (0, .ref _)] dX9_digest_25 ci_1 rfl (Nat.le_of_ble_eq_true rfl) rfl ?_
      refine G_goto (pc := 28) 6 dX9_digest_28 (by decide) ?_
      refine G_loc [2, 1, 0] [(0, .ref _), (1, .long _), (3, .int _)] rfl ?_
      exact ih _ _ _ _ h
def F_X9_digest  (μ : Mm) : Option (Int64 × Mm) := L_X9_digest_6 FUEL 17 0 μ
set_option maxRecDepth 100000 in
set_option maxHeartbeats 4000000 in
theorem S_X9_digest   (μ : Mm) (q : (Int64 × Mm)) (h : F_X9_digest  μ = some q) : Cn wM yX9_digest cX9_digest 5 (some .long) 9 [.ref 0] μ (some (.long q.1)) q.2 := by
  refine Cn_of (by decide +kernel) (Nat.le_of_ble_eq_true rfl) ?_
  show G wM RX9 cX9_digest 5 (some .long) 9 (some (.long q.1)) q.2 0 [(0, .ref 0)] [] μ
  unfold F_X9_digest at h
  refine G_ldc2 (pc := 0) (17) dX9_digest_0 kl_X9_325 ?_
  refine G_lstore_n (pc := 3) [(1, .long _), (0, .ref _)] dX9_digest_3 (Nat.le_of_ble_eq_true rfl) rfl ?_
  refine G_iconst (pc := 4) (0) dX9_digest_4 ci_0 ?_
  refine G_istore_n (pc := 5) [(3, .int _), (1, .long _), (0, .ref _)] dX9_digest_5 (Nat.le_of_ble_eq_true rfl) rfl ?_
  refine G_loc [2, 1, 0] [(0, .ref _), (1, .long _), (3, .int _)] rfl ?_
  exact B_X9_digest_6 _ _ _ _ _ h
