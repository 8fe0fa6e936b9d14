/-! the digest -/
theorem DG_c {μ ν c s t : Mm} (d : DG μ ν c t) (f : FrA c s) : DG μ ν s t ∧ s.2 = c.2 := ⟨⟨fun k hk => (f.1 k hk).trans (d.1 k hk), d.2⟩, f.2⟩
theorem mixCh (x : Int64) (s : Mm) : F_X8_mixChoice x s = some ((31 * ((31 * x) + (s.1 34 0).toInt64)) + (s.1 34 1).toInt64, s) := rfl
section
variable {μ ν c t : Mm} {k : Nat}
theorem d_lives (h : Iv μ ν) (d : DG μ ν c t) : ∃ t', F_X9_lives t = some t' ∧ DG μ ν c t' ∧ LR (Td μ) t' := by
  obtain ⟨c1, e1, pc, fa⟩ := DG_P h d
  obtain ⟨t', e2, f, lr⟩ := RUN (TdV h) pc d.2.2
  exact ⟨t', e2, ⟨d.1, FrB_tr d.2.1 (FrL_B f), PM_frL f d.2.2⟩, lr⟩
theorem d_run12 (h : Iv μ ν) (d : DG μ ν c t) (lr : LR (Td μ) t) : ∃ s, F_X8_runAsTold 12 c = some s ∧ PC (Td μ) s ∧ RY (Td μ) 12 s t ∧ FrA c s := by
  obtain ⟨c1, e1, pc, fa⟩ := DG_P h d
  obtain ⟨s, e2, f, ry⟩ := (lr c1 pc).2
  exact ⟨s, by rw [rAt e1]; exact e2, PC_fr f pc, ry, FrA_tr fa (FrC_A f)⟩
theorem d_runW (h : Iv μ ν) (d : DG μ ν c t) (lr : LR (Td μ) t) {w : Nat} (hw : w < 12) : ∃ s, F_X8_runAsTold (nI (w + 1)) c = some s ∧ PC (Td μ) s ∧ YS (Td μ) w s t ∧ FrA c s := by
  obtain ⟨c1, e1, pc, fa⟩ := DG_P h d
  obtain ⟨s, e2, f, ys⟩ := (lr c1 pc).1 w hw
  exact ⟨s, by rw [rAt e1]; exact e2, PC_fr f pc, ys, FrA_tr fa (FrC_A f)⟩
theorem d_champ (h : Iv μ ν) (d : DG μ ν c t) (lr : LR (Td μ) t) : ∃ v c', F_X8_champion c = some (v, c') ∧ F_X9_championNow t = some (v, t) ∧ DG μ ν c' t ∧ c'.2 = c.2 := by
  obtain ⟨s, e3, pc, ry, fa⟩ := d_run12 h d lr
  obtain ⟨⟨v, c'⟩, ⟨v', t'⟩, e4, e5, g1, g2, g3⟩ := champ2 (TdV h) pc d.2.2 ry
  simp only at g1 g2 g3
  subst g1 g3
  refine ⟨v, c', ?_, e5, DG_c d (FrA_tr fa g2)⟩
  unfold F_X8_champion
  rw [e3, bindS]; exact e4
theorem d_best (h : Iv μ ν) (d : DG μ ν c t) (lr : LR (Td μ) t) : ∃ v c', F_X8_best c = some (v, c') ∧ F_X9_bestNow t = some (v, t) ∧ DG μ ν c' t ∧ c'.2 = c.2 := by
  obtain ⟨s, e3, pc, ry, fa⟩ := d_run12 h d lr
  obtain ⟨⟨v, c'⟩, ⟨v', t'⟩, e4, e5, g1, g2, g3, -⟩ := most2 (TdV h) d.2.2 ry
  simp only at g1 g2 g3
  subst g1 g2 g3
  refine ⟨v, c', ?_, e5, DG_c d fa⟩
  unfold F_X8_best
  rw [e3, bindS, pc.1, e4, bindS]
theorem d_left0 (h : Iv μ ν) (d : DG μ ν c t) (lr : LR (Td μ) t) : ∃ v c', F_X8_left 0 c = some (v, c') ∧ F_X9_leftBy 0 t = some (v, t) ∧ DG μ ν c' t ∧ c'.2 = c.2 := by
  obtain ⟨s, e3, pc, ry, fa⟩ := d_run12 h d lr
  refine ⟨s.1 28 5, s, ?_, left0 (TdV h) d.2.2.1 ry, DG_c d fa⟩
  unfold F_X8_left
  rw [show F_X8_isIn 0 2 c = some (1, c) from rfl, bindS]
  simp only [i10, if_false, e3, bindS, if_true]
theorem d_left1 (h : Iv μ ν) (d : DG μ ν c t) (lr : LR (Td μ) t) : ∃ v c', F_X8_left 1 c = some (v, c') ∧ F_X9_leftBy 1 t = some (v, t) ∧ DG μ ν c' t ∧ c'.2 = c.2 := by
  obtain ⟨s, e3, pc, ry, fa⟩ := d_run12 h d lr
  obtain ⟨⟨v, c'⟩, ⟨v', t'⟩, e4, e5, g1, g2, g3⟩ := left1 (TdV h) d.2.2.1 ry
  simp only at g1 g2 g3
  subst g1 g2 g3
  refine ⟨v, c', ?_, e5, DG_c d fa⟩
  unfold F_X8_left
  rw [show F_X8_isIn 1 2 c = some (1, c) from rfl, bindS]
  simp only [i10, if_false, e3, bindS]
  rw [pc.1, e4, bindS]
theorem d_owned (h : Iv μ ν) (d : DG μ ν c t) (lr : LR (Td μ) t) {o : Nat} (ho : o < 6) : ∃ v c', F_X8_owned (nI o) c = some (v, c') ∧ F_X9_ownedBy (nI o) t = some (v, t) ∧ DG μ ν c' t ∧ c'.2 = c.2 := by
  obtain ⟨s, e3, pc, ry, fa⟩ := d_run12 h d lr
  obtain ⟨⟨v, c'⟩, ⟨v', t'⟩, e4, e5, g1, g2, g3, -⟩ := own2 (TdV h) (Nat.le_refl _) pc d.2.2 ry (nI o)
  simp only at g1 g2 g3
  subst g1 g2 g3
  refine ⟨v, c', ?_, e5, DG_c d fa⟩
  unfold F_X8_owned
  rw [show F_X8_isIn (nI o) 6 c = some (1, c) from inT (n := 6) ho (by omega) c, bindS]
  simp only [i10, if_false, e3, bindS, e4]
theorem d_jpart (h : Iv μ ν) (d : DG μ ν c t) (hk : k < (Td μ).1 1) : (F_X3_part_3 (nI k) (nI 0) c = some ((Td μ).2 3 k, c) ∧ t.1 8 (3 * k + 0) = (Td μ).2 3 k) ∧ (F_X3_part_3 (nI k) (nI 1) c = some ((Td μ).2 4 k, c) ∧ t.1 8 (3 * k + 1) = (Td μ).2 4 k) ∧ (F_X3_part_3 (nI k) (nI 2) c = some ((Td μ).2 5 k, c) ∧ t.1 8 (3 * k + 2) = (Td μ).2 5 k) := by
  have hI := DG_I h d
  obtain ⟨-, ⟨n, a⟩, -⟩ := hI
  have ec := DG_T d
  have l := a.1
  have z := d.2.2.2.2.2.2.2.1 k hk
  rw [← ec] at z hk ⊢
  have t0 := fun q (hq : q < 3) => (Td1 a).2.2 k q hk hq
  have u0 := t0 0 (by omega)
  have u1 := t0 1 (by omega)
  have u2 := t0 2 (by omega)
  rw [Tr3, Tr4, Tr5] at z ⊢
  exact ⟨⟨part3 (q := 0) (by omega) (show 4 * k + 0 < 15 by omega) u0.2.2, z.1⟩, ⟨part3 (q := 1) (by omega) (show 4 * k + 1 < 15 by omega) u1.2.2, z.2.1⟩, ⟨part3 (q := 2) (by omega) (show 4 * k + 2 < 15 by omega) u2.2.2, z.2.2⟩⟩
theorem d_tpart (h : Iv μ ν) (d : DG μ ν c t) (hk : k < (Td μ).1 0) : (F_X3_part_1 (nI k) (nI 0) c = some ((Td μ).2 0 k, c) ∧ t.1 7 (3 * k + 0) = (Td μ).2 0 k) ∧ (F_X3_part_1 (nI k) (nI 1) c = some ((Td μ).2 1 k, c) ∧ t.1 7 (3 * k + 1) = (Td μ).2 1 k) ∧ (F_X3_part_1 (nI k) (nI 2) c = some ((Td μ).2 2 k, c) ∧ t.1 7 (3 * k + 2) = (Td μ).2 2 k) := by
  have hI := DG_I h d
  obtain ⟨⟨n, a⟩, -⟩ := hI
  have ec := DG_T d
  have l := a.1
  have z := d.2.2.2.2.2.2.1 k hk
  rw [← ec] at z hk ⊢
  have t0 := fun q (hq : q < 3) => (Td0 a).2.2 k q hk hq
  have u0 := t0 0 (by omega)
  have u1 := t0 1 (by omega)
  have u2 := t0 2 (by omega)
  rw [Tr0, Tr1, Tr2] at z ⊢
  exact ⟨⟨part1 (q := 0) (by omega) (show 4 * k + 0 < 39 by omega) u0.2.2, z.1⟩, ⟨part1 (q := 1) (by omega) (show 4 * k + 1 < 39 by omega) u1.2.2, z.2.1⟩, ⟨part1 (q := 2) (by omega) (show 4 * k + 2 < 39 by omega) u2.2.2, z.2.2⟩⟩
/-- the end of it -/
theorem dg_fin (h : Iv μ ν) (d : DG μ ν c t) (x : Int64) : E2 ((F_X8_champion c).bind (fun q9 => (F_X8_mix x q9.1.toInt64 q9.2).bind (fun q10 => (F_X8_best q10.2).bind (fun q11 => (F_X8_mix q10.1 q11.1.toInt64 q11.2).bind (fun q12 => (F_X8_left 0 q12.2).bind (fun q13 => (F_X8_mix q12.1 q13.1.toInt64 q13.2).bind (fun q14 => (F_X8_left 1 q14.2).bind (fun q15 => (F_X8_mix q14.1 q15.1.toInt64 q15.2).bind (fun q16 => (F_X8_spare (-1) q16.2).bind (fun q17 => (F_X8_mix q16.1 q17.1.toInt64 q17.2).bind (fun q18 => (F_X8_spare 0 q18.2).bind (fun q19 => (F_X8_mix q18.1 q19.1.toInt64 q19.2).bind (fun q20 => (F_X8_never q20.2).bind (fun q21 => (F_X8_mix q20.1 q21.1.toInt64 q21.2).bind (fun q22 => (F_X8_years 7 9 0 q22.2).bind (fun q23 => (F_X8_mix q22.1 q23.1.toInt64 q23.2).bind (fun q24 => (F_X8_years 7 9 1 q24.2).bind (fun q25 => (F_X8_mix q24.1 q25.1.toInt64 q25.2).bind (fun q26 => some (q26.1, q26.2)))))))))))))))))))) ((F_X9_lives t).bind (fun q8 => (F_X9_championNow q8).bind (fun q9 => (F_X9_bestNow q9.2).bind (fun q10 => (F_X9_leftBy 0 q10.2).bind (fun q11 => (F_X9_leftBy 1 q11.2).bind (fun q12 => (F_X9_spareBy (-1) q12.2).bind (fun q13 => (F_X9_spareBy 0 q13.2).bind (fun q14 => (F_X9_neverNow q14.2).bind (fun q15 => (F_X9_yearsOf 7 9 0 q15.2).bind (fun q16 => (F_X9_yearsOf 7 9 1 q16.2).bind (fun q17 => some (((31 * ((31 * ((31 * ((31 * ((31 * ((31 * ((31 * ((31 * ((31 * x) + q9.1.toInt64)) + q10.1.toInt64)) + q11.1.toInt64)) + q12.1.toInt64)) + q13.1.toInt64)) + q14.1.toInt64)) + q15.1.toInt64)) + q16.1.toInt64)) + q17.1.toInt64), q17.2)))))))))))) (fun q r => q.1 = r.1 ∧ Iv q.2 r.2) := by
  obtain ⟨t0, a0, d0, lr⟩ := d_lives h d
  obtain ⟨v1, c1, a1, b1, d1, -⟩ := d_champ h d0 lr
  obtain ⟨v2, c2, a2, b2, d2, -⟩ := d_best h d1 lr
  obtain ⟨v3, c3, a3, b3, d3, -⟩ := d_left0 h d2 lr
  obtain ⟨v4, c4, a4, b4, d4, -⟩ := d_left1 h d3 lr
  obtain ⟨⟨v5, c5⟩, ⟨w5, t5⟩, a5, b5, g5, d5, -⟩ := d_spare h d4 (i := -1) (Or.inl rfl) (by decide) (by decide)
  obtain ⟨⟨v6, c6⟩, ⟨w6, t6⟩, a6, b6, g6, d6, -⟩ := d_spare h d5 (i := 0) (Or.inr (Or.inl rfl)) (by decide) (by decide)
  obtain ⟨⟨v7, c7⟩, ⟨w7, t7⟩, a7, b7, g7, d7, -⟩ := d_never h d6
  obtain ⟨⟨v8, c8⟩, ⟨w8, t8⟩, a8, b8, g8, d8, -⟩ := d_years h d7 (n := 9) (q := 0) (by omega) (by omega) 7
  obtain ⟨⟨v9, c9⟩, ⟨w9, t9⟩, a9, b9, g9, d9, -⟩ := d_years h d8 (n := 9) (q := 1) (by omega) (by omega) 7
  simp only at g5 g6 g7 g8 g9 a5 a6 a7 a8 a9 b5 b6 b7 b8 b9 d5 d6 d7 d8 d9
  subst g5 g6 g7 g8 g9
  have a8 : F_X8_years 7 9 0 c7 = some (v8, c8) := a8
  have a9 : F_X8_years 7 9 1 c8 = some (v9, c9) := a9
  have b8 : F_X9_yearsOf 7 9 0 t7 = some (v8, t8) := b8
  have b9 : F_X9_yearsOf 7 9 1 t8 = some (v9, t9) := b9
  simp only [a0, a1, a2, a3, a4, a5, a6, a7, a8, a9, b1, b2, b3, b4, b5, b6, b7, b8, b9, bindS, F_X8_mix]
  exact E2_some ⟨rfl, DG_I h d9⟩
/-- whose, and who had better judge -/
theorem dg_own (h : Iv μ ν) (d : DG μ ν c t) (x : Int64) : ∃ y c' t' m, F_X8_digestOwners x c = some (y, c') ∧ L_X9_digest_225 FUEL x 0 t = L_X9_digest_225 (m + 1) y (nI 6) t' ∧ DG μ ν c' t' := by
  unfold F_X8_digestOwners
  refine For2 (fun m i (s : Int64 × Mm) => L_X8_digestOwners_5 m s.1 (nI i) s.2) (fun m i (s : Int64 × Mm) => L_X9_digest_225 m s.1 (nI i) s.2) 6 FUEL FUEL (fun i s t => s.1 = t.1 ∧ DG μ ν s.2 t.2)
    (fun f g => ∃ y c' t' m, f = some (y, c') ∧ g = L_X9_digest_225 (m + 1) y (nI 6) t' ∧ DG μ ν c' t') ?_ ?_ 0 (x, c) (x, t) FUEL FUEL ⟨rfl, d⟩ (by omega) rfl rfl (by decide) (by decide)
  · rintro m m' ⟨x, c⟩ ⟨y, t⟩ _ _ ⟨g1, g2⟩
    simp only at g1 g2
    subst g1
    refine ⟨x, c, t, m', ?_, rfl, g2⟩
    simp (config := { implicitDefEqProofs := false }) (disch := omega) only [L_X8_digestOwners_5_s, n_lel, if_pos]
  · rintro m m' i ⟨x, c⟩ ⟨y, t⟩ _ _ hi ⟨g1, g2⟩ ih
    simp only at g1 g2
    subst g1
    obtain ⟨t0, a0, d0, lr⟩ := d_lives h g2
    obtain ⟨v1, c1, a1, b1, d1, -⟩ := d_owned h d0 lr hi
    obtain ⟨c2, ⟨w2, t2⟩, a2, b2, h2, d2, -⟩ := d_send h d1 (k := 6) (by omega) (nI i) 0
    obtain ⟨c3, ⟨w3, t3⟩, a3, b3, h3, d3, -⟩ := d_send h ⟨d1.1, d2.2⟩ (k := 6) (by omega) (nI i) 1
    have e : c3 = c2 := Option.some.inj (a3.symm.trans a2)
    subst e
    simp only at b2 b3 h2 h3 d2 d3
    rw [if_pos trivial] at h2
    rw [if_neg (by decide)] at h3
    subst h2 h3
    have a2 : F_X8_chooseJudge 6 (nI i) c1 = some c3 := a2
    have b2 : F_X9_sendOf 6 (nI i) 0 t0 = some (c3.1 34 0, t2) := b2
    have b3 : F_X9_sendOf 6 (nI i) 1 t2 = some (c3.1 34 1, t3) := b3
    simp (config := { implicitDefEqProofs := false }) (disch := omega) only [L_X8_digestOwners_5_s, L_X9_digest_225_s, F_X9_tellsOwner, n_lel, if_neg, a0, a1, b1, bindS, F_X8_mix, a2, b2, b3, mixCh, n_ar]
    exact ih (_, c3) (_, t3) ⟨rfl, d3⟩
/-- judges -/
theorem j20 {K : Int64 → Int32 → Mm → Option (Int64 × Mm)} (h : Iv μ ν) (d : DG μ ν c t) (hk : k < (Td μ).1 1) (x : Int64) : L_X8_digestJudges_20 K FUEL x (nI k) 0 c = (F_X8_tastes (nI k) c).bind (fun q4 => K ((31 * (31 * (31 * (31 * x + ((Td μ).2 3 k).toInt64) + ((Td μ).2 4 k).toInt64) + ((Td μ).2 5 k).toInt64)) + q4.1.toInt64) (nI (k + 1)) q4.2) := by
  have p0 := (d_jpart h d hk).1.1
  have p1 := (d_jpart h d hk).2.1.1
  have p2 := (d_jpart h d hk).2.2.1
  show L_X8_digestJudges_20 K (996 + 1 + 1 + 1 + 1) x (nI k) (nI 0) c = _
  have s0 : nI 0 + 1 = nI 1 := rfl
  have s1 : nI 1 + 1 = nI 2 := rfl
  have s2 : nI 2 + 1 = nI 3 := rfl
  rw [L_X8_digestJudges_20_s, if_neg (by decide), p0, bindS, F_X8_mix, bindS, s0]
  rw [L_X8_digestJudges_20_s, if_neg (by decide), p1, bindS, F_X8_mix, bindS, s1]
  rw [L_X8_digestJudges_20_s, if_neg (by decide), p2, bindS, F_X8_mix, bindS, s2]
  rw [L_X8_digestJudges_20_s, if_pos (by decide)]
  simp only [F_X8_mix, bindS, n_ar]
theorem m173 {K : Int64 → Int32 → Mm → Option (Int64 × Mm)} (h : Iv μ ν) (d : DG μ ν c t) (hk : k < (Td μ).1 1) (x : Int64) : L_X9_digest_173 K FUEL x (nI k) 0 t = (F_X9_tastesOf (nI k) t).bind (fun q4 => K ((31 * (31 * (31 * (31 * x + ((Td μ).2 3 k).toInt64) + ((Td μ).2 4 k).toInt64) + ((Td μ).2 5 k).toInt64)) + q4.1.toInt64) (nI (k + 1)) q4.2) := by
  have q1 := (TdV h).2.1
  have p0 := (d_jpart h d hk).1.2
  have p1 := (d_jpart h d hk).2.1.2
  have p2 := (d_jpart h d hk).2.2.2
  show L_X9_digest_173 K (996 + 1 + 1 + 1 + 1) x (nI k) (nI 0) t = _
  have s0 : nI 0 + 1 = nI 1 := rfl
  have s1 : nI 1 + 1 = nI 2 := rfl
  have s2 : nI 2 + 1 = nI 3 := rfl
  rw [L_X9_digest_173_s, if_neg (by decide), n_ml, n_aa, gi_in (by omega) (by omega), n_c (by omega), p0, s0]
  rw [L_X9_digest_173_s, if_neg (by decide), n_ml, n_aa, gi_in (by omega) (by omega), n_c (by omega), p1, s1]
  rw [L_X9_digest_173_s, if_neg (by decide), n_ml, n_aa, gi_in (by omega) (by omega), n_c (by omega), p2, s2]
  rw [L_X9_digest_173_s, if_pos (by decide)]
  simp only [n_ar]
theorem dg_jud (h : Iv μ ν) (d : DG μ ν c t) (x : Int64) : ∃ y c' t', F_X8_digestJudges x c = some (y, c') ∧ L_X9_digest_162 FUEL x 0 t = L_X9_digest_225 FUEL y 0 t' ∧ DG μ ν c' t' := by
  have q1 := (TdV h).2.1
  unfold F_X8_digestJudges
  refine For2 (fun m i (s : Int64 × Mm) => L_X8_digestJudges_5 m s.1 (nI i) s.2) (fun m i (s : Int64 × Mm) => L_X9_digest_162 m s.1 (nI i) s.2) ((Td μ).1 1) FUEL FUEL (fun i s t => s.1 = t.1 ∧ DG μ ν s.2 t.2)
    (fun f g => ∃ y c' t', f = some (y, c') ∧ g = L_X9_digest_225 FUEL y 0 t' ∧ DG μ ν c' t') ?_ ?_ 0 (x, c) (x, t) FUEL FUEL ⟨rfl, d⟩ (by omega) rfl rfl (by rw [FUELe]; omega) (by rw [FUELe]; omega)
  · rintro m m' ⟨x, c⟩ ⟨y, t⟩ _ _ ⟨g1, g2⟩
    simp only at g1 g2
    subst g1
    simp (config := { implicitDefEqProofs := false }) (disch := omega) only [L_X8_digestJudges_5_s, L_X9_digest_162_s, DG_s3 h g2, g2.2.2.2.1, bindS, n_le, Nat.le_refl, if_true]
    exact ⟨x, c, t, rfl, rfl, g2⟩
  · rintro m m' i ⟨x, c⟩ ⟨y, t⟩ _ _ hi ⟨g1, g2⟩ ih
    simp only at g1 g2
    subst g1
    simp (config := { implicitDefEqProofs := false }) (disch := omega) only [L_X8_digestJudges_5_s, L_X9_digest_162_s, DG_s3 h g2, g2.2.2.2.1, bindS, n_le, if_neg]
    rw [j20 h g2 hi, m173 h g2 hi]
    obtain ⟨⟨v, c'⟩, ⟨w, t'⟩, a1, b1, g3, d1, -⟩ := d_tastes h g2 hi
    simp only at g3 d1
    subst g3
    rw [a1, b1, bindS, bindS]
    exact ih (_, c') (_, t') ⟨rfl, d1⟩
end
