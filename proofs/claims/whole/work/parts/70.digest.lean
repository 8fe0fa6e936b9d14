/-! the digest: things -/
def WT (μ ν : Mm) (L : Nat → Nat → Int64) : Prop := ∀ k, k < 10 → ∀ what c t, DG μ ν c t → ∃ v t', F_X9_chanceOf 5 (nI k) what t = some (v, t') ∧ DG μ ν c t' ∧ ∀ z : Mm, z.1 7 1 = μ.1 7 1 → F_X8_partOfFraction (L 35 k) what z = some (v, z)
section
variable {μ ν c t : Mm} {k : Nat}
theorem d_wt (h : Iv μ ν) (d : DG μ ν c t) : ∃ s, F_X8_weighBests 5 c = some s ∧ DG μ ν s t ∧ WT μ ν s.2 := by
  obtain ⟨s, ⟨v0, t0⟩, e0, b0, g0, d0⟩ := d_weigh h d (w := 5) (k := 0) (by omega) (by omega) 0
  refine ⟨s, e0, ⟨d0.1, d.2⟩, ?_⟩
  intro k hk what c' t' d'
  obtain ⟨s1, ⟨v, t1⟩, e1, b1, g1, d1⟩ := d_weigh h (⟨d.1, d'.2⟩ : DG μ ν c t') (w := 5) (k := k) (by omega) hk what
  have e : s1 = s := Option.some.inj (e1.symm.trans e0)
  subst e
  exact ⟨v, t1, b1, ⟨d'.1, d1.2⟩, g1⟩
theorem t74 {s : Mm} {w : Nat} {P : Pl} (hV : PV P) (hw : w < 12) (hk : k < P.1 0) (ys : YS P w s t) (x : Int64) : ∃ y, (∀ K x7 x8, L_X8_digestThing_74 K FUEL (nI k) x x7 x8 0 s = K (nI k) y x7 (x8 + 1) s) ∧ F_X9_tellsWeek x (nI w) (nI k) t = some (y, t) := by
  obtain ⟨v0, a0, b0⟩ := tell2 (q := 0) hw hk hV (by omega) ys
  obtain ⟨v1, a1, b1⟩ := tell2 (q := 1) hw hk hV (by omega) ys
  obtain ⟨v2, a2, b2⟩ := tell2 (q := 2) hw hk hV (by omega) ys
  obtain ⟨v3, a3, b3⟩ := tell2 (q := 3) hw hk hV (by omega) ys
  obtain ⟨v4, a4, b4⟩ := tell2 (q := 4) hw hk hV (by omega) ys
  have s0 : nI 0 + 1 = nI 1 := rfl
  have s1 : nI 1 + 1 = nI 2 := rfl
  have s2 : nI 2 + 1 = nI 3 := rfl
  have s3 : nI 3 + 1 = nI 4 := rfl
  have s4 : nI 4 + 1 = nI 5 := rfl
  refine ⟨31 * (31 * (31 * (31 * (31 * x + v0.toInt64) + v1.toInt64) + v2.toInt64) + v3.toInt64) + v4.toInt64, ?_, ?_⟩
  · intro K x7 x8
    show L_X8_digestThing_74 K (994 + 1 + 1 + 1 + 1 + 1 + 1) (nI k) x x7 x8 (nI 0) s = _
    rw [L_X8_digestThing_74_s, if_neg (by decide), a0, bindS, F_X8_mix, bindS, s0]
    rw [L_X8_digestThing_74_s, if_neg (by decide), a1, bindS, F_X8_mix, bindS, s1]
    rw [L_X8_digestThing_74_s, if_neg (by decide), a2, bindS, F_X8_mix, bindS, s2]
    rw [L_X8_digestThing_74_s, if_neg (by decide), a3, bindS, F_X8_mix, bindS, s3]
    rw [L_X8_digestThing_74_s, if_neg (by decide), a4, bindS, F_X8_mix, bindS, s4]
    rw [L_X8_digestThing_74_s, if_pos (by decide)]
  · show L_X9_tellsWeek_6 (994 + 1 + 1 + 1 + 1 + 1 + 1) (nI w) (nI k) x (nI 0) t = _
    rw [L_X9_tellsWeek_6_s, if_neg (by decide), b0, bindS, s0]
    rw [L_X9_tellsWeek_6_s, if_neg (by decide), b1, bindS, s1]
    rw [L_X9_tellsWeek_6_s, if_neg (by decide), b2, bindS, s2]
    rw [L_X9_tellsWeek_6_s, if_neg (by decide), b3, bindS, s3]
    rw [L_X9_tellsWeek_6_s, if_neg (by decide), b4, bindS, s4]
    rw [L_X9_tellsWeek_6_s, if_pos (by decide)]
theorem tstep (h : Iv μ ν) (d : DG μ ν c t) (lr : LR (Td μ) t) (hk : k < (Td μ).1 0) {j w : Nat} (hj : j < 4) (hw : w < 12) (ew : dW j = nI w) (x : Int64) : ∃ y c', (∀ n, L_X8_digestThing_49 (n + 1) (nI k) x 4 (nI j) c = L_X8_digestThing_49 n (nI k) y 4 (nI (j + 1)) c') ∧ F_X9_tellsWeek x (nI w) (nI k) t = some (y, t) ∧ DG μ ν c' t ∧ c'.2 = c.2 := by
  obtain ⟨s, e, pc, ys, fa⟩ := d_runW h d lr hw
  obtain ⟨y, a, b⟩ := t74 (TdV h) hw hk ys x
  refine ⟨y, s, ?_, b, DG_c d fa⟩
  intro n
  rw [L_X8_digestThing_49_s, if_neg (by rw [n_lel (by omega) (by omega)]; omega), gi_in hj (by omega), n_c (by omega), ew, n_ar, e, bindS, a, n_ar]
theorem dg_thing (h : Iv μ ν) (d : DG μ ν c t) (hk : k < (Td μ).1 0) (wt : WT μ ν c.2) (x : Int64) : ∃ y c' t', F_X8_digestThing x (nI k) c = some (y, c') ∧ F_X9_tellsThing x (nI k) t = some (y, t') ∧ DG μ ν c' t' ∧ c'.2 = c.2 := by
  have q1 := (TdV h).1
  have hk10 : k < 10 := by omega
  obtain ⟨t0, a0, d0, lr⟩ := d_lives h d
  obtain ⟨⟨p0, r0⟩, ⟨p1, r1⟩, ⟨p2, r2⟩⟩ := d_tpart h d0 hk
  obtain ⟨y0, c0, A0, B0, D0, L0⟩ := tstep h d0 lr hk (j := 0) (w := 0) (by omega) (by omega) rfl (31 * (31 * (31 * x + ((Td μ).2 0 k).toInt64) + ((Td μ).2 1 k).toInt64) + ((Td μ).2 2 k).toInt64)
  obtain ⟨y1, c1, A1, B1, D1, L1⟩ := tstep h D0 lr hk (j := 1) (w := 4) (by omega) (by omega) rfl y0
  obtain ⟨y2, c2, A2, B2, D2, L2⟩ := tstep h D1 lr hk (j := 2) (w := 8) (by omega) (by omega) rfl y1
  obtain ⟨y3, c3, A3, B3, D3, L3⟩ := tstep h D2 lr hk (j := 3) (w := 11) (by omega) (by omega) rfl y2
  obtain ⟨c4, ⟨w4, t4⟩, a4, b4, h4, d4, l4⟩ := d_brush h D3 hk 0
  obtain ⟨c5, ⟨w5, t5⟩, a5, b5, h5, d5, l5⟩ := d_brush h (⟨D3.1, d4.2⟩ : DG μ ν c3 t4) hk 1
  have e5 : c5 = c4 := Option.some.inj (a5.symm.trans a4)
  subst e5
  obtain ⟨c6, ⟨w6, t6⟩, a6, b6, h6, d6, l6⟩ := d_rival h d5 hk 0
  obtain ⟨c7, ⟨w7, t7⟩, a7, b7, h7, d7, l7⟩ := d_rival h (⟨d5.1, d6.2⟩ : DG μ ν c5 t6) hk 1
  have e7 : c7 = c6 := Option.some.inj (a7.symm.trans a6)
  subst e7
  obtain ⟨⟨v8, c8⟩, ⟨w8, t8⟩, a8, b8, h8, d8, l8⟩ := d_looked h d7 hk
  obtain ⟨⟨v9, c9⟩, ⟨w9, t9⟩, a9, b9, h9, d9, l9⟩ := d_ask h d8 hk
  simp only at b4 b5 b6 b7 h8 h9 d9 l8 l9
  have h4 : w4 = c5.1 34 0 := h4
  have h5 : w5 = c5.1 34 1 := h5
  have h6 : w6 = c7.1 34 0 := h6
  have h7 : w7 = c7.1 34 1 := h7
  subst h4 h5 h6 h7 h8 h9
  obtain ⟨v10, t10, b10, d10, g10⟩ := wt k hk10 0 c9 t9 d9
  obtain ⟨v11, t11, b11, d11, g11⟩ := wt k hk10 1 c9 t10 d10
  have ll : c9.2 = c.2 := l9.trans (l8.trans (l7.trans (l5.trans (L3.trans (L2.trans (L1.trans L0))))))
  have f10 : F_X8_partOfFraction (c9.2 35 k) 0 c9 = some (v10, c9) := by rw [ll]; exact g10 c9 (by rw [d9.1 7 (by omega)])
  have f11 : F_X8_partOfFraction (c9.2 35 k) 1 c9 = some (v11, c9) := by rw [ll]; exact g11 c9 (by rw [d9.1 7 (by omega)])
  have s0 : nI 0 + 1 = nI 1 := rfl
  have s1 : nI 1 + 1 = nI 2 := rfl
  have s2 : nI 2 + 1 = nI 3 := rfl
  refine ⟨31 * (31 * (31 * (31 * (31 * (31 * (31 * (31 * y3 + (c5.1 34 0).toInt64) + (c5.1 34 1).toInt64) + (c7.1 34 0).toInt64) + (c7.1 34 1).toInt64) + v8.toInt64) + v9.toInt64) + v10) + v11, c9, t11, ?_, ?_, d11, ll⟩
  · show L_X8_digestThing_6 (996 + 1 + 1 + 1 + 1) (nI k) x (nI 0) c = _
    rw [L_X8_digestThing_6_s, if_neg (by decide), p0, bindS, F_X8_mix, bindS, s0]
    rw [L_X8_digestThing_6_s, if_neg (by decide), p1, bindS, F_X8_mix, bindS, s1]
    rw [L_X8_digestThing_6_s, if_neg (by decide), p2, bindS, F_X8_mix, bindS, s2]
    rw [L_X8_digestThing_6_s, if_pos (by decide)]
    refine (A0 999).trans ((A1 998).trans ((A2 997).trans ((A3 996).trans ?_)))
    show L_X8_digestThing_49 (995 + 1) (nI k) y3 4 (nI 4) c3 = _
    rw [L_X8_digestThing_49_s, if_pos (by decide), a4, bindS, mixCh, bindS, a6, bindS, mixCh, bindS, a8, bindS, F_X8_mix, bindS, a9, bindS, F_X8_mix, bindS, gi_in hk10 (by omega), n_c (by omega), f10, bindS, F_X8_mix, bindS, gi_in hk10 (by omega), f11, bindS, F_X8_mix, bindS]
  · have B0 : F_X9_tellsWeek (31 * (31 * (31 * x + ((Td μ).2 0 k).toInt64) + ((Td μ).2 1 k).toInt64) + ((Td μ).2 2 k).toInt64) 0 (nI k) t0 = some (y0, t0) := B0
    have B1 : F_X9_tellsWeek y0 4 (nI k) t0 = some (y1, t0) := B1
    have B2 : F_X9_tellsWeek y1 8 (nI k) t0 = some (y2, t0) := B2
    have B3 : F_X9_tellsWeek y2 11 (nI k) t0 = some (y3, t0) := B3
    unfold F_X9_tellsThing
    rw [a0, bindS]
    show L_X9_tellsThing_10 (996 + 1 + 1 + 1 + 1) (nI k) x (nI 0) t0 = _
    rw [L_X9_tellsThing_10_s, if_neg (by decide), n_ml, n_aa, gi_in (by omega) (by omega), n_c (by omega), r0, s0]
    rw [L_X9_tellsThing_10_s, if_neg (by decide), n_ml, n_aa, gi_in (by omega) (by omega), n_c (by omega), r1, s1]
    rw [L_X9_tellsThing_10_s, if_neg (by decide), n_ml, n_aa, gi_in (by omega) (by omega), n_c (by omega), r2, s2]
    rw [L_X9_tellsThing_10_s, if_pos (by decide), B0, bindS, B1, bindS, B2, bindS, B3, bindS, b4, bindS, b5, bindS, b6, bindS, b7, bindS, b8, bindS, b9, bindS, b10, bindS, b11, bindS]
theorem dg_things (h : Iv μ ν) (d : DG μ ν c t) (wt : WT μ ν c.2) (x : Int64) : E2 (L_X8_digest_66 FUEL x 0 c) (L_X9_digest_139 FUEL x 0 t) (fun q r => q.1 = r.1 ∧ Iv q.2 r.2) := by
  have q1 := (TdV h).1
  refine For2 (fun m i (s : Int64 × Mm) => L_X8_digest_66 m s.1 (nI i) s.2) (fun m i (s : Int64 × Mm) => L_X9_digest_139 m s.1 (nI i) s.2) ((Td μ).1 0) FUEL FUEL (fun i s t => s.1 = t.1 ∧ DG μ ν s.2 t.2 ∧ WT μ ν s.2.2)
    (fun f g => E2 f g (fun q r => q.1 = r.1 ∧ Iv q.2 r.2)) ?_ ?_ 0 (x, c) (x, t) FUEL FUEL ⟨rfl, d, wt⟩ (by omega) rfl rfl (by rw [FUELe]; omega) (by rw [FUELe]; omega)
  · rintro m m' ⟨x, c⟩ ⟨y, t⟩ _ _ ⟨g1, g2, -⟩
    simp only at g1 g2
    subst g1
    obtain ⟨y1, c1, t1, e1, e2, d1⟩ := dg_jud h g2 x
    obtain ⟨y2, c2, t2, n, e3, e4, d2⟩ := dg_own h d1 y1
    show E2 (L_X8_digest_66 (m + 1) x (nI ((Td μ).1 0)) c) (L_X9_digest_139 (m' + 1) x (nI ((Td μ).1 0)) t) _
    rw [L_X8_digest_66_s, L_X9_digest_139_s, DG_s1 h g2, g2.2.2.1, bindS, if_pos (Int32.le_refl _), if_pos (Int32.le_refl _), e1, bindS, e2, e3, bindS, e4, L_X9_digest_225_s, if_pos (by decide)]
    exact dg_fin h d2 y2
  · rintro m m' i ⟨x, c⟩ ⟨y, t⟩ _ _ hi ⟨g1, g2, g3⟩ ih
    simp only at g1 g2 g3
    subst g1
    obtain ⟨y, c1, t1, e1, e2, d1, l1⟩ := dg_thing h g2 hi g3 x
    show E2 (L_X8_digest_66 (m + 1) x (nI i) c) (L_X9_digest_139 (m' + 1) x (nI i) t) _
    have n1 : ¬ nI ((Td μ).1 0) ≤ nI i := by rw [n_le (by omega) (by omega)]; omega
    rw [L_X8_digest_66_s, L_X9_digest_139_s, DG_s1 h g2, g2.2.2.1, bindS, if_neg n1, if_neg n1, e1, bindS, e2, bindS, n_ar]
    exact ih (y, c1) (y, t1) ⟨rfl, d1, by rw [l1]; exact g3⟩
/-! weeks -/
theorem w51 {K : Int64 → Int32 → Mm → Option (Int64 × Mm)} {P : Pl} {s : Mm} {i : Nat} (hi : i < 12) (ys : YS P i s t) (x : Int64) : L_X8_digestWeeks_51 K FUEL x (nI i) 0 s = K (31 * (31 * (31 * x + (t.1 22 (3 * i + 0)).toInt64) + (t.1 22 (3 * i + 1)).toInt64) + (t.1 22 (3 * i + 2)).toInt64) (nI (i + 1)) s := by
  have p : ∀ q, q < 3 → F_X7_placedAt (nI i) (nI q) s = some (t.1 22 (3 * i + q), s) := by
    intro q hq
    unfold F_X7_placedAt
    rw [n_mr, n_aa, gi_in (by omega) (by omega), n_c (by omega), ys.2.2 _ (by omega)]
  have s0 : nI 0 + 1 = nI 1 := rfl
  have s1 : nI 1 + 1 = nI 2 := rfl
  have s2 : nI 2 + 1 = nI 3 := rfl
  show L_X8_digestWeeks_51 K (996 + 1 + 1 + 1 + 1) x (nI i) (nI 0) s = _
  rw [L_X8_digestWeeks_51_s, if_neg (by decide), p 0 (by omega), bindS, F_X8_mix, bindS, s0]
  rw [L_X8_digestWeeks_51_s, if_neg (by decide), p 1 (by omega), bindS, F_X8_mix, bindS, s1]
  rw [L_X8_digestWeeks_51_s, if_neg (by decide), p 2 (by omega), bindS, F_X8_mix, bindS, s2]
  rw [L_X8_digestWeeks_51_s, if_pos (by decide), n_ar]
theorem m100 {K : Int64 → Int32 → Mm → Option (Int64 × Mm)} {i : Nat} (hi : i < 12) (x : Int64) : L_X9_digest_100 K FUEL x (nI i) 0 t = K (31 * (31 * (31 * x + (t.1 22 (3 * i + 0)).toInt64) + (t.1 22 (3 * i + 1)).toInt64) + (t.1 22 (3 * i + 2)).toInt64) (nI (i + 1)) t := by
  have s0 : nI 0 + 1 = nI 1 := rfl
  have s1 : nI 1 + 1 = nI 2 := rfl
  have s2 : nI 2 + 1 = nI 3 := rfl
  show L_X9_digest_100 K (996 + 1 + 1 + 1 + 1) x (nI i) (nI 0) t = _
  rw [L_X9_digest_100_s, if_neg (by decide), n_ml, n_aa, gi_in (by omega) (by omega), n_c (by omega), s0]
  rw [L_X9_digest_100_s, if_neg (by decide), n_ml, n_aa, gi_in (by omega) (by omega), n_c (by omega), s1]
  rw [L_X9_digest_100_s, if_neg (by decide), n_ml, n_aa, gi_in (by omega) (by omega), n_c (by omega), s2]
  rw [L_X9_digest_100_s, if_pos (by decide), n_ar]
theorem dg_weeks (h : Iv μ ν) (d : DG μ ν c t) (lr : LR (Td μ) t) (x : Int64) : ∃ y c', F_X8_digestWeeks x c = some (y, c') ∧ L_X9_digest_63 FUEL x 0 t = L_X9_digest_139 FUEL y 0 t ∧ DG μ ν c' t := by
  have hV := TdV h
  unfold F_X8_digestWeeks
  refine For2 (fun m i (s : Int64 × Mm) => L_X8_digestWeeks_5 m s.1 (nI i) s.2) (fun m i (y : Int64) => L_X9_digest_63 m y (nI i) t) 12 FUEL FUEL (fun i s y => s.1 = y ∧ DG μ ν s.2 t)
    (fun f g => ∃ y c', f = some (y, c') ∧ g = L_X9_digest_139 FUEL y 0 t ∧ DG μ ν c' t) ?_ ?_ 0 (x, c) x FUEL FUEL ⟨rfl, d⟩ (by omega) rfl rfl (by decide) (by decide)
  · rintro m m' ⟨x, c⟩ y _ _ ⟨g1, g2⟩
    simp only at g1 g2
    subst g1
    refine ⟨x, c, ?_, ?_, g2⟩
    · show L_X8_digestWeeks_5 (m + 1) x (nI 12) c = _
      rw [L_X8_digestWeeks_5_s, if_pos (by decide)]
    · rw [L_X9_digest_63_s, if_pos (by decide)]
  · rintro m m' i ⟨x, c⟩ y _ _ hi ⟨g1, g2⟩ ih
    simp only at g1 g2
    subst g1
    obtain ⟨s, e, pc, ys, fa⟩ := d_runW h g2 lr hi
    have n1 : ¬ (12 : Int32) ≤ nI i := by rw [n_lel (by omega) (by omega)]; omega
    have w0 : F_X9_showOf (nI i) 0 t = some (jdV (Td μ) i, t) := by rw [showM hV hi g2.2.2, if_neg (by decide)]
    have w1 : F_X9_showOf (nI i) 1 t = some (s.1 28 6, t) := by rw [showM hV hi g2.2.2, if_pos rfl, ys.2.1]
    show ∃ y c', L_X8_digestWeeks_5 (m + 1) x (nI i) c = some (y, c') ∧ L_X9_digest_63 (m' + 1) x (nI i) t = L_X9_digest_139 FUEL y 0 t ∧ DG μ ν c' t
    rw [L_X8_digestWeeks_5_s, L_X9_digest_63_s, if_neg n1, if_neg n1, n_ar, e, bindS, judC hi pc, bindS, F_X8_mix, bindS, F_X8_mix, bindS, w51 hi ys, w0, bindS, w1, bindS, m100 hi]
    exact ih (_, s) _ ⟨rfl, (DG_c g2 fa).1⟩
/-! texts -/
theorem d_text (h : Iv μ ν) (d : DG μ ν c t) {i : Nat} (hi : i < 3) : ∃ v t', F_X8_fault (nI i) c = some (v, c) ∧ F_X9_readsText (nI i) t = some (v, t') ∧ DG μ ν c t' := by
  have hI := DG_I h d
  have ec := DG_T d
  have e3 : i = 0 ∨ i = 1 ∨ i = 2 := by omega
  rcases e3 with e | e | e <;> subst e
  · obtain ⟨t', e1, p1, f1⟩ := rT hI (FrB_rf t)
    rw [ec] at p1
    refine ⟨c.1 1 2, t', rfl, ?_, d.1, FrB_tr d.2.1 (FrT_B f1 (by omega) (by omega)), PM_of p1 (pmJ_T f1 (by omega) (by omega) (PM_J d.2.2)) (pmB_T f1 (by omega) (PM_B d.2.2)) (FrT_O f1 (by omega) (by omega) (PM_O d.2.2))⟩
    unfold F_X9_readsText
    rw [if_pos (by decide), e1, bindS]
  · obtain ⟨t', e1, p1, f1⟩ := rJ hI (FrB_rf t)
    rw [ec] at p1
    refine ⟨c.1 3 2, t', rfl, ?_, d.1, FrB_tr d.2.1 (FrT_B f1 (by omega) (by omega)), PM_of (pmT_T f1 (by omega) (by omega) (PM_T d.2.2)) p1 (pmB_T f1 (by omega) (PM_B d.2.2)) (FrT_O f1 (by omega) (by omega) (PM_O d.2.2))⟩
    unfold F_X9_readsText
    rw [if_neg (by decide), if_pos (by decide), e1, bindS]
  · obtain ⟨t', e1, p1, -, f1⟩ := rB hI (FrB_rf t)
    rw [ec] at p1
    refine ⟨c.1 5 2, t', rfl, ?_, d.1, FrB_tr d.2.1 (FrT_B f1 (by omega) (by omega)), PM_of (pmT_T f1 (by omega) (by omega) (PM_T d.2.2)) (pmJ_T f1 (by omega) (by omega) (PM_J d.2.2)) p1 (FrT_O f1 (by omega) (by omega) (PM_O d.2.2))⟩
    unfold F_X9_readsText
    rw [if_neg (by decide), if_neg (by decide), e1, bindS]
theorem dg_texts (h : Iv μ ν) (d : DG μ ν c t) (x : Int64) : E2 (L_X8_digest_31 FUEL x 0 c) (L_X9_digest_33 FUEL x 0 t) (fun q r => q.1 = r.1 ∧ Iv q.2 r.2) := by
  refine For2 (fun m i (s : Int64 × Mm) => L_X8_digest_31 m s.1 (nI i) s.2) (fun m i (s : Int64 × Mm) => L_X9_digest_33 m s.1 (nI i) s.2) 3 FUEL FUEL (fun i s t => s.1 = t.1 ∧ DG μ ν s.2 t.2)
    (fun f g => E2 f g (fun q r => q.1 = r.1 ∧ Iv q.2 r.2)) ?_ ?_ 0 (x, c) (x, t) FUEL FUEL ⟨rfl, d⟩ (by omega) rfl rfl (by decide) (by decide)
  · rintro m m' ⟨x, c⟩ ⟨y, t⟩ _ _ ⟨g1, g2⟩
    simp only at g1 g2
    subst g1
    obtain ⟨t0, a0, d0, lr⟩ := d_lives h g2
    obtain ⟨y, c1, e1, e2, d1⟩ := dg_weeks h d0 lr x
    obtain ⟨s, e3, d2, wt⟩ := d_wt h d1
    show E2 (L_X8_digest_31 (m + 1) x (nI 3) c) (L_X9_digest_33 (m' + 1) x (nI 3) t) _
    rw [L_X8_digest_31_s, L_X9_digest_33_s, if_pos (by decide), if_pos (by decide), e1, bindS, e3, bindS, a0, bindS, e2]
    exact dg_things h d2 wt y
  · rintro m m' i ⟨x, c⟩ ⟨y, t⟩ _ _ hi ⟨g1, g2⟩ ih
    simp only at g1 g2
    subst g1
    obtain ⟨v, t', e1, e2, d1⟩ := d_text h g2 hi
    have n1 : ¬ (3 : Int32) ≤ nI i := by rw [n_lel (by omega) (by omega)]; omega
    show E2 (L_X8_digest_31 (m + 1) x (nI i) c) (L_X9_digest_33 (m' + 1) x (nI i) t) _
    rw [L_X8_digest_31_s, L_X9_digest_33_s, if_neg n1, if_neg n1, e1, bindS, F_X8_mix, bindS, e2, bindS, n_ar]
    exact ih (_, c) (_, t') ⟨rfl, d1⟩
end
theorem o_digest : OkF F_X8_digest F_X9_digest := by
  intro μ ν h
  unfold F_X8_digest F_X9_digest
  refine For2 (fun m i (x : Int64) => L_X8_digest_6 m x (nI i) μ) (fun m i (s : Int64 × Mm) => L_X9_digest_6 m s.1 (nI i) s.2) 8 FUEL FUEL (fun i x t => x = t.1 ∧ FrB ν t.2 ∧ pmO (Td μ) t.2 ∧ (0 < i → DG μ ν μ t.2))
    (fun f g => E2 f g (fun q r => q.1 = r.1 ∧ Iv q.2 r.2)) ?_ ?_ 0 17 (17, ν) FUEL FUEL ⟨rfl, FrB_rf ν, IvO h, fun z => absurd z (by omega)⟩ (by omega) rfl rfl (by decide) (by decide)
  · rintro m m' x ⟨y, t⟩ _ _ ⟨g1, g2, g3, g4⟩
    simp only at g1
    subst g1
    show E2 (L_X8_digest_6 (m + 1) x (nI 8) μ) (L_X9_digest_6 (m' + 1) x (nI 8) t) _
    rw [L_X8_digest_6_s, L_X9_digest_6_s, if_pos (by decide), if_pos (by decide)]
    exact dg_texts h (g4 (by omega)) x
  · rintro m m' i x ⟨y, t⟩ _ _ hi ⟨g1, g2, g3, -⟩ ih
    simp only at g1 g2 g3
    subst g1
    obtain ⟨v, t', e1, e2, d⟩ := count2 h (fun _ _ => rfl) g2 g3 (nI i)
    have n1 : ¬ (8 : Int32) ≤ nI i := by rw [n_lel (by omega) (by omega)]; omega
    show E2 (L_X8_digest_6 (m + 1) x (nI i) μ) (L_X9_digest_6 (m' + 1) x (nI i) t) _
    rw [L_X8_digest_6_s, L_X9_digest_6_s, if_neg n1, if_neg n1, e1, bindS, F_X8_mix, bindS, e2, bindS, n_ar]
    exact ih _ (_, t') ⟨rfl, d.2.1, PM_O d.2.2, fun _ => d⟩
/-! the beginning -/
theorem Iv_0 : Iv μC0 μM0 := by
  have ld : ∀ g, Lead g 0 0 := fun g => ⟨Nat.le_refl _, fun j hj => absurd hj (by omega), fun z => absurd z (by omega)⟩
  refine ⟨⟨0, by omega, rfl, rfl, rfl, fun i hi => absurd hi (by omega), 0, ld _, rfl⟩, ⟨0, by omega, rfl, rfl, rfl, fun i hi => absurd hi (by omega), 0, ld _, rfl⟩, ⟨0, by omega, rfl, rfl, fun i hi => absurd hi (by omega), 0, ld _, rfl⟩, ⟨0, by omega, rfl, rfl, fun i hi => absurd hi (by omega), fun i hi => absurd hi (by omega)⟩, ⟨0, by omega, rfl, rfl, fun i hi => absurd hi (by omega), fun i hi => absurd hi (by omega)⟩, ?_, rfl, rfl, rfl, rfl⟩
  intro s hs
  have e : s = 0 ∨ s = 1 ∨ s = 2 ∨ s = 3 := by omega
  rcases e with e | e | e | e <;> subst e <;> exact ⟨rfl, Or.inl rfl, 0, by omega, rfl, rfl, fun i hi => absurd hi (by omega)⟩
