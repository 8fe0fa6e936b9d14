/-! plans, sights, chances: the memories as they stand while questions are asked of one plan -/
def DG (μ ν c t : Mm) : Prop := (∀ k, k < 20 → c.1 k = μ.1 k) ∧ FrB ν t ∧ PM (Td μ) t
theorem Td_cg {μ c : Mm} (h : ∀ k, 1 ≤ k → k ≤ 10 → c.1 k = μ.1 k) : Td c = Td μ := by
  unfold Td
  rw [h 1 (by omega) (by omega), h 2 (by omega) (by omega), h 3 (by omega) (by omega), h 4 (by omega) (by omega), h 5 (by omega) (by omega), h 6 (by omega) (by omega), h 7 (by omega) (by omega), h 8 (by omega) (by omega), h 9 (by omega) (by omega), h 10 (by omega) (by omega)]
theorem DG_I {μ ν c t : Mm} (h : Iv μ ν) (d : DG μ ν c t) : Iv c t := Iv_back h d.1 d.2.1 (PM_O d.2.2)
theorem DG_T {μ ν c t : Mm} (d : DG μ ν c t) : Td c = Td μ := Td_cg (fun k _ h2 => d.1 k (by omega))
theorem DG_P {μ ν c t : Mm} (h : Iv μ ν) (d : DG μ ν c t) : ∃ c1, F_X8_planAsTold c = some c1 ∧ PC (Td μ) c1 ∧ FrA c c1 := by
  obtain ⟨c1, e, pc, fa⟩ := takeC (DG_I h d)
  rw [DG_T d] at pc
  exact ⟨c1, e, pc, fa⟩
theorem DG_s1 {μ ν c t : Mm} (h : Iv μ ν) (d : DG μ ν c t) : F_X3_size_1 c = some (nI ((Td μ).1 0), c) := by
  rw [size1 (DG_I h d), DG_T d]
theorem DG_s3 {μ ν c t : Mm} (h : Iv μ ν) (d : DG μ ν c t) : F_X3_size_3 c = some (nI ((Td μ).1 1), c) := by
  rw [size3 (DG_I h d), DG_T d]
theorem DG_n {μ ν c t c1 s t' : Mm} (d : DG μ ν c t) (fa : FrA c c1) (f1 : FrA c1 s) (f2 : FrB t t') (pm : PM (Td μ) t') : DG μ ν s t' ∧ s.2 = c.2 :=
  ⟨⟨fun k hk => ((FrA_tr fa f1).1 k hk).trans (d.1 k hk), FrB_tr d.2.1 f2, pm⟩, (FrA_tr fa f1).2⟩
/-- where every question begins -/
theorem DG_0 {μ ν : Mm} (h : Iv μ ν) : ∃ t, F_X9_find ν = some t ∧ DG μ ν μ t ∧ LR (Td μ) t ∧ t.1 0 11 = tl μ := by
  obtain ⟨μ1, t, -, -, -, e2, pm, lr, fb, t11, -⟩ := both h
  exact ⟨t, e2, ⟨fun _ _ => rfl, fb, pm⟩, lr, t11⟩
theorem inT {n k : Nat} (hk : k < n) (hn : n < 100000) (s : Mm) : F_X8_isIn (nI k) (nI n) s = some (1, s) := by
  unfold F_X8_isIn
  rw [if_neg (by rw [n_lt0 (by omega)]; exact not_false), if_neg (by rw [n_le (by omega) (by omega)]; omega)]
section
variable {μ ν c t : Mm} {k : Nat}
theorem d_brush (h : Iv μ ν) (d : DG μ ν c t) (hk : k < (Td μ).1 0) (what : Int32) : E2 (F_X8_chooseBrush (nI k) c) (F_X9_brushOf (nI k) what t) (fun s r => r.1 = (if what = 0 then s.1 34 0 else s.1 34 1) ∧ DG μ ν s r.2 ∧ s.2 = c.2) := by
  obtain ⟨c1, e1, pc, fa⟩ := DG_P h d
  unfold F_X8_chooseBrush
  rw [e1, bindS]
  refine E2_mono (brush2 (what := what) (TdV h) hk rfl pc d.2.2) ?_
  rintro s r ⟨g1, g2, g3, g4⟩
  exact ⟨g1, DG_n d fa g2 g3 g4⟩
theorem d_rival (h : Iv μ ν) (d : DG μ ν c t) (hk : k < (Td μ).1 0) (what : Int32) : E2 (F_X8_chooseRival (nI k) c) (F_X9_rivalOf (nI k) what t) (fun s r => r.1 = (if what = 0 then s.1 34 0 else s.1 34 1) ∧ DG μ ν s r.2 ∧ s.2 = c.2) := by
  obtain ⟨c1, e1, pc, fa⟩ := DG_P h d
  unfold F_X8_chooseRival
  rw [e1, bindS]
  refine E2_mono (rival2 (what := what) (TdV h) hk rfl pc d.2.2) ?_
  rintro s r ⟨g1, g2, g3, g4⟩
  exact ⟨g1, DG_n d fa g2 g3 g4⟩
theorem d_send (h : Iv μ ν) (d : DG μ ν c t) (hk : k < 12) (who what : Int32) : E2 (F_X8_chooseJudge (nI k) who c) (F_X9_sendOf (nI k) who what t) (fun s r => r.1 = (if what = 0 then s.1 34 0 else s.1 34 1) ∧ DG μ ν s r.2 ∧ s.2 = c.2) := by
  obtain ⟨c1, e1, pc, fa⟩ := DG_P h d
  unfold F_X8_chooseJudge
  rw [e1, bindS]
  refine E2_mono (send2 (who := who) (what := what) (TdV h) hk pc d.2.2) ?_
  rintro s r ⟨g1, g2, g3, g4⟩
  exact ⟨g1, DG_n d fa g2 g3 g4⟩
theorem d_spare (h : Iv μ ν) (d : DG μ ν c t) {i : Int32} (hi : i = -1 ∨ i = 0 ∨ i = 1) (h1 : ¬ i < -1) (h2 : i ≤ 1) : E2 (F_X8_spare i c) (F_X9_spareBy i t) (fun q r => q.1 = r.1 ∧ DG μ ν q.2 r.2 ∧ q.2.2 = c.2) := by
  obtain ⟨c1, e1, pc, fa⟩ := DG_P h d
  unfold F_X8_spare F_X8_sparedEvents
  rw [if_neg h1, if_pos h2, e1, bindS]
  refine E2_lm (spare2 (TdV h) rfl hi pc d.2.2) ?_
  rintro ⟨bits, s⟩ ⟨v, t'⟩ ⟨g1, g2, g3, g4⟩
  exact ⟨_, sp_e i bits s, g1.symm, DG_n d fa g2 g3 g4⟩
theorem d_never (h : Iv μ ν) (d : DG μ ν c t) : E2 (F_X8_never c) (F_X9_neverNow t) (fun q r => q.1 = r.1 ∧ DG μ ν q.2 r.2 ∧ q.2.2 = c.2) := by
  obtain ⟨c1, e1, pc, fa⟩ := DG_P h d
  unfold F_X8_never
  rw [e1, bindS]
  refine E2_mono (never2 (TdV h) rfl pc d.2.2) ?_
  rintro q r ⟨g1, g2, g3, g4⟩
  exact ⟨g1, DG_n d fa g2 g3 g4⟩
theorem d_looked (h : Iv μ ν) (d : DG μ ν c t) (hk : k < (Td μ).1 0) : E2 (F_X8_looked (nI k) c) (F_X9_lookedOf (nI k) t) (fun q r => q.1 = r.1 ∧ DG μ ν q.2 r.2 ∧ q.2.2 = c.2) := by
  have q1 := (TdV h).1
  obtain ⟨c1, e1, pc, fa⟩ := DG_P h d
  unfold F_X8_looked
  simp (config := { implicitDefEqProofs := false }) (disch := omega) only [DG_s1 h d, bindS, inT hk, i10, if_false, e1]
  refine E2_mono (looked2 (TdV h) hk pc d.2.2) ?_
  rintro q r ⟨g1, g2, g3, g4⟩
  exact ⟨g1, DG_n d fa g2 g3 g4⟩
theorem d_tastes (h : Iv μ ν) (d : DG μ ν c t) (hk : k < (Td μ).1 1) : E2 (F_X8_tastes (nI k) c) (F_X9_tastesOf (nI k) t) (fun q r => q.1 = r.1 ∧ DG μ ν q.2 r.2 ∧ q.2.2 = c.2) := by
  have q1 := (TdV h).2.1
  obtain ⟨c1, e1, pc, fa⟩ := DG_P h d
  unfold F_X8_tastes
  simp (config := { implicitDefEqProofs := false }) (disch := omega) only [DG_s3 h d, bindS, inT hk, i10, if_false, e1]
  refine E2_mono (tastes2 (TdV h) hk pc d.2.2) ?_
  rintro q r ⟨g1, g2, g3, g4⟩
  exact ⟨g1, DG_n d fa g2 g3 g4⟩
theorem d_ask (h : Iv μ ν) (d : DG μ ν c t) (hk : k < (Td μ).1 0) : E2 (F_X8_ask (nI k) c) (F_X9_askOf (nI k) t) (fun q r => q.1 = r.1 ∧ DG μ ν q.2 r.2 ∧ q.2.2 = c.2) := by
  have q1 := (TdV h).1
  obtain ⟨c1, e1, pc, fa⟩ := DG_P h d
  unfold F_X8_ask F_X8_tallyPlaces
  simp (config := { implicitDefEqProofs := false }) (disch := omega) only [DG_s1 h d, bindS, inT hk, i10, if_false, e1]
  refine E2_mono (ask2 (TdV h) hk pc d.2.2) ?_
  rintro q r ⟨g1, g2, g3, g4⟩
  exact ⟨g1, DG_n d fa g2 g3 g4⟩
theorem d_weigh (h : Iv μ ν) (d : DG μ ν c t) {w : Nat} (hw : w ≤ 16) (hk : k < 10) (what : Int32) : E2 (F_X8_weighBests (nI w) c) (F_X9_chanceOf (nI w) (nI k) what t) (fun s r => (∀ z : Mm, z.1 7 1 = μ.1 7 1 → F_X8_partOfFraction (s.2 35 k) what z = some (r.1, z)) ∧ DG μ ν s r.2) := by
  obtain ⟨c1, e1, pc, fa⟩ := DG_P h d
  unfold F_X8_weighBests
  rw [e1, bindS]
  refine E2_mono (weigh2 (what := what) (TdV h) rfl hw hk pc d.2.2) ?_
  rintro s r ⟨g1, g2, g3, g4⟩
  have e7 : c1.1 7 1 = μ.1 7 1 := by rw [fa.1 7 (by omega), d.1 7 (by omega)]
  refine ⟨fun z hz => g1 z (by rw [hz, e7]), fun j hj => ?_, FrB_tr d.2.1 g3, g4⟩
  rw [g2 j hj, fa.1 j hj, d.1 j hj]
end
theorem DG_r {μ ν s t : Mm} {x y : Int32} (h : Iv μ ν) (d : DG μ ν s t) (e : x = y) : E2 (some (x, s)) (some (y, t)) (fun q r => q.1 = r.1 ∧ Iv q.2 r.2) := E2_some ⟨e, DG_I h d⟩
theorem DG_m {μ ν c : Mm} {f g : Option (Int32 × Mm)} (h : Iv μ ν) (e : E2 f g (fun q r => q.1 = r.1 ∧ DG μ ν q.2 r.2 ∧ q.2.2 = c.2)) : E2 f g (fun q r => q.1 = r.1 ∧ Iv q.2 r.2) :=
  E2_mono e (fun _ _ z => ⟨z.1, DG_I h z.2.1⟩)
theorem o_brush (a1 a2 : Int32) : OkE (F_X8_brush a1 a2) (F_X9_brush a1 a2) := by
  intro μ ν h
  obtain ⟨t, e2, d, -, -⟩ := DG_0 h
  have hI := DG_I h d
  unfold F_X8_brush F_X9_brush
  simp (config := { implicitDefEqProofs := false }) (disch := omega) only [e2, bindS, size1 h]
  rcases chT (μ := μ) (x := a1) (TdV h) with ⟨k, hk, rfl, c3, c4⟩ | ⟨c3, c4⟩
  · simp (config := { implicitDefEqProofs := false }) (disch := omega) only [c3, c4 t d.2.2.1, bindS, i10, if_false]
    rcases chk (x := a2) (y := 2) (n := 2) (hi := 1) (by omega) rfl rfl with ⟨q, hq, rfl, c5, c6⟩ | ⟨c5, c6⟩
    · simp (config := { implicitDefEqProofs := false }) (disch := omega) only [c5, is2 c6, bindS, i10, if_false, F_X0_tell]
      refine E2_bind (d_brush h d hk (nI q)) ?_
      rintro s ⟨v, t'⟩ ⟨g1, g2, -⟩
      exact DG_r h g2 g1.symm
    · simp (config := { implicitDefEqProofs := false }) (disch := omega) only [c5, is20 c6, bindS, if_true]
      exact oret hI
  · simp (config := { implicitDefEqProofs := false }) (disch := omega) only [c3, c4 t d.2.2.1, bindS, if_true]
    exact oret hI
theorem o_rival (a1 a2 : Int32) : OkE (F_X8_rival a1 a2) (F_X9_rival a1 a2) := by
  intro μ ν h
  obtain ⟨t, e2, d, -, -⟩ := DG_0 h
  have hI := DG_I h d
  unfold F_X8_rival F_X9_rival
  simp (config := { implicitDefEqProofs := false }) (disch := omega) only [e2, bindS, size1 h]
  rcases chT (μ := μ) (x := a1) (TdV h) with ⟨k, hk, rfl, c3, c4⟩ | ⟨c3, c4⟩
  · simp (config := { implicitDefEqProofs := false }) (disch := omega) only [c3, c4 t d.2.2.1, bindS, i10, if_false]
    rcases chk (x := a2) (y := 2) (n := 2) (hi := 1) (by omega) rfl rfl with ⟨q, hq, rfl, c5, c6⟩ | ⟨c5, c6⟩
    · simp (config := { implicitDefEqProofs := false }) (disch := omega) only [c5, is2 c6, bindS, i10, if_false, F_X0_tell]
      refine E2_bind (d_rival h d hk (nI q)) ?_
      rintro s ⟨v, t'⟩ ⟨g1, g2, -⟩
      exact DG_r h g2 g1.symm
    · simp (config := { implicitDefEqProofs := false }) (disch := omega) only [c5, is20 c6, bindS, if_true]
      exact oret hI
  · simp (config := { implicitDefEqProofs := false }) (disch := omega) only [c3, c4 t d.2.2.1, bindS, if_true]
    exact oret hI
theorem o_send (a1 a2 a3 : Int32) : OkE (F_X8_send a1 a2 a3) (F_X9_send a1 a2 a3) := by
  intro μ ν h
  obtain ⟨t, e2, d, -, -⟩ := DG_0 h
  have hI := DG_I h d
  unfold F_X8_send F_X9_send
  rcases chk (x := a1) (y := 12) (n := 12) (hi := 11) (by omega) rfl rfl with ⟨w, hw, rfl, c1, c2⟩ | ⟨c1, c2⟩
  · simp (config := { implicitDefEqProofs := false }) (disch := omega) only [c1, isW c2, bindS, i10, if_false, e2]
    rcases chk (x := a2) (y := 6) (n := 6) (hi := 5) (by omega) rfl rfl with ⟨o, ho, rfl, c3, c4⟩ | ⟨c3, c4⟩
    · simp (config := { implicitDefEqProofs := false }) (disch := omega) only [c3, c4, bindS, i10, if_false]
      rcases chk (x := a3) (y := 2) (n := 2) (hi := 1) (by omega) rfl rfl with ⟨q, hq, rfl, c5, c6⟩ | ⟨c5, c6⟩
      · simp (config := { implicitDefEqProofs := false }) (disch := omega) only [c5, is2 c6, bindS, i10, if_false, F_X0_tell]
        refine E2_bind (d_send h d hw (nI o) (nI q)) ?_
        rintro s ⟨v, t'⟩ ⟨g1, g2, -⟩
        exact DG_r h g2 g1.symm
      · simp (config := { implicitDefEqProofs := false }) (disch := omega) only [c5, is20 c6, bindS, if_true]
        exact oret hI
    · simp (config := { implicitDefEqProofs := false }) (disch := omega) only [c3, c4, bindS, if_true]
      exact oret hI
  · simp (config := { implicitDefEqProofs := false }) (disch := omega) only [c1, isW0 c2, bindS, if_true, e2]
    exact oret hI
theorem chS (x : Int32) : ((x = -1 ∨ x = 0 ∨ x = 1) ∧ ¬ x < -1 ∧ x ≤ 1 ∧ ∀ ν, F_X9_in x.toInt64 (-1) 1 ν = some (1, ν)) ∨ ((x < -1 ∨ ¬ x ≤ 1) ∧ ∀ ν, F_X9_in x.toInt64 (-1) 1 ν = some (0, ν)) := by
  have z0 : (-1 : Int64).toInt = -1 := rfl
  have z1 : (1 : Int64).toInt = 1 := rfl
  have y0 : (-1 : Int32).toInt = -1 := rfl
  have y1 : (1 : Int32).toInt = 1 := rfl
  have y2 : (0 : Int32).toInt = 0 := rfl
  by_cases c : x < -1
  · right
    refine ⟨Or.inl c, fun ν => ?_⟩
    rw [in_gen, if_neg]
    rw [Int32.lt_iff_toInt_lt] at c
    omega
  · by_cases e : x ≤ 1
    · left
      refine ⟨?_, c, e, fun ν => ?_⟩
      · rw [Int32.lt_iff_toInt_lt] at c
        rw [Int32.le_iff_toInt_le] at e
        have : x.toInt = -1 ∨ x.toInt = 0 ∨ x.toInt = 1 := by omega
        rcases this with g | g | g
        · exact Or.inl (Int32.toInt_inj.mp (g.trans y0.symm))
        · exact Or.inr (Or.inl (Int32.toInt_inj.mp (g.trans y2.symm)))
        · exact Or.inr (Or.inr (Int32.toInt_inj.mp (g.trans y1.symm)))
      · rw [in_gen, if_pos]
        rw [Int32.lt_iff_toInt_lt] at c
        rw [Int32.le_iff_toInt_le] at e
        omega
    · right
      refine ⟨Or.inr e, fun ν => ?_⟩
      rw [in_gen, if_neg]
      rw [Int32.le_iff_toInt_le] at e
      omega
theorem o_spare (a1 : Int32) : OkE (F_X8_spare a1) (F_X9_spare a1) := by
  intro μ ν h
  obtain ⟨t, e2, d, -, -⟩ := DG_0 h
  have hI := DG_I h d
  unfold F_X9_spare
  rcases chS a1 with ⟨c1, c2, c3, c4⟩ | ⟨c1, c4⟩
  · simp (config := { implicitDefEqProofs := false }) (disch := omega) only [e2, c4, bindS, i10, if_false, bindPair]
    exact DG_m h (d_spare h d c1 c2 c3)
  · simp (config := { implicitDefEqProofs := false }) (disch := omega) only [e2, c4, bindS, if_true]
    unfold F_X8_spare
    by_cases z : a1 < -1
    · rw [if_pos z]; exact oret hI
    · rw [if_neg z, if_neg (c1.resolve_left z)]; exact oret hI
theorem o_never : OkE F_X8_never F_X9_never := by
  intro μ ν h
  obtain ⟨t, e2, d, -, -⟩ := DG_0 h
  unfold F_X9_never
  rw [e2, bindS, bindPair]
  exact DG_m h (d_never h d)
theorem o_looked (a1 : Int32) : OkE (F_X8_looked a1) (F_X9_looked a1) := by
  intro μ ν h
  obtain ⟨t, e2, d, -, -⟩ := DG_0 h
  have hI := DG_I h d
  unfold F_X9_looked
  rcases chT (μ := μ) (x := a1) (TdV h) with ⟨k, hk, rfl, c3, c4⟩ | ⟨c3, c4⟩
  · simp (config := { implicitDefEqProofs := false }) (disch := omega) only [e2, c4 t d.2.2.1, bindS, i10, if_false, bindPair]
    exact DG_m h (d_looked h d hk)
  · unfold F_X8_looked
    simp (config := { implicitDefEqProofs := false }) (disch := omega) only [size1 h, c3, e2, c4 t d.2.2.1, bindS, if_true]
    exact oret hI
theorem o_tastes (a1 : Int32) : OkE (F_X8_tastes a1) (F_X9_tastes a1) := by
  intro μ ν h
  obtain ⟨t, e2, d, -, -⟩ := DG_0 h
  have hI := DG_I h d
  unfold F_X9_tastes
  rcases chJ (x := a1) (TdV h) with ⟨k, hk, rfl, c3, c4⟩ | ⟨c3, c4⟩
  · simp (config := { implicitDefEqProofs := false }) (disch := omega) only [e2, c4 t d.2.2.2.1, bindS, i10, if_false, bindPair]
    exact DG_m h (d_tastes h d hk)
  · unfold F_X8_tastes
    simp (config := { implicitDefEqProofs := false }) (disch := omega) only [size3 h, c3, e2, c4 t d.2.2.2.1, bindS, if_true]
    exact oret hI
theorem o_ask (a1 : Int32) : OkE (F_X8_ask a1) (F_X9_ask a1) := by
  intro μ ν h
  obtain ⟨t, e2, d, -, -⟩ := DG_0 h
  have hI := DG_I h d
  unfold F_X9_ask
  rcases chT (μ := μ) (x := a1) (TdV h) with ⟨k, hk, rfl, c3, c4⟩ | ⟨c3, c4⟩
  · simp (config := { implicitDefEqProofs := false }) (disch := omega) only [e2, c4 t d.2.2.1, bindS, i10, if_false, bindPair]
    exact DG_m h (d_ask h d hk)
  · unfold F_X8_ask
    simp (config := { implicitDefEqProofs := false }) (disch := omega) only [size1 h, c3, e2, c4 t d.2.2.1, bindS, if_true]
    exact oret hI
/-! chances -/
def OkF (f g : Mm → Option (Int64 × Mm)) : Prop := ∀ μ ν, Iv μ ν → E2 (f μ) (g ν) (fun q r => q.1 = r.1 ∧ Iv q.2 r.2)
theorem OkF_L {f g : Mm → Option (Int64 × Mm)} (h : OkF f g) : OkL Iv f g := fun μ ν hI => by
  obtain ⟨q, r, h1, h2, h3⟩ := h μ ν hI; exact ⟨q, r, h1, h2, h3⟩
theorem chC (x : Int32) : (∃ c, c ≤ 16 ∧ x = nI c ∧ ¬ x < 0 ∧ ¬ 16 < x ∧ ∀ ν, F_X9_in x.toInt64 0 16 ν = some (1, ν)) ∨ ((x < 0 ∨ 16 < x) ∧ ∀ ν, F_X9_in x.toInt64 0 16 ν = some (0, ν)) := by
  have z0 : (0 : Int64).toInt = 0 := rfl
  have z1 : (16 : Int64).toInt = 16 := rfl
  have y1 : (0 : Int32).toInt = 0 := rfl
  by_cases c : x < 0
  · right
    refine ⟨Or.inl c, fun ν => ?_⟩
    rw [in_gen, if_neg]
    rw [Int32.lt_iff_toInt_lt] at c
    omega
  · obtain ⟨k, hk, rfl⟩ := nI_of c
    by_cases e : k ≤ 16
    · left
      refine ⟨k, e, rfl, c, by rw [n_ltl (by omega) (by omega)]; omega, fun ν => ?_⟩
      rw [in_gen, if_pos]
      rw [nI_toInt hk]; omega
    · right
      refine ⟨Or.inr (by rw [n_ltl (by omega) (by omega)]; omega), fun ν => ?_⟩
      rw [in_gen, if_neg]
      rw [nI_toInt hk]; omega
theorem o_chance (a1 a2 a3 : Int32) : OkF (F_X8_chance a1 a2 a3) (F_X9_chance a1 a2 a3) := by
  intro μ ν h
  obtain ⟨t, e2, d, -, -⟩ := DG_0 h
  have hI := DG_I h d
  have q1 := (TdV h).1
  have bad : E2 (some ((-9223372036854775806 : Int64), μ)) (F_X9_chance_41 t) (fun q r => q.1 = r.1 ∧ Iv q.2 r.2) := E2_some ⟨(by decide +kernel : (-9223372036854775806 : Int64) = -9223372036854775808 - (-2 : Int32).toInt64), hI⟩
  unfold F_X8_chance F_X9_chance
  rcases chC a1 with ⟨w, hw, rfl, c1, c2, c3⟩ | ⟨c1, c3⟩
  · simp (config := { implicitDefEqProofs := false }) (disch := omega) only [e2, c3, if_neg c1, if_neg c2, bindS, i10, if_false, size1 h]
    rcases chT (μ := μ) (x := a2) (TdV h) with ⟨k, hk, rfl, c4, c5⟩ | ⟨c4, c5⟩
    · simp (config := { implicitDefEqProofs := false }) (disch := omega) only [c4, c5 t d.2.2.1, bindS, i10, if_false]
      rcases chk (x := a3) (y := 2) (n := 2) (hi := 1) (by omega) rfl rfl with ⟨q, hq, rfl, c6, c7⟩ | ⟨c6, c7⟩
      · simp (config := { implicitDefEqProofs := false }) (disch := omega) only [c6, is2 c7, bindS, i10, if_false, gi_in, n_c]
        refine E2_bind (d_weigh h d hw (show k < 10 by omega) (nI q)) ?_
        rintro s ⟨v, t'⟩ ⟨g1, g2⟩
        have e4 := g1 s (by rw [g2.1 7 (by omega)])
        simp (config := { implicitDefEqProofs := false }) (disch := omega) only [e4, bindS]
        exact E2_some ⟨rfl, DG_I h g2⟩
      · simp (config := { implicitDefEqProofs := false }) (disch := omega) only [c6, is20 c7, bindS, if_true]
        exact bad
    · simp (config := { implicitDefEqProofs := false }) (disch := omega) only [c4, c5 t d.2.2.1, bindS, if_true]
      exact bad
  · simp (config := { implicitDefEqProofs := false }) (disch := omega) only [e2, c3, bindS, if_true]
    by_cases z : a1 < 0
    · rw [if_pos z]; exact bad
    · rw [if_neg z, if_pos (c1.resolve_left z)]; exact bad
/-! how many -/
theorem count2 {μ ν c t : Mm} (h : Iv μ ν) (d1 : ∀ k, k < 20 → c.1 k = μ.1 k) (d2 : FrB ν t) (d3 : pmO (Td μ) t) (x : Int32) : ∃ v t', F_X8_count x c = some (v, c) ∧ F_X9_count x t = some (v, t') ∧ DG μ ν c t' := by
  have hI := Iv_back h d1 d2 d3
  have ec : Td c = Td μ := Td_cg (fun k _ h2 => d1 k (by omega))
  obtain ⟨t', e2, pm, lr, fb, t11⟩ := findM hI (FrB_rf t) (IvO hI)
  rw [ec] at pm
  have d' : DG μ ν c t' := ⟨d1, FrB_tr d2 fb, pm⟩
  obtain ⟨⟨n0, a⟩, ⟨n1, b⟩, ⟨n2, e⟩, ⟨n3, f⟩, ⟨n4, g⟩, -, la, -⟩ := DG_I h d'
  unfold F_X8_count F_X9_count
  rw [e2, bindS, DG_s1 h d', DG_s3 h d']
  unfold F_X6_size
  by_cases x0 : x = 0
  · subst x0; exact ⟨_, t', rfl, by rw [if_pos rfl, pm.1], d'⟩
  rw [if_neg x0, if_neg x0]
  by_cases x1 : x = 1
  · subst x1; exact ⟨_, t', rfl, by rw [if_pos rfl, pm.2.1], d'⟩
  rw [if_neg x1, if_neg x1]
  by_cases x2 : x = 2
  · subst x2; exact ⟨_, t', rfl, by rw [if_pos rfl, t11]; rfl, d'⟩
  rw [if_neg x2, if_neg x2]
  by_cases x3 : x = 3
  · subst x3; exact ⟨_, t', rfl, by rw [if_pos rfl]; show some (t'.1 6 0, t') = some (c.1 1 1, t'); rw [a.2.1, a.2.2.1], d'⟩
  rw [if_neg x3, if_neg x3]
  by_cases x4 : x = 4
  · subst x4; exact ⟨_, t', rfl, by rw [if_pos rfl]; show some (t'.1 6 1, t') = some (c.1 3 1, t'); rw [b.2.1, b.2.2.1], d'⟩
  rw [if_neg x4, if_neg x4]
  by_cases x5 : x = 5
  · subst x5; exact ⟨_, t', rfl, by rw [if_pos rfl]; show some (t'.1 6 2, t') = some (c.1 5 1, t'); rw [e.2.1, e.2.2.1], d'⟩
  rw [if_neg x5, if_neg x5]
  by_cases x6 : x = 6
  · subst x6; exact ⟨_, t', rfl, by rw [if_pos rfl, if_pos rfl, f.2.1, f.2.2.1], d'⟩
  rw [if_neg x6, if_neg x6]
  by_cases x7 : x = 7
  · subst x7; exact ⟨_, t', rfl, by rw [if_pos rfl, if_pos rfl, g.2.1, g.2.2.1], d'⟩
  rw [if_neg x7, if_neg x7, la]
  exact ⟨_, t', rfl, rfl, d'⟩
theorem o_count (a1 : Int32) : OkE (F_X8_count a1) (F_X9_count a1) := by
  intro μ ν h
  obtain ⟨v, t, e1, e2, d⟩ := count2 h (fun _ _ => rfl) (FrB_rf ν) (IvO h) a1
  exact ⟨_, _, e1, e2, rfl, DG_I h d⟩
