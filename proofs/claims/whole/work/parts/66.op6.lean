/-! questions about weeks -/
/-- what every question begins with, on both sides -/
theorem both {μ ν : Mm} (h : Iv μ ν) : ∃ μ1 ν1, F_X8_planAsTold μ = some μ1 ∧ PC (Td μ) μ1 ∧ FrA μ μ1 ∧ F_X9_find ν = some ν1 ∧ PM (Td μ) ν1 ∧ LR (Td μ) ν1 ∧ FrB ν ν1 ∧ ν1.1 0 11 = tl μ ∧ Iv μ ν1 := by
  obtain ⟨μ1, e1, pc, fa⟩ := takeC h
  obtain ⟨ν1, e2, pm, lr, fb, t11⟩ := findM h (FrB_rf ν) (IvO h)
  exact ⟨μ1, ν1, e1, pc, fa, e2, pm, lr, fb, t11, Iv_back h (fun _ _ => rfl) fb (PM_O pm)⟩
theorem bk {μ ν μ1 ν1 s t : Mm} (h : Iv μ ν) (fa : FrA μ μ1) (fb : FrB ν ν1) (f1 : FrA μ1 s) (f2 : FrB ν1 t) (pm : PM (Td μ) t) : Iv s t :=
  Iv_back h (FrA_tr fa f1).1 (FrB_tr fb f2) (PM_O pm)
theorem bkC {μ ν μ1 ν1 s : Mm} (h : Iv μ ν) (fa : FrA μ μ1) (fb : FrB ν ν1) (f1 : FrC μ1 s) (pm : PM (Td μ) ν1) : Iv s ν1 :=
  Iv_back h (FrA_tr fa (FrC_A f1)).1 fb (PM_O pm)
theorem isW {x : Int32} (c : ∀ ν, F_X9_in x.toInt64 0 11 ν = some (1, ν)) (ν : Mm) : F_X9_isWeek x ν = some (1, ν) := by unfold F_X9_isWeek; rw [c, bindS, gb_1]
theorem isW0 {x : Int32} (c : ∀ ν, F_X9_in x.toInt64 0 11 ν = some (0, ν)) (ν : Mm) : F_X9_isWeek x ν = some (0, ν) := by unfold F_X9_isWeek; rw [c, bindS, gb_0]
theorem is2 {x : Int32} (c : ∀ ν, F_X9_in x.toInt64 0 1 ν = some (1, ν)) (ν : Mm) : F_X9_isTwo x ν = some (1, ν) := by unfold F_X9_isTwo; rw [c, bindS, gb_1]
theorem is20 {x : Int32} (c : ∀ ν, F_X9_in x.toInt64 0 1 ν = some (0, ν)) (ν : Mm) : F_X9_isTwo x ν = some (0, ν) := by unfold F_X9_isTwo; rw [c, bindS, gb_0]
/-- the check of a thing, on both sides -/
theorem chT {μ : Mm} {P : Pl} {x : Int32} (hV : PV P) : (∃ k, k < P.1 0 ∧ x = nI k ∧ (∀ s, F_X8_isIn x (nI (P.1 0)) s = some (1, s)) ∧ (∀ t, t.1 0 7 = nI (P.1 0) → F_X9_isThing x t = some (1, t))) ∨ ((∀ s, F_X8_isIn x (nI (P.1 0)) s = some (0, s)) ∧ (∀ t, t.1 0 7 = nI (P.1 0) → F_X9_isThing x t = some (0, t))) := by
  have q1 := hV.1
  rcases chk (x := x) (y := nI (P.1 0)) (n := P.1 0) (by omega) rfl (hiN (by omega)) with ⟨k, hk, e, c1, c2⟩ | ⟨c1, c2⟩
  · left; exact ⟨k, hk, e, c1, fun t ht => by unfold F_X9_isThing; rw [ht, c2, bindS, gb_1]⟩
  · right; exact ⟨c1, fun t ht => by unfold F_X9_isThing; rw [ht, c2, bindS, gb_0]⟩
theorem chJ {P : Pl} {x : Int32} (hV : PV P) : (∃ k, k < P.1 1 ∧ x = nI k ∧ (∀ s, F_X8_isIn x (nI (P.1 1)) s = some (1, s)) ∧ (∀ t, t.1 0 9 = nI (P.1 1) → F_X9_isJudge x t = some (1, t))) ∨ ((∀ s, F_X8_isIn x (nI (P.1 1)) s = some (0, s)) ∧ (∀ t, t.1 0 9 = nI (P.1 1) → F_X9_isJudge x t = some (0, t))) := by
  have q1 := hV.2.1
  rcases chk (x := x) (y := nI (P.1 1)) (n := P.1 1) (by omega) rfl (hiN (by omega)) with ⟨k, hk, e, c1, c2⟩ | ⟨c1, c2⟩
  · left; exact ⟨k, hk, e, c1, fun t ht => by unfold F_X9_isJudge; rw [ht, c2, bindS, gb_1]⟩
  · right; exact ⟨c1, fun t ht => by unfold F_X9_isJudge; rw [ht, c2, bindS, gb_0]⟩
theorem rAt {μ μ1 : Mm} {x : Int32} (e : F_X8_planAsTold μ = some μ1) : F_X8_runAsTold x μ = F_X7_run x μ1 := by
  unfold F_X8_runAsTold; rw [e, bindS, bindSome]
theorem o_place (a1 a2 : Int32) : OkE (F_X8_place a1 a2) (F_X9_place a1 a2) := by
  intro μ ν h
  obtain ⟨μ1, ν1, e1, pc, fa, e2, pm, lr, fb, t11, hI⟩ := both h
  unfold F_X8_place F_X9_place
  rcases chk (x := a1) (y := 12) (n := 12) (hi := 11) (by omega) rfl rfl with ⟨w, hw, rfl, c1, c2⟩ | ⟨c1, c2⟩
  · simp (config := { implicitDefEqProofs := false }) (disch := omega) only [c1, isW c2, bindS, i10, if_false, e2]
    rcases chk (x := a2) (y := 3) (n := 3) (hi := 2) (by omega) rfl rfl with ⟨p, hp, rfl, c3, c4⟩ | ⟨c3, c4⟩
    · obtain ⟨s, e3, f1, ys⟩ := (lr μ1 pc).1 w hw
      simp (config := { implicitDefEqProofs := false }) (disch := omega) only [c3, c4, bindS, i10, if_false, rAt e1, n_ar, e3, F_X7_placedAt, n_mr, n_ml, n_aa, gi_in, n_c]
      exact E2_some ⟨ys.2.2 _ (by omega), bkC h fa fb f1 pm⟩
    · simp (config := { implicitDefEqProofs := false }) (disch := omega) only [c3, c4, bindS, if_true]
      exact oret hI
  · simp (config := { implicitDefEqProofs := false }) (disch := omega) only [c1, isW0 c2, bindS, if_true, e2]
    exact oret hI
theorem tell2 {P : Pl} {w k q : Nat} {s t : Mm} (hw : w < 12) (hk : k < P.1 0) (hV : PV P) (hq : q < 5) (ys : YS P w s t) : ∃ v, F_X7_tellOf (nI k) (nI q) s = some (v, s) ∧ F_X9_atBy (nI w) (nI k) (nI q) t = some (v, t) := by
  have q1 := hV.1
  obtain ⟨y1, y2, y3, y4, y5⟩ := ys.1 k hk
  unfold F_X7_tellOf F_X9_atBy
  simp (config := { implicitDefEqProofs := false }) (disch := omega) only [n_ml, n_aa, gi_in, n_c, n_eqr, bt_def, y1, y2, y3, y4, y5]
  have e5 : q = 0 ∨ q = 1 ∨ q = 2 ∨ q = 3 ∨ q = 4 := by omega
  rcases e5 with rfl | rfl | rfl | rfl | rfl
  · exact ⟨_, rfl, rfl⟩
  · exact ⟨_, rfl, rfl⟩
  · exact ⟨_, rfl, rfl⟩
  · exact ⟨_, rfl, rfl⟩
  · exact ⟨_, rfl, rfl⟩
theorem o_at (a1 a2 a3 : Int32) : OkE (F_X8_at a1 a2 a3) (F_X9_at a1 a2 a3) := by
  intro μ ν h
  obtain ⟨μ1, ν1, e1, pc, fa, e2, pm, lr, fb, t11, hI⟩ := both h
  have hV := TdV h
  unfold F_X8_at F_X9_at
  rcases chk (x := a1) (y := 12) (n := 12) (hi := 11) (by omega) rfl rfl with ⟨w, hw, rfl, c1, c2⟩ | ⟨c1, c2⟩
  · simp (config := { implicitDefEqProofs := false }) (disch := omega) only [c1, isW c2, bindS, i10, if_false, e2, size1 h]
    rcases chT (μ := μ) (x := a2) hV with ⟨k, hk, rfl, c3, c4⟩ | ⟨c3, c4⟩
    · simp (config := { implicitDefEqProofs := false }) (disch := omega) only [c3, c4 ν1 pm.1, bindS, i10, if_false]
      rcases chk (x := a3) (y := 5) (n := 5) (hi := 4) (by omega) rfl rfl with ⟨q, hq, rfl, c5, c6⟩ | ⟨c5, c6⟩
      · obtain ⟨s, e3, f1, ys⟩ := (lr μ1 pc).1 w hw
        obtain ⟨v, e4, e5⟩ := tell2 hw hk hV hq ys
        simp (config := { implicitDefEqProofs := false }) (disch := omega) only [c5, c6, bindS, i10, if_false, rAt e1, n_ar, e3, e4, e5]
        exact E2_some ⟨rfl, bkC h fa fb f1 pm⟩
      · simp (config := { implicitDefEqProofs := false }) (disch := omega) only [c5, c6, bindS, if_true]
        exact oret hI
    · simp (config := { implicitDefEqProofs := false }) (disch := omega) only [c3, c4 ν1 pm.1, bindS, if_true]
      exact oret hI
  · simp (config := { implicitDefEqProofs := false }) (disch := omega) only [c1, isW0 c2, bindS, if_true, e2]
    exact oret hI
def jdV (P : Pl) (w : Nat) : Int32 := if nI (P.1 1) ≤ P.2 6 w then -1 else P.2 6 w
theorem judC {P : Pl} {w : Nat} {s : Mm} (hw : w < 12) (pc : PC P s) : F_X2_judgeIn (nI w) s = some (jdV P w, s) := by
  unfold F_X2_judgeIn jdV
  simp (config := { implicitDefEqProofs := false }) (disch := omega) only [gi_in, n_c, pc.2.2.2.2.2.2.1, pc.2.1]
  by_cases c : nI (P.1 1) ≤ P.2 6 w
  · rw [if_pos c, if_pos c]
  · rw [if_neg c, if_neg c]
theorem showM {P : Pl} {w : Nat} {t : Mm} {x : Int32} (hV : PV P) (hw : w < 12) (pm : PM P t) : F_X9_showOf (nI w) x t = some ((if x = 1 then nI (cn (fun k => t.1 21 (10 * w + k)) (P.1 0)) else jdV P w), t) := by
  have q1 := hV.1
  have q2 := hV.2.1
  obtain ⟨j, hj, ej⟩ := hV.2.2.2.2.2.2.1 w hw
  unfold F_X9_showOf
  refine For1 (fun n i y => L_X9_showOf_5 n (nI w) x y (nI i) t) (P.1 0) FUEL (fun i y => y = nI (cn (fun k => t.1 21 (10 * w + k)) i)) (fun o => o = some ((if x = 1 then nI (cn (fun k => t.1 21 (10 * w + k)) (P.1 0)) else jdV P w), t)) ?_ ?_ 0 0 FUEL rfl (by omega) rfl (by rw [FUELe]; omega)
  · rintro n y _ rfl
    unfold jdV
    simp (config := { implicitDefEqProofs := false }) (disch := omega) only [L_X9_showOf_5_s, pm.1, n_le, Nat.le_refl, if_true, gi_in, n_c, pm.2.2.2.2.2.2.1, ej, isJ (n := P.1 1) _ _ pm.2.1, bindS]
    by_cases c : x = 1
    · rw [if_pos c, if_pos c]
    · rw [if_neg c, if_neg c]
      by_cases d : j < P.1 1
      · simp only [if_pos d, i10, if_false]; rw [if_neg (by omega)]
      · simp only [if_neg d, if_true]; rw [if_pos (by omega)]
  · rintro n i y _ hi rfl ih
    simp (config := { implicitDefEqProofs := false }) (disch := omega) only [L_X9_showOf_5_s, pm.1, n_le, if_neg, n_ml, n_aa, gi_in, n_c, F_X9_showOf_36, n_ar]
    apply ih
    rw [cn]
    by_cases c : t.1 21 (10 * w + i) = -1
    · rw [if_pos c, if_pos c, Int32.add_zero, Nat.add_zero]
    · rw [if_neg c, if_neg c, n_ar]
theorem o_show (a1 a2 : Int32) : OkE (F_X8_show a1 a2) (F_X9_show a1 a2) := by
  intro μ ν h
  obtain ⟨μ1, ν1, e1, pc, fa, e2, pm, lr, fb, t11, hI⟩ := both h
  have hV := TdV h
  unfold F_X8_show F_X9_show
  rcases chk (x := a1) (y := 12) (n := 12) (hi := 11) (by omega) rfl rfl with ⟨w, hw, rfl, c1, c2⟩ | ⟨c1, c2⟩
  · simp (config := { implicitDefEqProofs := false }) (disch := omega) only [c1, isW c2, bindS, i10, if_false, e2]
    rcases chk (x := a2) (y := 2) (n := 2) (hi := 1) (by omega) rfl rfl with ⟨p, hp, rfl, c3, c4⟩ | ⟨c3, c4⟩
    · obtain ⟨s, e3, f1, ys⟩ := (lr μ1 pc).1 w hw
      simp (config := { implicitDefEqProofs := false }) (disch := omega) only [c3, is2 c4, bindS, i10, if_false, rAt e1, n_ar, e3, showM hV hw pm, judC hw (PC_fr f1 pc), n_eqr]
      have e4 : p = 0 ∨ p = 1 := by omega
      rcases e4 with e | e <;> subst e
      · rw [if_pos rfl, if_neg (by omega)]; exact E2_some ⟨rfl, bkC h fa fb f1 pm⟩
      · rw [if_neg (by omega), if_pos rfl]; exact E2_some ⟨ys.2.1, bkC h fa fb f1 pm⟩
    · simp (config := { implicitDefEqProofs := false }) (disch := omega) only [c3, is20 c4, bindS, if_true]
      exact oret hI
  · simp (config := { implicitDefEqProofs := false }) (disch := omega) only [c1, isW0 c2, bindS, if_true, e2]
    exact oret hI
theorem full {μ ν : Mm} (h : Iv μ ν) : ∃ μ1 s ν1, F_X8_planAsTold μ = some μ1 ∧ PC (Td μ) μ1 ∧ FrA μ μ1 ∧ F_X8_runAsTold 12 μ = some s ∧ F_X9_find ν = some ν1 ∧ PC (Td μ) s ∧ PM (Td μ) ν1 ∧ RY (Td μ) 12 s ν1 ∧ FrA μ s ∧ FrB ν ν1 ∧ Iv μ ν1 := by
  obtain ⟨μ1, ν1, e1, pc, fa, e2, pm, lr, fb, t11, hI⟩ := both h
  obtain ⟨s, e3, f1, ry⟩ := (lr μ1 pc).2
  exact ⟨μ1, s, ν1, e1, pc, fa, by rw [rAt e1]; exact e3, e2, PC_fr f1 pc, pm, ry, FrA_tr fa (FrC_A f1), fb, hI⟩
theorem o_owned (a1 : Int32) : OkE (F_X8_owned a1) (F_X9_owned a1) := by
  intro μ ν h
  obtain ⟨μ1, s, ν1, -, -, -, e3, e2, pc, pm, ry, fa, fb, hI⟩ := full h
  unfold F_X8_owned F_X9_owned
  rcases chk (x := a1) (y := 6) (n := 6) (hi := 5) (by omega) rfl rfl with ⟨w, hw, rfl, c1, c2⟩ | ⟨c1, c2⟩
  · obtain ⟨⟨v, sv⟩, ⟨v', tv⟩, e4, e5, g1, g2, g3, g4⟩ := own2 (TdV h) (Nat.le_refl _) pc pm ry (nI w)
    simp only at g1 g2 g3 g4
    subst g1 g2 g3
    simp (config := { implicitDefEqProofs := false }) (disch := omega) only [c1, c2, bindS, i10, if_false, e2, e3, e4, e5]
    exact E2_some ⟨rfl, Iv_back h fa.1 fb (PM_O pm)⟩
  · simp (config := { implicitDefEqProofs := false }) (disch := omega) only [c1, c2, bindS, if_true, e2]
    exact oret hI
theorem o_champion : OkE F_X8_champion F_X9_champion := by
  intro μ ν h
  obtain ⟨μ1, s, ν1, -, -, -, e3, e2, pc, pm, ry, fa, fb, hI⟩ := full h
  unfold F_X8_champion F_X9_champion
  rw [e3, bindS, e2, bindS, bindPair]
  refine E2_mono (champ2 (TdV h) pc pm ry) ?_
  rintro ⟨q, x⟩ ⟨r, y⟩ ⟨h1, h2, h3⟩
  simp only at h1 h2 h3
  subst h3
  exact ⟨h1, Iv_back h (FrA_tr fa h2).1 fb (PM_O pm)⟩
theorem o_best : OkE F_X8_best F_X9_best := by
  intro μ ν h
  obtain ⟨μ1, s, ν1, -, -, -, e3, e2, pc, pm, ry, fa, fb, hI⟩ := full h
  unfold F_X8_best F_X9_best
  rw [e3, bindS, e2, bindS, bindPair, bindPair, pc.1]
  refine E2_mono (most2 (TdV h) pm ry) ?_
  rintro ⟨q, x⟩ ⟨r, y⟩ ⟨h1, h2, h3, -⟩
  simp only at h1 h2 h3
  subst h1 h2
  exact ⟨h3, Iv_back h fa.1 fb (PM_O pm)⟩
theorem o_left (a1 : Int32) : OkE (F_X8_left a1) (F_X9_left a1) := by
  intro μ ν h
  obtain ⟨μ1, s, ν1, -, -, -, e3, e2, pc, pm, ry, fa, fb, hI⟩ := full h
  unfold F_X8_left F_X9_left
  rcases chk (x := a1) (y := 2) (n := 2) (hi := 1) (by omega) rfl rfl with ⟨w, hw, rfl, c1, c2⟩ | ⟨c1, c2⟩
  · simp (config := { implicitDefEqProofs := false }) (disch := omega) only [c1, is2 c2, bindS, i10, if_false, e2, e3, n_eqr]
    have e4 : w = 0 ∨ w = 1 := by omega
    rcases e4 with e | e <;> subst e
    · rw [if_pos rfl, show (nI 0 : Int32) = 0 from rfl, left0 (TdV h) pm.1 ry, bindS]
      exact E2_some ⟨rfl, Iv_back h fa.1 fb (PM_O pm)⟩
    · rw [if_neg (by omega), bindPair, bindPair, show (nI 1 : Int32) = 1 from rfl, pc.1]
      refine E2_mono (left1 (TdV h) pm.1 ry) ?_
      rintro ⟨q, x⟩ ⟨r, y⟩ ⟨h1, h2, h3⟩
      simp only at h1 h2 h3
      subst h1 h2
      exact ⟨h3, Iv_back h fa.1 fb (PM_O pm)⟩
  · simp (config := { implicitDefEqProofs := false }) (disch := omega) only [c1, is20 c2, bindS, if_true, e2]
    exact oret hI
