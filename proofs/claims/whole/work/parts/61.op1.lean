/-! the calls: texts, events, sights -/
theorem gb_1 {α : Type} (k : Option α) : gb 1 k = k := by unfold gb; rw [if_pos (Or.inr rfl)]
theorem gb_0 {α : Type} (k : Option α) : gb 0 k = k := by unfold gb; rw [if_pos (Or.inl rfl)]
theorem i10 : ((1 : Int32) = 0) = False := by decide
theorem chk {x y : Int32} {n : Nat} {hi : Int64} (hn : n < 100000) (hy : y = nI n) (hh : hi.toInt = (n : Int) - 1) :
    (∃ k, k < n ∧ x = nI k ∧ (∀ μ, F_X8_isIn x y μ = some (1, μ)) ∧ (∀ ν, F_X9_in x.toInt64 0 hi ν = some (1, ν))) ∨ ((∀ μ, F_X8_isIn x y μ = some (0, μ)) ∧ (∀ ν, F_X9_in x.toInt64 0 hi ν = some (0, ν))) := by
  subst hy
  have z0 : (0 : Int64).toInt = 0 := rfl
  by_cases c : x < 0
  · right
    refine ⟨fun μ => ?_, fun ν => ?_⟩
    · unfold F_X8_isIn; rw [if_pos c]
    · rw [in_gen, if_neg]
      rw [Int32.lt_iff_toInt_lt] at c
      have : (0 : Int32).toInt = 0 := rfl
      omega
  · obtain ⟨k, hk, rfl⟩ := nI_of c
    by_cases d : k < n
    · left
      refine ⟨k, d, rfl, fun μ => ?_, fun ν => ?_⟩
      · unfold F_X8_isIn; rw [if_neg c, if_neg (by rw [n_le (by omega) (by omega)]; omega)]
      · rw [in_gen, if_pos]
        rw [nI_toInt hk]; omega
    · right
      refine ⟨fun μ => ?_, fun ν => ?_⟩
      · unfold F_X8_isIn; rw [if_neg c, if_pos (by rw [n_le (by omega) (by omega)]; omega)]
      · rw [in_gen, if_neg]
        rw [nI_toInt hk]; omega
theorem hiN {n : Nat} (h : n < 100000) : ((nI n - 1).toInt64).toInt = (n : Int) - 1 := by
  rw [Int32.toInt_toInt64, show (nI n - 1 : Int32) = nI n - nI 1 from rfl, pk_sub_toInt (by omega) (by omega)]; rfl
def OkE (f g : Mm → Option (Int32 × Mm)) : Prop := ∀ μ ν, Iv μ ν → E2 (f μ) (g ν) (fun q r => q.1 = r.1 ∧ Iv q.2 r.2)
theorem OkE_I {f g : Mm → Option (Int32 × Mm)} (h : OkE f g) : OkI Iv f g := fun μ ν hI => by
  obtain ⟨q, r, h1, h2, h3⟩ := h μ ν hI; exact ⟨q, r, h1, h2, h3⟩
theorem oret {μ ν : Mm} {x : Int32} (h : Iv μ ν) : E2 (some (x, μ)) (some (x, ν)) (fun q r => q.1 = r.1 ∧ Iv q.2 r.2) := E2_some ⟨rfl, h⟩
theorem IvT {c d : Nat} {μ ν ν' : Mm} (h : Iv μ ν) (f : FrT c d ν ν') (hc : c = 7 ∨ c = 8 ∨ c = 9) (hd : d < 12) (hd4 : d ≠ 4) : Iv μ ν' :=
  Iv_back h (fun _ _ => rfl) (FrT_B f (by omega) hd4) (FrT_O f hc hd (IvO h))
theorem o_thing (a1 a2 : Int32) : OkE (F_X8_thing a1 a2) (F_X9_thing a1 a2) := by
  intro μ ν h
  obtain ⟨ν', e1, p1, f1⟩ := rT h (FrB_rf ν)
  have hI := IvT h f1 (by omega) (by omega) (by omega)
  have q1 := (TdV h).1
  unfold F_X8_thing F_X9_thing F_X9_isThing
  rw [size1 h, bindS, e1, bindS, p1.1]
  rcases chk (x := a1) (y := nI ((Td μ).1 0)) (n := (Td μ).1 0) (by omega) rfl (hiN (by omega)) with ⟨k, hk, rfl, c1, c2⟩ | ⟨c1, c2⟩
  · simp (config := { implicitDefEqProofs := false }) (disch := omega) only [c1, c2, bindS, gb_1, i10, if_false]
    rcases chk (x := a2) (y := 3) (n := 3) (hi := 2) (by omega) rfl rfl with ⟨q, hq, rfl, c3, c4⟩ | ⟨c3, c4⟩
    · obtain ⟨⟨n, a⟩, -⟩ := h
      have t0 := (Td0 a).2.2 k q hk hq
      have l := a.1
      simp (config := { implicitDefEqProofs := false }) (disch := omega) only [c3, c4, bindS, i10, if_false, part1 hq (show 4 * k + q < 39 by omega) t0.2.2, n_ml, n_aa, gi_in, n_c]
      refine E2_some ⟨?_, hI⟩
      have z := p1.2 k hk
      rw [Tr0, Tr1, Tr2] at z
      have e4 : q = 0 ∨ q = 1 ∨ q = 2 := by omega
      rcases e4 with e | e | e <;> subst e
      · exact z.1.symm
      · exact z.2.1.symm
      · exact z.2.2.symm
    · simp (config := { implicitDefEqProofs := false }) (disch := omega) only [c3, c4, bindS, if_true]
      exact oret hI
  · simp (config := { implicitDefEqProofs := false }) (disch := omega) only [c1, c2, bindS, gb_0, if_true]
    exact oret hI
theorem o_judge (a1 a2 : Int32) : OkE (F_X8_judge a1 a2) (F_X9_judge a1 a2) := by
  intro μ ν h
  obtain ⟨ν', e1, p1, f1⟩ := rJ h (FrB_rf ν)
  have hI := IvT h f1 (by omega) (by omega) (by omega)
  have q1 := (TdV h).2.1
  unfold F_X8_judge F_X9_judge F_X9_isJudge
  rw [size3 h, bindS, e1, bindS, p1.1]
  rcases chk (x := a1) (y := nI ((Td μ).1 1)) (n := (Td μ).1 1) (by omega) rfl (hiN (by omega)) with ⟨k, hk, rfl, c1, c2⟩ | ⟨c1, c2⟩
  · simp (config := { implicitDefEqProofs := false }) (disch := omega) only [c1, c2, bindS, gb_1, i10, if_false]
    rcases chk (x := a2) (y := 3) (n := 3) (hi := 2) (by omega) rfl rfl with ⟨q, hq, rfl, c3, c4⟩ | ⟨c3, c4⟩
    · obtain ⟨-, ⟨n, a⟩, -⟩ := h
      have t0 := (Td1 a).2.2 k q hk hq
      have l := a.1
      simp (config := { implicitDefEqProofs := false }) (disch := omega) only [c3, c4, bindS, i10, if_false, part3 hq (show 4 * k + q < 15 by omega) t0.2.2, n_ml, n_aa, gi_in, n_c]
      refine E2_some ⟨?_, hI⟩
      have z := p1.2 k hk
      rw [Tr3, Tr4, Tr5] at z
      have e4 : q = 0 ∨ q = 1 ∨ q = 2 := by omega
      rcases e4 with e | e | e <;> subst e
      · exact z.1.symm
      · exact z.2.1.symm
      · exact z.2.2.symm
    · simp (config := { implicitDefEqProofs := false }) (disch := omega) only [c3, c4, bindS, if_true]
      exact oret hI
  · simp (config := { implicitDefEqProofs := false }) (disch := omega) only [c1, c2, bindS, gb_0, if_true]
    exact oret hI
theorem txt (x : Int32) : (x = 0 ∧ (∀ μ, F_X8_textOf x μ = some (.ref 1, μ)) ∧ (∀ ν, F_X9_isText x ν = some (1, ν))) ∨ (x = 1 ∧ (∀ μ, F_X8_textOf x μ = some (.ref 3, μ)) ∧ (∀ ν, F_X9_isText x ν = some (1, ν))) ∨ (x = 2 ∧ (∀ μ, F_X8_textOf x μ = some (.ref 5, μ)) ∧ (∀ ν, F_X9_isText x ν = some (1, ν))) ∨ ((∀ μ, F_X8_textOf x μ = some (.null, μ)) ∧ (∀ ν, F_X9_isText x ν = some (0, ν))) := by
  rcases chk (x := x) (y := 3) (n := 3) (hi := 2) (by omega) rfl rfl with ⟨q, hq, rfl, c3, c4⟩ | ⟨c3, c4⟩
  · have e4 : q = 0 ∨ q = 1 ∨ q = 2 := by omega
    have it : ∀ ν, F_X9_isText (nI q) ν = some (1, ν) := by intro ν; unfold F_X9_isText; rw [c4, bindS, gb_1]
    rcases e4 with e | e | e <;> subst e
    · exact Or.inl ⟨rfl, fun _ => rfl, it⟩
    · exact Or.inr (Or.inl ⟨rfl, fun _ => rfl, it⟩)
    · exact Or.inr (Or.inr (Or.inl ⟨rfl, fun _ => rfl, it⟩))
  · refine Or.inr (Or.inr (Or.inr ⟨?_, ?_⟩))
    · intro μ
      have c := c3 μ
      unfold F_X8_textOf
      have n0 : ¬ x = 0 := by rintro rfl; exact absurd (show (if (0 : Int32) < 0 then (0 : Int32) else if (3 : Int32) ≤ 0 then 0 else 1) = 0 from congrArg Prod.fst (Option.some.inj c)) (by decide)
      have n1 : ¬ x = 1 := by rintro rfl; exact absurd (show (if (1 : Int32) < 0 then (0 : Int32) else if (3 : Int32) ≤ 1 then 0 else 1) = 0 from congrArg Prod.fst (Option.some.inj c)) (by decide)
      have n2 : ¬ x = 2 := by rintro rfl; exact absurd (show (if (2 : Int32) < 0 then (0 : Int32) else if (3 : Int32) ≤ 2 then 0 else 1) = 0 from congrArg Prod.fst (Option.some.inj c)) (by decide)
      rw [if_neg n0, if_neg n1, if_neg n2]
    · intro ν; unfold F_X9_isText; rw [c4, bindS, gb_0]
theorem v31 : (Value.ref 3 = Value.ref 1) = False := by simp
theorem v51 : (Value.ref 5 = Value.ref 1) = False := by simp
theorem v53 : (Value.ref 5 = Value.ref 3) = False := by simp
theorem vn1 : (Value.null = Value.ref 1) = False := by simp
theorem vn3 : (Value.null = Value.ref 3) = False := by simp
theorem vn5 : (Value.null = Value.ref 5) = False := by simp
theorem o_fault (a1 : Int32) : OkE (F_X8_fault a1) (F_X9_fault a1) := by
  intro μ ν h
  unfold F_X8_fault F_X9_fault F_X9_readsText
  rcases txt a1 with ⟨rfl, c1, c2⟩ | ⟨rfl, c1, c2⟩ | ⟨rfl, c1, c2⟩ | ⟨c1, c2⟩
  · obtain ⟨ν', e1, p1, f1⟩ := rT h (FrB_rf ν)
    simp (config := { implicitDefEqProofs := false }) (disch := omega) only [c1, c2, bindS, if_true, i10, if_false, e1]
    exact E2_some ⟨rfl, IvT h f1 (by omega) (by omega) (by omega)⟩
  · obtain ⟨ν', e1, p1, f1⟩ := rJ h (FrB_rf ν)
    simp (config := { implicitDefEqProofs := false }) (disch := omega) only [c1, c2, bindS, if_true, i10, if_false, e1, v31]
    exact E2_some ⟨rfl, IvT h f1 (by omega) (by omega) (by omega)⟩
  · obtain ⟨ν', e1, p1, p2, f1⟩ := rB h (FrB_rf ν)
    simp (config := { implicitDefEqProofs := false }) (disch := omega) only [c1, c2, bindS, if_true, i10, if_false, e1, v51, v53, show ((2 : Int32) = 0) = False from by decide, show ((2 : Int32) = 1) = False from by decide]
    exact E2_some ⟨rfl, IvT h f1 (by omega) (by omega) (by omega)⟩
  · simp (config := { implicitDefEqProofs := false }) (disch := omega) only [c1, c2, bindS, if_true, vn1, vn3, vn5, if_false]
    exact oret h
