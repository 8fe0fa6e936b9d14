/-! events and sights -/
theorem IvE {μ ν μ' ν' : Mm} {n : Nat} (h : Iv μ ν) (a : ∀ k, k < 20 → k ≠ 7 → k ≠ 8 → μ'.1 k = μ.1 k) (b : ∀ k, k ≠ 0 → k ≠ 10 → ν'.1 k = ν.1 k) (c : ∀ i, i ≠ 13 → ν'.1 0 i = ν.1 0 i) (t : evI n μ' ν') : Iv μ' ν' := by
  obtain ⟨⟨n0, h0⟩, ⟨n1, h1⟩, ⟨n2, h2⟩, ⟨n3, h3⟩, ⟨n4, h4⟩, sh, la, su⟩ := h
  refine ⟨⟨n0, ?_⟩, ⟨n1, ?_⟩, ⟨n2, ?_⟩, ⟨n, t⟩, ⟨n4, ?_⟩, ?_, ?_, ?_⟩
  · unfold tx1 at *; rw [a 1 (by omega) (by omega) (by omega), a 2 (by omega) (by omega) (by omega), b 5 (by omega) (by omega), b 6 (by omega) (by omega)]; exact h0
  · unfold tx3 at *; rw [a 3 (by omega) (by omega) (by omega), a 4 (by omega) (by omega) (by omega), b 5 (by omega) (by omega), b 6 (by omega) (by omega)]; exact h1
  · unfold tx5 at *; rw [a 5 (by omega) (by omega) (by omega), a 6 (by omega) (by omega) (by omega), b 5 (by omega) (by omega), b 6 (by omega) (by omega)]; exact h2
  · unfold siI at *; rw [a 9 (by omega) (by omega) (by omega), a 10 (by omega) (by omega) (by omega), c 33 (by omega), b 23 (by omega) (by omega)]; exact h4
  · intro s hs
    rw [a _ (by omega) (by omega) (by omega), a _ (by omega) (by omega) (by omega), b 1 (by omega) (by omega), b 2 (by omega) (by omega), b 3 (by omega) (by omega)]
    exact sh s hs
  · rw [a 0 (by omega) (by omega) (by omega), c 4 (by omega)]; exact la
  · unfold suI at *; rw [c 15 (by omega), c 16 (by omega), c 18 (by omega)]; exact su
theorem IvS {μ ν μ' ν' : Mm} {n : Nat} (h : Iv μ ν) (a : ∀ k, k < 20 → k ≠ 9 → k ≠ 10 → μ'.1 k = μ.1 k) (b : ∀ k, k ≠ 0 → k ≠ 23 → ν'.1 k = ν.1 k) (c : ∀ i, i ≠ 33 → ν'.1 0 i = ν.1 0 i) (t : siI n μ' ν') : Iv μ' ν' := by
  obtain ⟨⟨n0, h0⟩, ⟨n1, h1⟩, ⟨n2, h2⟩, ⟨n3, h3⟩, ⟨n4, h4⟩, sh, la, su⟩ := h
  refine ⟨⟨n0, ?_⟩, ⟨n1, ?_⟩, ⟨n2, ?_⟩, ⟨n3, ?_⟩, ⟨n, t⟩, ?_, ?_, ?_⟩
  · unfold tx1 at *; rw [a 1 (by omega) (by omega) (by omega), a 2 (by omega) (by omega) (by omega), b 5 (by omega) (by omega), b 6 (by omega) (by omega)]; exact h0
  · unfold tx3 at *; rw [a 3 (by omega) (by omega) (by omega), a 4 (by omega) (by omega) (by omega), b 5 (by omega) (by omega), b 6 (by omega) (by omega)]; exact h1
  · unfold tx5 at *; rw [a 5 (by omega) (by omega) (by omega), a 6 (by omega) (by omega) (by omega), b 5 (by omega) (by omega), b 6 (by omega) (by omega)]; exact h2
  · unfold evI at *; rw [a 7 (by omega) (by omega) (by omega), a 8 (by omega) (by omega) (by omega), c 13 (by omega), b 10 (by omega) (by omega)]; exact h3
  · intro s hs
    rw [a _ (by omega) (by omega) (by omega), a _ (by omega) (by omega) (by omega), b 1 (by omega) (by omega), b 2 (by omega) (by omega), b 3 (by omega) (by omega)]
    exact sh s hs
  · rw [a 0 (by omega) (by omega) (by omega), c 4 (by omega)]; exact la
  · unfold suI at *; rw [c 15 (by omega), c 16 (by omega), c 18 (by omega)]; exact su
theorem u3 {f : Nat → Int32} {n : Nat} {a b c : Int32} (i : Nat) : upd (upd (upd f (3 * n) a) (3 * n + 1) b) (3 * n + 2) c i = if i = 3 * n + 2 then c else if i = 3 * n + 1 then b else if i = 3 * n then a else f i := by
  rw [u_if, u_if, u_if]
theorem add7 {μ : Mm} {n : Nat} {a b c : Int32} (hn : n < 8) (h : μ.1 7 1 = nI n) : F_X1_add_7 a b c μ = some (1, wI (wI (wI (wI μ 8 (3 * n) a) 8 (3 * n + 1) b) 8 (3 * n + 2) c) 7 1 (nI (n + 1))) := by
  unfold F_X1_add_7
  simp (config := { implicitDefEqProofs := false }) (disch := omega) only [h, n_ltr, if_pos, n_ml, gi_in, n_c, wI_ne, n_ar]
theorem add9 {μ : Mm} {n : Nat} {a b c : Int32} (hn : n < 8) (h : μ.1 9 1 = nI n) : F_X1_add_9 a b c μ = some (1, wI (wI (wI (wI μ 10 (3 * n) a) 10 (3 * n + 1) b) 10 (3 * n + 2) c) 9 1 (nI (n + 1))) := by
  unfold F_X1_add_9
  simp (config := { implicitDefEqProofs := false }) (disch := omega) only [h, n_ltr, if_pos, n_ml, gi_in, n_c, wI_ne, n_ar]
theorem ev2 {μ ν : Mm} (h : Iv μ ν) (a b c : Int32) :
    (∃ μ' ν' m, F_X8_mayHappen a b c μ = some (1, μ) ∧ F_X1_add_7 a b c μ = some (1, μ') ∧ F_X9_event a b c ν = some (nI (m + 1), ν') ∧ μ'.1 7 1 = nI (m + 1) ∧ m < 8 ∧ Iv μ' ν') ∨
    (F_X8_mayHappen a b c μ = some (1, μ) ∧ F_X1_add_7 a b c μ = some (0, μ) ∧ F_X9_event a b c ν = some (-4, ν)) ∨ (F_X8_mayHappen a b c μ = some (0, μ) ∧ F_X9_event a b c ν = some (-2, ν)) := by
  unfold F_X8_mayHappen F_X9_event F_X9_isWeek
  rcases chk (x := a) (y := 3) (n := 3) (hi := 2) (by omega) rfl rfl with ⟨ka, ha, rfl, c1, c2⟩ | ⟨c1, c2⟩
  · simp (config := { implicitDefEqProofs := false }) (disch := omega) only [c1, c2, bindS, i10, if_false]
    rcases chk (x := b) (y := 12) (n := 12) (hi := 11) (by omega) rfl rfl with ⟨kb, hb, rfl, c3, c4⟩ | ⟨c3, c4⟩
    · simp (config := { implicitDefEqProofs := false }) (disch := omega) only [c3, c4, bindS, gb_1, i10, if_false]
      rcases chk (x := c) (y := 10) (n := 10) (hi := 9) (by omega) rfl rfl with ⟨kc, hc, rfl, c5, c6⟩ | ⟨c5, c6⟩
      · simp (config := { implicitDefEqProofs := false }) (disch := omega) only [c5, c6, bindS, i10, if_false]
        obtain ⟨n, e⟩ := h.2.2.2.1
        have l := e.1
        by_cases z : n = 8
        · right; left
          refine ⟨trivial, ?_, ?_⟩
          · unfold F_X1_add_7
            rw [e.2.1, if_neg (by rw [n_ltr (by omega) (by omega)]; omega)]
          · rw [e.2.2.1, if_pos (by rw [z]; rfl)]
        · left
          refine ⟨_, wI (wI (wI (wI ν 10 (3 * n) (nI ka)) 10 (3 * n + 1) (nI kb)) 10 (3 * n + 2) (nI kc)) 0 13 (nI (n + 1)), n, trivial, add7 (by omega) e.2.1, ?_, rfl, by omega, ?_⟩
          · rw [e.2.2.1, if_neg (by rw [n_eqr (by omega) (by omega)]; exact z)]
            simp (config := { implicitDefEqProofs := false }) (disch := omega) only [n_ml, gi_in, n_c, wI_ne, e.2.2.1, n_ar]
            rfl
          · refine IvE (n := n + 1) h ?_ ?_ ?_ ⟨by omega, rfl, rfl, ?_, ?_⟩
            · intro k h1 h2 h3; rw [wI_ne h2, wI_ne h3, wI_ne h3, wI_ne h3]
            · intro k h1 h2; rw [wI_ne h1, wI_ne h2, wI_ne h2, wI_ne h2]
            · intro i hi; rw [wI_eq, u_ne hi, wI_ne (by omega), wI_ne (by omega), wI_ne (by omega)]
            · intro i hi
              show upd (upd (upd (μ.1 8) (3 * n) _) (3 * n + 1) _) (3 * n + 2) _ i = upd (upd (upd (ν.1 10) (3 * n) _) (3 * n + 1) _) (3 * n + 2) _ i
              rw [u3, u3]
              by_cases z1 : i = 3 * n + 2
              · rw [if_pos z1, if_pos z1]
              · rw [if_neg z1, if_neg z1]
                by_cases z2 : i = 3 * n + 1
                · rw [if_pos z2, if_pos z2]
                · rw [if_neg z2, if_neg z2]
                  by_cases z3 : i = 3 * n
                  · rw [if_pos z3, if_pos z3]
                  · rw [if_neg z3, if_neg z3]; exact e.2.2.2.1 i (by omega)
            · intro k hk
              show Rg 9 (upd (upd (upd (μ.1 8) (3 * n) _) (3 * n + 1) _) (3 * n + 2) _ (3 * k + 2))
              rw [u3]
              by_cases z1 : k = n
              · rw [if_pos (by omega)]; exact ⟨kc, by omega, rfl⟩
              · rw [if_neg (by omega), if_neg (by omega), if_neg (by omega)]; exact e.2.2.2.2 k (by omega)
      · simp (config := { implicitDefEqProofs := false }) (disch := omega) only [c5, c6, bindS, if_true]
        exact Or.inr (Or.inr ⟨trivial, trivial⟩)
    · simp (config := { implicitDefEqProofs := false }) (disch := omega) only [c3, c4, bindS, gb_0, if_true]
      exact Or.inr (Or.inr ⟨trivial, trivial⟩)
  · simp (config := { implicitDefEqProofs := false }) (disch := omega) only [c1, c2, bindS, if_true]
    exact Or.inr (Or.inr ⟨trivial, trivial⟩)
theorem o_event (a1 a2 a3 : Int32) : OkE (F_X8_event a1 a2 a3) (F_X9_event a1 a2 a3) := by
  intro μ ν h
  unfold F_X8_event
  rcases ev2 h a1 a2 a3 with ⟨μ', ν', m, e1, e2, e3, e4, e5, hI⟩ | ⟨e1, e2, e3⟩ | ⟨e1, e2⟩
  · simp (config := { implicitDefEqProofs := false }) (disch := omega) only [e1, e2, e3, bindS, i10, if_false, e4]
    exact E2_some ⟨rfl, hI⟩
  · simp (config := { implicitDefEqProofs := false }) (disch := omega) only [e1, e2, e3, bindS, i10, if_false, if_true]
    exact oret h
  · simp (config := { implicitDefEqProofs := false }) (disch := omega) only [e1, e2, bindS, if_true]
    exact oret h
theorem o_back : OkE F_X8_back F_X9_back := by
  intro μ ν h
  obtain ⟨n, e⟩ := h.2.2.2.1
  have l := e.1
  unfold F_X8_back F_X9_back
  simp (config := { implicitDefEqProofs := false }) (disch := omega) only [e.2.1, e.2.2.1, n_eqr]
  by_cases z : n = 0
  · rw [if_pos z, if_pos z]; exact oret h
  · rw [if_neg z, if_neg z]
    simp (config := { implicitDefEqProofs := false }) (disch := omega) only [n_sr]
    refine E2_some ⟨by rw [wI_eq, wI_eq, u_eq, u_eq], ?_⟩
    refine IvE (n := n - 1) h ?_ ?_ ?_ ⟨by omega, rfl, rfl, ?_, ?_⟩
    · intro k h1 h2 h3; rw [wI_ne h2]
    · intro k h1 h2; rw [wI_ne h1]
    · intro i hi; rw [wI_eq, u_ne hi]
    · intro i hi; exact e.2.2.2.1 i (by omega)
    · intro k hk; exact e.2.2.2.2 k (by omega)
theorem o_forget : OkE F_X8_forget F_X9_forget := by
  intro μ ν h
  obtain ⟨n, e⟩ := h.2.2.2.2.1
  unfold F_X8_forget F_X9_forget
  refine E2_some ⟨by rw [e.2.1, e.2.2.1], ?_⟩
  refine IvS (n := 0) h ?_ ?_ ?_ ⟨by omega, rfl, rfl, ?_, ?_⟩
  · intro k h1 h2 h3; rw [wI_ne h2]
  · intro k h1 h2; rw [wI_ne h1]
  · intro i hi; rw [wI_eq, u_ne hi]
  · intro i hi; omega
  · intro k hk; omega
theorem o_seen (a b c : Int32) : OkE (F_X8_seen a b c) (F_X9_seen a b c) := by
  intro μ ν h
  unfold F_X8_seen F_X9_seen F_X9_isWeek
  rcases chk (x := a) (y := 12) (n := 12) (hi := 11) (by omega) rfl rfl with ⟨ka, ha, rfl, c1, c2⟩ | ⟨c1, c2⟩
  · simp (config := { implicitDefEqProofs := false }) (disch := omega) only [c1, c2, bindS, gb_1, i10, if_false]
    rcases chk (x := b) (y := 10) (n := 10) (hi := 9) (by omega) rfl rfl with ⟨kb, hb, rfl, c3, c4⟩ | ⟨c3, c4⟩
    · simp (config := { implicitDefEqProofs := false }) (disch := omega) only [c3, c4, bindS, i10, if_false]
      rcases chk (x := c) (y := 4) (n := 4) (hi := 3) (by omega) rfl rfl with ⟨kc, hc, rfl, c5, c6⟩ | ⟨c5, c6⟩
      · simp (config := { implicitDefEqProofs := false }) (disch := omega) only [c5, c6, bindS, i10, if_false]
        obtain ⟨n, e⟩ := h.2.2.2.2.1
        have l := e.1
        by_cases z : n = 8
        · have e1 : F_X1_add_9 (nI ka) (nI kb) (nI kc) μ = some (0, μ) := by
            unfold F_X1_add_9
            rw [e.2.1, if_neg (by rw [n_ltr (by omega) (by omega)]; omega)]
          rw [e1, bindS, e.2.2.1, if_pos (show nI n = 8 by rw [z]; rfl)]
          simp only [if_true]
          exact oret h
        · rw [add9 (n := n) (by omega) e.2.1, bindS]
          have nz : ¬ nI n = 8 := by rw [n_eqr (by omega) (by omega)]; exact z
          simp (config := { implicitDefEqProofs := false }) (disch := omega) only [i10, if_false, e.2.2.1, if_neg nz, n_ml, gi_in, n_c, wI_ne, n_ar]
          refine E2_some ⟨by rw [wI_eq, wI_eq, u_eq, u_eq], ?_⟩
          refine IvS (n := n + 1) h ?_ ?_ ?_ ⟨by omega, rfl, rfl, ?_, ?_⟩
          · intro k h1 h2 h3; rw [wI_ne h2, wI_ne h3, wI_ne h3, wI_ne h3]
          · intro k h1 h2; rw [wI_ne h1, wI_ne h2, wI_ne h2, wI_ne h2]
          · intro i hi; rw [wI_eq, u_ne hi, wI_ne (by omega), wI_ne (by omega), wI_ne (by omega)]
          · intro i hi
            show upd (upd (upd (μ.1 10) (3 * n) _) (3 * n + 1) _) (3 * n + 2) _ i = upd (upd (upd (ν.1 23) (3 * n) _) (3 * n + 1) _) (3 * n + 2) _ i
            rw [u3, u3]
            by_cases z1 : i = 3 * n + 2
            · rw [if_pos z1, if_pos z1]
            · rw [if_neg z1, if_neg z1]
              by_cases z2 : i = 3 * n + 1
              · rw [if_pos z2, if_pos z2]
              · rw [if_neg z2, if_neg z2]
                by_cases z3 : i = 3 * n
                · rw [if_pos z3, if_pos z3]
                · rw [if_neg z3, if_neg z3]; exact e.2.2.2.1 i (by omega)
          · intro k hk
            show Rg 11 (upd (upd (upd (μ.1 10) (3 * n) _) (3 * n + 1) _) (3 * n + 2) _ (3 * k)) ∧ Rg 9 (upd (upd (upd (μ.1 10) (3 * n) _) (3 * n + 1) _) (3 * n + 2) _ (3 * k + 1)) ∧ Rg 3 (upd (upd (upd (μ.1 10) (3 * n) _) (3 * n + 1) _) (3 * n + 2) _ (3 * k + 2))
            rw [u3, u3, u3]
            by_cases z1 : k = n
            · subst z1
              rw [if_neg (by omega), if_neg (by omega), if_pos rfl, if_neg (by omega), if_pos rfl, if_pos rfl]
              exact ⟨⟨ka, by omega, rfl⟩, ⟨kb, by omega, rfl⟩, ⟨kc, by omega, rfl⟩⟩
            · rw [if_neg (by omega), if_neg (by omega), if_neg (by omega), if_neg (by omega), if_neg (by omega), if_neg (by omega), if_neg (by omega), if_neg (by omega), if_neg (by omega)]
              exact e.2.2.2.2 k (by omega)
      · simp (config := { implicitDefEqProofs := false }) (disch := omega) only [c5, c6, bindS, if_true]
        exact oret h
    · simp (config := { implicitDefEqProofs := false }) (disch := omega) only [c3, c4, bindS, if_true]
      exact oret h
  · simp (config := { implicitDefEqProofs := false }) (disch := omega) only [c1, c2, bindS, gb_0, if_true]
    exact oret h
