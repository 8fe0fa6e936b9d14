/-! typing, wiping, undoing -/
theorem bchk (b : Int32) : (∃ k, k < 256 ∧ b = nI k ∧ ∀ ν, F_X9_in b.toInt64 0 255 ν = some (1, ν)) ∨ ((b < 0 ∨ ¬ b ≤ 255) ∧ ∀ ν, F_X9_in b.toInt64 0 255 ν = some (0, ν)) := by
  rcases chk (x := b) (y := 256) (n := 256) (hi := 255) (by omega) rfl rfl with ⟨k, hk, e, c1, c2⟩ | ⟨c1, c2⟩
  · exact Or.inl ⟨k, hk, e, c2⟩
  · refine Or.inr ⟨?_, c2⟩
    by_cases c : b < 0
    · exact Or.inl c
    · right
      intro d
      obtain ⟨k, hk, rfl⟩ := nI_of c
      rw [n_ler (by omega) (by omega)] at d
      have := c1 (fun _ _ => 0, fun _ _ => 0)
      unfold F_X8_isIn at this
      rw [if_neg c, if_neg (by rw [n_lel (by omega) (by omega)]; omega)] at this
      exact absurd (congrArg Prod.fst (Option.some.inj this)) (by decide)
theorem IvX1 {μ ν μ' ν' : Mm} {n : Nat} (h : Iv μ ν) (a : ∀ k, k < 20 → k ≠ 1 → k ≠ 2 → μ'.1 k = μ.1 k) (b : ∀ k, k ≠ 5 → k ≠ 6 → ν'.1 k = ν.1 k) (c : ∀ i, 40 ≤ i → ν'.1 5 i = ν.1 5 i) (d : ∀ i, i ≠ 0 → ν'.1 6 i = ν.1 6 i) (t : tx1 n μ' ν') : Iv μ' ν' := by
  obtain ⟨⟨n0, h0⟩, ⟨n1, h1⟩, ⟨n2, h2⟩, ⟨n3, h3⟩, ⟨n4, h4⟩, sh, la, su⟩ := h
  refine ⟨⟨n, t⟩, ⟨n1, ?_⟩, ⟨n2, ?_⟩, ⟨n3, ?_⟩, ⟨n4, ?_⟩, ?_, ?_, ?_⟩
  · unfold tx3 at *; rw [a 3 (by omega) (by omega) (by omega), a 4 (by omega) (by omega) (by omega), d 1 (by omega)]; refine ⟨h1.1, h1.2.1, h1.2.2.1, h1.2.2.2.1, fun i hi => ?_, h1.2.2.2.2.2⟩; have l := h1.1; rw [c _ (by omega)]; exact h1.2.2.2.2.1 i hi
  · unfold tx5 at *; rw [a 5 (by omega) (by omega) (by omega), a 6 (by omega) (by omega) (by omega), d 2 (by omega)]; refine ⟨h2.1, h2.2.1, h2.2.2.1, fun i hi => ?_, h2.2.2.2.2⟩; have l := h2.1; rw [c _ (by omega)]; exact h2.2.2.2.1 i hi
  · unfold evI at *; rw [a 7 (by omega) (by omega) (by omega), a 8 (by omega) (by omega) (by omega), b 0 (by omega) (by omega), b 10 (by omega) (by omega)]; exact h3
  · unfold siI at *; rw [a 9 (by omega) (by omega) (by omega), a 10 (by omega) (by omega) (by omega), b 0 (by omega) (by omega), b 23 (by omega) (by omega)]; exact h4
  · intro s hs
    rw [a _ (by omega) (by omega) (by omega), a _ (by omega) (by omega) (by omega), b 1 (by omega) (by omega), b 2 (by omega) (by omega), b 3 (by omega) (by omega)]
    exact sh s hs
  · rw [a 0 (by omega) (by omega) (by omega), b 0 (by omega) (by omega)]; exact la
  · unfold suI at *; rw [b 0 (by omega) (by omega)]; exact su
theorem short1 {μ ν : Mm} {n m : Nat} (h : Iv μ ν) (t : tx1 n μ ν) (hm : m ≤ n) : ∃ μ', F_X5_shorten_1 (nI m) μ = some μ' ∧ μ'.1 1 1 = nI m ∧ Iv μ' (wI ν 6 0 (nI m)) := by
  obtain ⟨l, t1, t2, t3, t4, t5⟩ := t
  obtain ⟨v, e, ft⟩ := ffC1 (μ := wI μ 1 1 (nI m)) (n := m) (by omega) rfl t3
  unfold F_X5_shorten_1
  rw [e, bindS]
  refine ⟨_, rfl, rfl, IvX1 (n := m) h ?_ ?_ ?_ ?_ ⟨by omega, rfl, by rw [wI_eq, u_eq], t3, ?_, ft⟩⟩
  · intro k h1 h2 h3; rw [wI_ne h2, wI_ne h2]
  · intro k h1 h2; rw [wI_ne h2]
  · intro i _; rw [wI_ne (by omega)]
  · intro i hi; rw [wI_eq, u_ne hi]
  · intro i hi; exact t4 i (by omega)
theorem app1 {μ ν : Mm} {n : Nat} {b : Int32} (h : Iv μ ν) (t : tx1 n μ ν) (hn : n < 39) : ∃ μ', F_X5_append_1 b μ = some (1, μ') ∧ μ'.1 1 1 = nI (n + 1) ∧ Iv μ' (wI (wI ν 5 n b) 6 0 (nI (n + 1))) := by
  obtain ⟨l, t1, t2, t3, t4, t5⟩ := t
  obtain ⟨v, e, ft⟩ := ffC1 (μ := wI (wI μ 2 n b) 1 1 (nI (n + 1))) (n := n + 1) (by omega) rfl t3
  unfold F_X5_append_1
  rw [t1]
  simp (config := { implicitDefEqProofs := false }) (disch := omega) only [n_ltr, if_pos hn, gi_in, n_c, wI_ne, t1, n_ar]
  rw [e, bindS]
  refine ⟨_, rfl, rfl, IvX1 (n := n + 1) h ?_ ?_ ?_ ?_ ⟨by omega, rfl, by rw [wI_eq, u_eq], t3, ?_, ft⟩⟩
  · intro k h1 h2 h3; rw [wI_ne h2, wI_ne h2, wI_ne h3]
  · intro k h1 h2; rw [wI_ne h2, wI_ne h1]
  · intro i hi; rw [wI_ne (by omega), wI_eq, u_ne (by omega)]
  · intro i hi; rw [wI_eq, u_ne hi, wI_ne (by omega)]
  · intro i hi
    show upd (μ.1 2) n b i = upd (ν.1 5) n b i
    rw [u_if, u_if]
    by_cases c : i = n
    · rw [if_pos c, if_pos (by omega)]
    · rw [if_neg c, if_neg (by omega)]; exact t4 i (by omega)
theorem IvX3 {μ ν μ' ν' : Mm} {n : Nat} (h : Iv μ ν) (a : ∀ k, k < 20 → k ≠ 3 → k ≠ 4 → μ'.1 k = μ.1 k) (b : ∀ k, k ≠ 5 → k ≠ 6 → ν'.1 k = ν.1 k) (c : ∀ i, (i < 40 ∨ 80 ≤ i) → ν'.1 5 i = ν.1 5 i) (d : ∀ i, i ≠ 1 → ν'.1 6 i = ν.1 6 i) (t : tx3 n μ' ν') : Iv μ' ν' := by
  obtain ⟨⟨n0, h0⟩, ⟨n1, h1⟩, ⟨n2, h2⟩, ⟨n3, h3⟩, ⟨n4, h4⟩, sh, la, su⟩ := h
  refine ⟨⟨n0, ?_⟩, ⟨n, t⟩, ⟨n2, ?_⟩, ⟨n3, ?_⟩, ⟨n4, ?_⟩, ?_, ?_, ?_⟩
  · unfold tx1 at *; rw [a 1 (by omega) (by omega) (by omega), a 2 (by omega) (by omega) (by omega), d 0 (by omega)]; refine ⟨h0.1, h0.2.1, h0.2.2.1, h0.2.2.2.1, fun i hi => ?_, h0.2.2.2.2.2⟩; have l := h0.1; rw [c _ (by omega)]; exact h0.2.2.2.2.1 i hi
  · unfold tx5 at *; rw [a 5 (by omega) (by omega) (by omega), a 6 (by omega) (by omega) (by omega), d 2 (by omega)]; refine ⟨h2.1, h2.2.1, h2.2.2.1, fun i hi => ?_, h2.2.2.2.2⟩; have l := h2.1; rw [c _ (by omega)]; exact h2.2.2.2.1 i hi
  · unfold evI at *; rw [a 7 (by omega) (by omega) (by omega), a 8 (by omega) (by omega) (by omega), b 0 (by omega) (by omega), b 10 (by omega) (by omega)]; exact h3
  · unfold siI at *; rw [a 9 (by omega) (by omega) (by omega), a 10 (by omega) (by omega) (by omega), b 0 (by omega) (by omega), b 23 (by omega) (by omega)]; exact h4
  · intro s hs
    rw [a _ (by omega) (by omega) (by omega), a _ (by omega) (by omega) (by omega), b 1 (by omega) (by omega), b 2 (by omega) (by omega), b 3 (by omega) (by omega)]
    exact sh s hs
  · rw [a 0 (by omega) (by omega) (by omega), b 0 (by omega) (by omega)]; exact la
  · unfold suI at *; rw [b 0 (by omega) (by omega)]; exact su
theorem short3 {μ ν : Mm} {n m : Nat} (h : Iv μ ν) (t : tx3 n μ ν) (hm : m ≤ n) : ∃ μ', F_X5_shorten_3 (nI m) μ = some μ' ∧ μ'.1 3 1 = nI m ∧ Iv μ' (wI ν 6 1 (nI m)) := by
  obtain ⟨l, t1, t2, t3, t4, t5⟩ := t
  obtain ⟨v, e, ft⟩ := ffC3 (μ := wI μ 3 1 (nI m)) (n := m) (by omega) rfl t3
  unfold F_X5_shorten_3
  rw [e, bindS]
  refine ⟨_, rfl, rfl, IvX3 (n := m) h ?_ ?_ ?_ ?_ ⟨by omega, rfl, by rw [wI_eq, u_eq], t3, ?_, ft⟩⟩
  · intro k h1 h2 h3; rw [wI_ne h2, wI_ne h2]
  · intro k h1 h2; rw [wI_ne h2]
  · intro i _; rw [wI_ne (by omega)]
  · intro i hi; rw [wI_eq, u_ne hi]
  · intro i hi; exact t4 i (by omega)
theorem app3 {μ ν : Mm} {n : Nat} {b : Int32} (h : Iv μ ν) (t : tx3 n μ ν) (hn : n < 15) : ∃ μ', F_X5_append_3 b μ = some (1, μ') ∧ μ'.1 3 1 = nI (n + 1) ∧ Iv μ' (wI (wI ν 5 (40 + n) b) 6 1 (nI (n + 1))) := by
  obtain ⟨l, t1, t2, t3, t4, t5⟩ := t
  obtain ⟨v, e, ft⟩ := ffC3 (μ := wI (wI μ 4 n b) 3 1 (nI (n + 1))) (n := n + 1) (by omega) rfl t3
  unfold F_X5_append_3
  rw [t1]
  simp (config := { implicitDefEqProofs := false }) (disch := omega) only [n_ltr, if_pos hn, gi_in, n_c, wI_ne, t1, n_ar]
  rw [e, bindS]
  refine ⟨_, rfl, rfl, IvX3 (n := n + 1) h ?_ ?_ ?_ ?_ ⟨by omega, rfl, by rw [wI_eq, u_eq], t3, ?_, ft⟩⟩
  · intro k h1 h2 h3; rw [wI_ne h2, wI_ne h2, wI_ne h3]
  · intro k h1 h2; rw [wI_ne h2, wI_ne h1]
  · intro i hi; rw [wI_ne (by omega), wI_eq, u_ne (by omega)]
  · intro i hi; rw [wI_eq, u_ne hi, wI_ne (by omega)]
  · intro i hi
    show upd (μ.1 4) n b i = upd (ν.1 5) (40 + n) b (40 + i)
    rw [u_if, u_if]
    by_cases c : i = n
    · rw [if_pos c, if_pos (by omega)]
    · rw [if_neg c, if_neg (by omega)]; exact t4 i (by omega)
theorem IvX5 {μ ν μ' ν' : Mm} {n : Nat} (h : Iv μ ν) (a : ∀ k, k < 20 → k ≠ 5 → k ≠ 6 → μ'.1 k = μ.1 k) (b : ∀ k, k ≠ 5 → k ≠ 6 → ν'.1 k = ν.1 k) (c : ∀ i, i < 80 → ν'.1 5 i = ν.1 5 i) (d : ∀ i, i ≠ 2 → ν'.1 6 i = ν.1 6 i) (t : tx5 n μ' ν') : Iv μ' ν' := by
  obtain ⟨⟨n0, h0⟩, ⟨n1, h1⟩, ⟨n2, h2⟩, ⟨n3, h3⟩, ⟨n4, h4⟩, sh, la, su⟩ := h
  refine ⟨⟨n0, ?_⟩, ⟨n1, ?_⟩, ⟨n, t⟩, ⟨n3, ?_⟩, ⟨n4, ?_⟩, ?_, ?_, ?_⟩
  · unfold tx1 at *; rw [a 1 (by omega) (by omega) (by omega), a 2 (by omega) (by omega) (by omega), d 0 (by omega)]; refine ⟨h0.1, h0.2.1, h0.2.2.1, h0.2.2.2.1, fun i hi => ?_, h0.2.2.2.2.2⟩; have l := h0.1; rw [c _ (by omega)]; exact h0.2.2.2.2.1 i hi
  · unfold tx3 at *; rw [a 3 (by omega) (by omega) (by omega), a 4 (by omega) (by omega) (by omega), d 1 (by omega)]; refine ⟨h1.1, h1.2.1, h1.2.2.1, h1.2.2.2.1, fun i hi => ?_, h1.2.2.2.2.2⟩; have l := h1.1; rw [c _ (by omega)]; exact h1.2.2.2.2.1 i hi
  · unfold evI at *; rw [a 7 (by omega) (by omega) (by omega), a 8 (by omega) (by omega) (by omega), b 0 (by omega) (by omega), b 10 (by omega) (by omega)]; exact h3
  · unfold siI at *; rw [a 9 (by omega) (by omega) (by omega), a 10 (by omega) (by omega) (by omega), b 0 (by omega) (by omega), b 23 (by omega) (by omega)]; exact h4
  · intro s hs
    rw [a _ (by omega) (by omega) (by omega), a _ (by omega) (by omega) (by omega), b 1 (by omega) (by omega), b 2 (by omega) (by omega), b 3 (by omega) (by omega)]
    exact sh s hs
  · rw [a 0 (by omega) (by omega) (by omega), b 0 (by omega) (by omega)]; exact la
  · unfold suI at *; rw [b 0 (by omega) (by omega)]; exact su
theorem short5 {μ ν : Mm} {n m : Nat} (h : Iv μ ν) (t : tx5 n μ ν) (hm : m ≤ n) : ∃ μ', F_X5_shorten_5 (nI m) μ = some μ' ∧ μ'.1 5 1 = nI m ∧ Iv μ' (wI ν 6 2 (nI m)) := by
  obtain ⟨l, t1, t2,  t4, t5⟩ := t
  obtain ⟨v, e, ft⟩ := ffC5 (μ := wI μ 5 1 (nI m)) (n := m) (by omega) rfl
  unfold F_X5_shorten_5
  rw [e, bindS]
  refine ⟨_, rfl, rfl, IvX5 (n := m) h ?_ ?_ ?_ ?_ ⟨by omega, rfl, by rw [wI_eq, u_eq],  ?_, ft⟩⟩
  · intro k h1 h2 h3; rw [wI_ne h2, wI_ne h2]
  · intro k h1 h2; rw [wI_ne h2]
  · intro i _; rw [wI_ne (by omega)]
  · intro i hi; rw [wI_eq, u_ne hi]
  · intro i hi; exact t4 i (by omega)
theorem app5 {μ ν : Mm} {n : Nat} {b : Int32} (h : Iv μ ν) (t : tx5 n μ ν) (hn : n < 12) : ∃ μ', F_X5_append_5 b μ = some (1, μ') ∧ μ'.1 5 1 = nI (n + 1) ∧ Iv μ' (wI (wI ν 5 (80 + n) b) 6 2 (nI (n + 1))) := by
  obtain ⟨l, t1, t2,  t4, t5⟩ := t
  obtain ⟨v, e, ft⟩ := ffC5 (μ := wI (wI μ 6 n b) 5 1 (nI (n + 1))) (n := n + 1) (by omega) rfl
  unfold F_X5_append_5
  rw [t1]
  simp (config := { implicitDefEqProofs := false }) (disch := omega) only [n_ltr, if_pos hn, gi_in, n_c, wI_ne, t1, n_ar]
  rw [e, bindS]
  refine ⟨_, rfl, rfl, IvX5 (n := n + 1) h ?_ ?_ ?_ ?_ ⟨by omega, rfl, by rw [wI_eq, u_eq],  ?_, ft⟩⟩
  · intro k h1 h2 h3; rw [wI_ne h2, wI_ne h2, wI_ne h3]
  · intro k h1 h2; rw [wI_ne h2, wI_ne h1]
  · intro i hi; rw [wI_ne (by omega), wI_eq, u_ne (by omega)]
  · intro i hi; rw [wI_eq, u_ne hi, wI_ne (by omega)]
  · intro i hi
    show upd (μ.1 6) n b i = upd (ν.1 5) (80 + n) b (80 + i)
    rw [u_if, u_if]
    by_cases c : i = n
    · rw [if_pos c, if_pos (by omega)]
    · rw [if_neg c, if_neg (by omega)]; exact t4 i (by omega)

theorem o_wipe (a1 : Int32) : OkE (F_X8_wipe a1) (F_X9_wipe a1) := by
  intro μ ν h
  unfold F_X8_wipe F_X9_wipe
  rcases txt a1 with ⟨rfl, c1, c2⟩ | ⟨rfl, c1, c2⟩ | ⟨rfl, c1, c2⟩ | ⟨c1, c2⟩
  · obtain ⟨n, t⟩ := h.1
    obtain ⟨μ', e, -, hI⟩ := short1 (m := 0) h t (by omega)
    rw [show (nI 0 : Int32) = 0 from rfl] at e hI
    simp (config := { implicitDefEqProofs := false }) (disch := omega) only [c1, c2, bindS, if_true, i10, if_false, e, gi_inl, lc_l]
    exact E2_some ⟨by rw [t.2.1]; exact t.2.2.1.symm, hI⟩
  · obtain ⟨n, t⟩ := h.2.1
    obtain ⟨μ', e, -, hI⟩ := short3 (m := 0) h t (by omega)
    rw [show (nI 0 : Int32) = 0 from rfl] at e hI
    simp (config := { implicitDefEqProofs := false }) (disch := omega) only [c1, c2, bindS, if_true, i10, if_false, e, gi_inl, lc_l, v31]
    exact E2_some ⟨by rw [t.2.1]; exact t.2.2.1.symm, hI⟩
  · obtain ⟨n, t⟩ := h.2.2.1
    obtain ⟨μ', e, -, hI⟩ := short5 (m := 0) h t (by omega)
    rw [show (nI 0 : Int32) = 0 from rfl] at e hI
    simp (config := { implicitDefEqProofs := false }) (disch := omega) only [c1, c2, bindS, if_true, i10, if_false, e, gi_inl, lc_l, v51, v53]
    exact E2_some ⟨by rw [t.2.1]; exact t.2.2.1.symm, hI⟩
  · simp (config := { implicitDefEqProofs := false }) (disch := omega) only [c1, c2, bindS, if_true, vn1, vn3, vn5, if_false]
    exact oret h
theorem o_undo (a1 : Int32) : OkE (F_X8_undo a1) (F_X9_undo a1) := by
  intro μ ν h
  unfold F_X8_undo F_X9_undo
  rcases txt a1 with ⟨rfl, c1, c2⟩ | ⟨rfl, c1, c2⟩ | ⟨rfl, c1, c2⟩ | ⟨c1, c2⟩
  · obtain ⟨n, t⟩ := h.1
    have l := t.1
    have ec := t.2.1
    have em := t.2.2.1
    simp (config := { implicitDefEqProofs := false }) (disch := omega) only [c1, c2, bindS, if_true, i10, if_false, gi_inl, lc_l,  ec, em, n_eqr]
    by_cases z : n = 0
    · rw [if_pos z, if_pos z]; exact oret h
    · rw [if_neg z, if_neg z]
      obtain ⟨μ', e, e2, hI⟩ := short1 (m := n - 1) h t (by omega)
      simp (config := { implicitDefEqProofs := false }) (disch := omega) only [n_sr, e, bindS, e2]
      exact E2_some ⟨by rw [wI_eq, u_eq], hI⟩
  · obtain ⟨n, t⟩ := h.2.1
    have l := t.1
    have ec := t.2.1
    have em := t.2.2.1
    simp (config := { implicitDefEqProofs := false }) (disch := omega) only [c1, c2, bindS, if_true, i10, if_false, gi_inl, lc_l, v31, ec, em, n_eqr]
    by_cases z : n = 0
    · rw [if_pos z, if_pos z]; exact oret h
    · rw [if_neg z, if_neg z]
      obtain ⟨μ', e, e2, hI⟩ := short3 (m := n - 1) h t (by omega)
      simp (config := { implicitDefEqProofs := false }) (disch := omega) only [n_sr, e, bindS, e2]
      exact E2_some ⟨by rw [wI_eq, u_eq], hI⟩
  · obtain ⟨n, t⟩ := h.2.2.1
    have l := t.1
    have ec := t.2.1
    have em := t.2.2.1
    simp (config := { implicitDefEqProofs := false }) (disch := omega) only [c1, c2, bindS, if_true, i10, if_false, gi_inl, lc_l, v51, v53, ec, em, n_eqr]
    by_cases z : n = 0
    · rw [if_pos z, if_pos z]; exact oret h
    · rw [if_neg z, if_neg z]
      obtain ⟨μ', e, e2, hI⟩ := short5 (m := n - 1) h t (by omega)
      simp (config := { implicitDefEqProofs := false }) (disch := omega) only [n_sr, e, bindS, e2]
      exact E2_some ⟨by rw [wI_eq, u_eq], hI⟩
  · simp (config := { implicitDefEqProofs := false }) (disch := omega) only [c1, c2, bindS, if_true, vn1, vn3, vn5, if_false]
    exact oret h
theorem o_type (a1 a2 : Int32) : OkE (F_X8_type a1 a2) (F_X9_type a1 a2) := by
  intro μ ν h
  unfold F_X8_type F_X9_type
  rcases txt a1 with ⟨rfl, c1, c2⟩ | ⟨rfl, c1, c2⟩ | ⟨rfl, c1, c2⟩ | ⟨c1, c2⟩
  · rcases bchk a2 with ⟨k, hk, rfl, c3⟩ | ⟨c4, c3⟩
    · obtain ⟨n, t⟩ := h.1
      have l := t.1
      have ec := t.2.1
      have em := t.2.2.1
      simp (config := { implicitDefEqProofs := false }) (disch := omega) only [c1, c2, c3, bindS, if_true, i10, if_false, gi_inl, lc_l,  n_lt0, n_ler, if_pos, F_X9_type_49, em]
      by_cases z : n = 39
      · have : ¬ μ.1 1 1 < 39 := by rw [ec, n_ltr (by omega) (by omega)]; omega
        unfold F_X5_append_1
        rw [if_neg this, bindS]
        simp only [if_true]
        rw [if_pos (by rw [n_eqr (by omega) (by omega)]; exact z)]
        exact oret h
      · obtain ⟨μ', e, e2, hI⟩ := app1 (b := nI k) h t (by omega)
        rw [e, bindS]
        simp only [i10, if_false]
        rw [if_neg (by rw [n_eqr (by omega) (by omega)]; exact z)]
        simp (config := { implicitDefEqProofs := false }) (disch := omega) only [i10, if_false, e2, n_ml, n_aa, n_al, gi_in, n_c, wI_ne, em, n_ar, gi_inl, lc_l, show (40 * (0 : Int32)) = nI 0 from by decide, Nat.zero_add]
        exact E2_some ⟨by rw [wI_eq, u_eq], hI⟩
    · simp (config := { implicitDefEqProofs := false }) (disch := omega) only [c1, c2, c3, bindS, if_true, i10, if_false]
      by_cases z : a2 < 0
      · rw [if_pos z]; exact oret h
      · rw [if_neg z, if_neg (c4.resolve_left z)]; exact oret h
  · rcases bchk a2 with ⟨k, hk, rfl, c3⟩ | ⟨c4, c3⟩
    · obtain ⟨n, t⟩ := h.2.1
      have l := t.1
      have ec := t.2.1
      have em := t.2.2.1
      simp (config := { implicitDefEqProofs := false }) (disch := omega) only [c1, c2, c3, bindS, if_true, i10, if_false, gi_inl, lc_l, v31, n_lt0, n_ler, if_pos, F_X9_type_49, em]
      by_cases z : n = 15
      · have : ¬ μ.1 3 1 < 15 := by rw [ec, n_ltr (by omega) (by omega)]; omega
        unfold F_X5_append_3
        rw [if_neg this, bindS]
        simp only [if_true]
        rw [if_pos (by rw [n_eqr (by omega) (by omega)]; exact z)]
        exact oret h
      · obtain ⟨μ', e, e2, hI⟩ := app3 (b := nI k) h t (by omega)
        rw [e, bindS]
        simp only [i10, if_false]
        rw [if_neg (by rw [n_eqr (by omega) (by omega)]; exact z)]
        simp (config := { implicitDefEqProofs := false }) (disch := omega) only [i10, if_false, e2, n_ml, n_aa, n_al, gi_in, n_c, wI_ne, em, n_ar, gi_inl, lc_l, show (40 * (1 : Int32)) = nI 40 from by decide]
        exact E2_some ⟨by rw [wI_eq, u_eq], hI⟩
    · simp (config := { implicitDefEqProofs := false }) (disch := omega) only [c1, c2, c3, bindS, if_true, i10, if_false, v31]
      by_cases z : a2 < 0
      · rw [if_pos z]; exact oret h
      · rw [if_neg z, if_neg (c4.resolve_left z)]; exact oret h
  · rcases bchk a2 with ⟨k, hk, rfl, c3⟩ | ⟨c4, c3⟩
    · obtain ⟨n, t⟩ := h.2.2.1
      have l := t.1
      have ec := t.2.1
      have em := t.2.2.1
      simp (config := { implicitDefEqProofs := false }) (disch := omega) only [c1, c2, c3, bindS, if_true, i10, if_false, gi_inl, lc_l, v51, v53, n_lt0, n_ler, if_pos, F_X9_type_49, em, show ((2 : Int32) = 0) = False from by decide, show ((2 : Int32) = 1) = False from by decide]
      by_cases z : n = 12
      · have : ¬ μ.1 5 1 < 12 := by rw [ec, n_ltr (by omega) (by omega)]; omega
        unfold F_X5_append_5
        rw [if_neg this, bindS]
        simp only [if_true]
        rw [if_pos (by rw [n_eqr (by omega) (by omega)]; exact z)]
        exact oret h
      · obtain ⟨μ', e, e2, hI⟩ := app5 (b := nI k) h t (by omega)
        rw [e, bindS]
        simp only [i10, if_false]
        rw [if_neg (by rw [n_eqr (by omega) (by omega)]; exact z)]
        simp (config := { implicitDefEqProofs := false }) (disch := omega) only [i10, if_false, e2, n_ml, n_aa, n_al, gi_in, n_c, wI_ne, em, n_ar, gi_inl, lc_l, show (40 * (2 : Int32)) = nI 80 from by decide]
        exact E2_some ⟨by rw [wI_eq, u_eq], hI⟩
    · simp (config := { implicitDefEqProofs := false }) (disch := omega) only [c1, c2, c3, bindS, if_true, i10, if_false, v51, v53]
      by_cases z : a2 < 0
      · rw [if_pos z]; exact oret h
      · rw [if_neg z, if_neg (c4.resolve_left z)]; exact oret h
  · simp (config := { implicitDefEqProofs := false }) (disch := omega) only [c1, c2, bindS, if_true, vn1, vn3, vn5, if_false]
    exact oret h
