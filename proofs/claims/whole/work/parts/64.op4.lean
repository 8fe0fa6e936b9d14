/-! sheets -/
theorem IvH {μ ν μ' ν' : Mm} (h : Iv μ ν) (a : ∀ k, 1 ≤ k → k < 11 → μ'.1 k = μ.1 k) (b : ∀ k, 5 ≤ k → ν'.1 k = ν.1 k) (c : ∀ i, i ≠ 4 → ν'.1 0 i = ν.1 0 i) (s : shI μ' ν') (l : μ'.1 0 6 = ν'.1 0 4) : Iv μ' ν' := by
  obtain ⟨⟨n0, h0⟩, ⟨n1, h1⟩, ⟨n2, h2⟩, ⟨n3, h3⟩, ⟨n4, h4⟩, sh, la, su⟩ := h
  refine ⟨⟨n0, ?_⟩, ⟨n1, ?_⟩, ⟨n2, ?_⟩, ⟨n3, ?_⟩, ⟨n4, ?_⟩, s, l, ?_⟩
  · unfold tx1 at *; rw [a 1 (by omega) (by omega), a 2 (by omega) (by omega), b 5 (by omega), b 6 (by omega)]; exact h0
  · unfold tx3 at *; rw [a 3 (by omega) (by omega), a 4 (by omega) (by omega), b 5 (by omega), b 6 (by omega)]; exact h1
  · unfold tx5 at *; rw [a 5 (by omega) (by omega), a 6 (by omega) (by omega), b 5 (by omega), b 6 (by omega)]; exact h2
  · unfold evI at *; rw [a 7 (by omega) (by omega), a 8 (by omega) (by omega), c 13 (by omega), b 10 (by omega)]; exact h3
  · unfold siI at *; rw [a 9 (by omega) (by omega), a 10 (by omega) (by omega), c 33 (by omega), b 23 (by omega)]; exact h4
  · unfold suI at *; rw [c 15 (by omega), c 16 (by omega), c 18 (by omega)]; exact su
theorem fnd {μ ν : Mm} (h : Iv μ ν) (x : Int32) : Iv (wI μ 0 6 x) (wI ν 0 4 x) := by
  refine IvH h ?_ ?_ ?_ ?_ (by rw [wI_eq, wI_eq, u_eq, u_eq])
  · intro k h1 h2; rw [wI_ne (by omega)]
  · intro k h1; rw [wI_ne (by omega)]
  · intro i hi; rw [wI_eq, u_ne hi]
  · intro s hs
    rw [wI_ne (by omega), wI_ne (by omega), wI_ne (by omega), wI_ne (by omega), wI_ne (by omega)]
    exact h.2.2.2.2.2.1 s hs
theorem fret {μ ν : Mm} (h : Iv μ ν) (x y : Int32) : E2 (some (y, wI μ 0 6 x)) (some (y, wI ν 0 4 x)) (fun q r => q.1 = r.1 ∧ Iv q.2 r.2) := E2_some ⟨rfl, fnd h x⟩
theorem renC {k : Nat} {s : Mm} : ∃ s', L_X4_renew_12 FUEL k 0 s = some s' ∧ (∀ j, j ≠ 13 + 2 * k → s'.1 j = s.1 j) ∧ (∀ i, i < 60 → s'.1 (13 + 2 * k) i = 0) := by
  refine For1 (fun n i s => L_X4_renew_12 n k (nI i) s) 60 FUEL (fun i s' => (∀ j, j ≠ 13 + 2 * k → s'.1 j = s.1 j) ∧ (∀ j, j < i → s'.1 (13 + 2 * k) j = 0)) (fun o => ∃ s', o = some s' ∧ (∀ j, j ≠ 13 + 2 * k → s'.1 j = s.1 j) ∧ (∀ i, i < 60 → s'.1 (13 + 2 * k) i = 0)) ?_ ?_ 0 s FUEL ⟨fun _ _ => rfl, fun j hj => absurd hj (by omega)⟩ (by omega) rfl (by decide)
  · intro n s' _ h
    simp (config := { implicitDefEqProofs := false }) (disch := omega) only [L_X4_renew_12_s, n_lel, if_pos]
    exact ⟨s', rfl, h⟩
  · intro n i s' _ hi h ih
    simp (config := { implicitDefEqProofs := false }) (disch := omega) only [L_X4_renew_12_s, n_lel, if_neg, gi_in, n_c, n_ar]
    apply ih
    refine ⟨fun j hj => by rw [wI_ne hj]; exact h.1 j hj, ?_⟩
    intro j hj
    rw [wI_eq, u_if]
    by_cases c : j = i
    · rw [if_pos c]
    · rw [if_neg c]; exact h.2 j (by omega)
theorem renM {k n : Nat} {t : Mm} (hk : k < 4) (hn : n ≤ 60) : ∃ t', L_X9_sheet_55 FUEL (nI k) (nI n) 0 t = some (nI n, t') ∧ (∀ j, j ≠ 3 → t'.1 j = t.1 j) ∧ (∀ i, i < n → t'.1 3 (60 * k + i) = 0) ∧ (∀ i, i < 60 * k ∨ 60 * k + 60 ≤ i → t'.1 3 i = t.1 3 i) := by
  refine For1 (fun m i s => L_X9_sheet_55 m (nI k) (nI n) (nI i) s) n FUEL (fun i t' => (∀ j, j ≠ 3 → t'.1 j = t.1 j) ∧ (∀ j, j < i → t'.1 3 (60 * k + j) = 0) ∧ (∀ i, i < 60 * k ∨ 60 * k + 60 ≤ i → t'.1 3 i = t.1 3 i)) (fun o => ∃ t', o = some (nI n, t') ∧ (∀ j, j ≠ 3 → t'.1 j = t.1 j) ∧ (∀ i, i < n → t'.1 3 (60 * k + i) = 0) ∧ (∀ i, i < 60 * k ∨ 60 * k + 60 ≤ i → t'.1 3 i = t.1 3 i)) ?_ ?_ 0 t FUEL ⟨fun _ _ => rfl, fun j hj => absurd hj (by omega), fun _ _ => rfl⟩ (by omega) rfl (by rw [FUELe]; omega)
  · intro m t' _ h
    simp (config := { implicitDefEqProofs := false }) (disch := omega) only [L_X9_sheet_55_s, n_le, Nat.le_refl, if_true]
    exact ⟨t', rfl, h⟩
  · intro m i t' _ hi h ih
    simp (config := { implicitDefEqProofs := false }) (disch := omega) only [L_X9_sheet_55_s, n_le, if_neg, n_ml, n_aa, gi_in, n_c, n_ar]
    apply ih
    refine ⟨fun j hj => by rw [wI_ne hj]; exact h.1 j hj, ?_, ?_⟩
    · intro j hj
      rw [wI_eq, u_if]
      by_cases c : j = i
      · rw [if_pos (by omega)]
      · rw [if_neg (by omega)]; exact h.2.1 j (by omega)
    · intro j hj
      rw [wI_eq, u_ne (by omega)]; exact h.2.2 j hj
theorem isS {x : Int32} (c : ∀ ν, F_X9_in x.toInt64 0 3 ν = some (1, ν)) (ν : Mm) : F_X9_isSheet x ν = some (1, ν) := by unfold F_X9_isSheet; rw [c, bindS, gb_1]
theorem isS0 {x : Int32} (c : ∀ ν, F_X9_in x.toInt64 0 3 ν = some (0, ν)) (ν : Mm) : F_X9_isSheet x ν = some (0, ν) := by unfold F_X9_isSheet; rw [c, bindS, gb_0]
theorem o_sheet (a1 a2 a3 : Int32) : OkE (F_X8_sheet a1 a2 a3) (F_X9_sheet a1 a2 a3) := by
  intro μ ν h
  unfold F_X8_sheet F_X9_sheet
  rcases chk (x := a1) (y := 4) (n := 4) (hi := 3) (by omega) rfl rfl with ⟨k, hk, rfl, c1, c2⟩ | ⟨c1, c2⟩
  · simp (config := { implicitDefEqProofs := false }) (disch := omega) only [c1, isS c2, bindS, i10, if_false]
    rcases chk (x := a2) (y := 3) (n := 3) (hi := 2) (by omega) rfl rfl with ⟨f, hf, rfl, c3, c4⟩ | ⟨c3, c4⟩
    · simp (config := { implicitDefEqProofs := false }) (disch := omega) only [c3, c4, bindS, i10, if_false]
      by_cases z : a3 ≤ 60
      · rw [if_pos z, if_pos z]
        by_cases y : 0 ≤ a3
        · rw [if_pos y, if_pos y]
          obtain ⟨n, hn, rfl⟩ := nI_of (Int32.not_lt.mpr y)
          rw [n_ler (by omega) (by omega)] at z
          have z : n ≤ 60 := z
          simp (config := { implicitDefEqProofs := false }) (disch := omega) only [gi_in, n_c, F_X4_renew]
          obtain ⟨s', e1, g1, g2⟩ := renC (k := k) (s := wI (wI μ (12 + 2 * k) 1 (nI f)) (12 + 2 * k) 2 (nI n))
          obtain ⟨t', e2, g3, g4, g5⟩ := renM (k := k) (n := n) (t := wI (wI ν 1 k (nI f)) 2 k (nI n)) hk z
          rw [e1, bindS, e2]
          refine E2_some ⟨rfl, ?_⟩
          refine IvH h ?_ ?_ ?_ ?_ ?_
          · intro j h1 h2; rw [g1 j (by omega), wI_ne (by omega), wI_ne (by omega)]
          · intro j h1; show t'.1 j = ν.1 j; rw [g3 j (by omega), wI_ne (by omega), wI_ne (by omega)]
          · intro i hi; show t'.1 0 i = ν.1 0 i; rw [g3 0 (by omega), wI_ne (by omega), wI_ne (by omega)]
          · intro s hs
            show s'.1 (12 + 2 * s) 1 = t'.1 1 s ∧ (t'.1 1 s = -1 ∨ Rg 2 (t'.1 1 s)) ∧ ∃ n, n ≤ 60 ∧ s'.1 (12 + 2 * s) 2 = nI n ∧ t'.1 2 s = nI n ∧ ∀ i, i < n → s'.1 (13 + 2 * s) i = t'.1 3 (60 * s + i)
            by_cases x : s = k
            · subst x
              rw [g1 _ (by omega), g3 1 (by omega), g3 2 (by omega), wI_eq, wI_eq, wI_eq, wI_ne (by omega), wI_eq, u_ne (by omega), u_eq, u_eq, u_eq, u_eq]
              refine ⟨rfl, Or.inr ⟨f, by omega, rfl⟩, n, z, rfl, rfl, ?_⟩
              intro i hi
              rw [g2 i (by omega), g4 i hi]
            · have old := h.2.2.2.2.2.1 s hs
              have A : s'.1 (12 + 2 * s) = μ.1 (12 + 2 * s) := by rw [g1 _ (by omega), wI_ne (by omega), wI_ne (by omega)]
              have B : s'.1 (13 + 2 * s) = μ.1 (13 + 2 * s) := by rw [g1 _ (by omega), wI_ne (by omega), wI_ne (by omega)]
              have C1 : t'.1 1 s = ν.1 1 s := by rw [g3 1 (by omega), wI_ne (by omega), wI_eq, u_ne x]
              have C2 : t'.1 2 s = ν.1 2 s := by rw [g3 2 (by omega), wI_eq, u_ne x, wI_ne (by omega)]
              rw [A, B, C1, C2]
              refine ⟨old.1, old.2.1, ?_⟩
              obtain ⟨m, m1, m2, m3, m4⟩ := old.2.2
              refine ⟨m, m1, m2, m3, ?_⟩
              intro i hi
              rw [g5 _ (by omega), wI_ne (by omega), wI_ne (by omega)]
              exact m4 i hi
          · show s'.1 0 6 = t'.1 0 4
            rw [g1 0 (by omega), g3 0 (by omega), wI_ne (by omega), wI_ne (by omega), wI_ne (by omega), wI_ne (by omega)]
            exact h.2.2.2.2.2.2.1
        · rw [if_neg y, if_neg y]
          unfold F_X8_found F_X9_finds
          exact fret h _ _
      · rw [if_neg z, if_neg z]; exact oret h
    · simp (config := { implicitDefEqProofs := false }) (disch := omega) only [c3, c4, bindS, if_true]
      exact oret h
  · simp (config := { implicitDefEqProofs := false }) (disch := omega) only [c1, isS0 c2, bindS, if_true]
    exact oret h
/-- sheet k: its form is lost on both sides, or is a small number on both -/
theorem shk {μ ν : Mm} (h : Iv μ ν) {k : Nat} (hk : k < 4) : ((μ.1 (12 + 2 * k) 1 = -1 ∧ ν.1 1 k = -1 ∧ ¬ 0 ≤ ν.1 1 k) ∨ (∃ f, f ≤ 2 ∧ μ.1 (12 + 2 * k) 1 = nI f ∧ ν.1 1 k = nI f)) ∧ ∃ n, n ≤ 60 ∧ μ.1 (12 + 2 * k) 2 = nI n ∧ ν.1 2 k = nI n ∧ ∀ i, i < n → μ.1 (13 + 2 * k) i = ν.1 3 (60 * k + i) := by
  obtain ⟨h1, h2, h3⟩ := h.2.2.2.2.2.1 k hk
  refine ⟨?_, h3⟩
  rcases h2 with z | ⟨f, hf, z⟩
  · left; rw [h1, z]; exact ⟨rfl, rfl, by decide⟩
  · right; exact ⟨f, hf, by rw [h1, z], z⟩
theorem n1f {f : Nat} (h : f ≤ 2) : ¬ nI f = -1 := by rw [n_ne1 (by omega)]; exact not_false
theorem n0f {f : Nat} (h : f ≤ 2) : 0 ≤ nI f := by rw [n_ge0 (by omega)]; trivial
theorem o_lose (a1 : Int32) : OkE (F_X8_lose a1) (F_X9_lose a1) := by
  intro μ ν h
  unfold F_X8_lose F_X9_lose F_X4_isLost
  rcases chk (x := a1) (y := 4) (n := 4) (hi := 3) (by omega) rfl rfl with ⟨k, hk, rfl, c1, c2⟩ | ⟨c1, c2⟩
  · simp (config := { implicitDefEqProofs := false }) (disch := omega) only [c1, isS c2, bindS, i10, if_false, gi_in, n_c]
    obtain ⟨hf, n, m1, m2, m3, m4⟩ := shk h hk
    rcases hf with ⟨z1, z2, z3⟩ | ⟨f, hf, z1, z2⟩
    · rw [z1, if_neg z3, if_pos rfl, if_neg (by decide)]
      unfold F_X8_found F_X9_finds
      exact fret h _ _
    · rw [z1, z2, if_pos (n0f hf), if_neg (n1f hf), if_pos rfl]
      refine E2_some ⟨?_, ?_⟩
      · rw [wI_eq, u_ne (by omega), m2, wI_ne (by omega), m3]
      · refine IvH h ?_ ?_ ?_ ?_ ?_
        · intro j h1 h2; rw [wI_ne (by omega)]
        · intro j h1; rw [wI_ne (by omega)]
        · intro i hi; rw [wI_ne (by omega)]
        · intro s hs
          have old := h.2.2.2.2.2.1 s hs
          have B : (wI μ (12 + 2 * k) 1 (-1)).1 (13 + 2 * s) = μ.1 (13 + 2 * s) := wI_ne (by omega)
          have C2 : (wI ν 1 k (-1)).1 2 = ν.1 2 := wI_ne (by omega)
          have C3 : (wI ν 1 k (-1)).1 3 = ν.1 3 := wI_ne (by omega)
          rw [B, C2, C3]
          by_cases x : s = k
          · subst x
            rw [wI_eq, wI_eq, u_eq, u_eq, u_ne (by omega)]
            exact ⟨rfl, Or.inl rfl, n, m1, m2, m3, m4⟩
          · have A : (wI μ (12 + 2 * k) 1 (-1)).1 (12 + 2 * s) = μ.1 (12 + 2 * s) := wI_ne (by omega)
            rw [A, wI_eq, u_ne x]
            exact old
        · rw [wI_ne (by omega), wI_ne (by omega)]; exact h.2.2.2.2.2.2.1
  · simp (config := { implicitDefEqProofs := false }) (disch := omega) only [c1, isS0 c2, bindS, if_true]
    exact oret h
theorem look {μ ν : Mm} (h : Iv μ ν) {k f : Nat} (hk : k < 4) (hf : f < 3) (i : Int32) :
    (∃ j n, j < n ∧ n ≤ 60 ∧ i = nI j ∧ μ.1 (12 + 2 * k) 1 = nI f ∧ μ.1 (12 + 2 * k) 2 = nI n ∧ ν.1 2 k = nI n ∧ F_X4_findingAt k (nI f) i μ = some (0, μ) ∧ F_X9_lacks (nI k) (nI f) i ν = some (0, ν)) ∨
    (∃ c : Int32, c ≠ 0 ∧ -10 - c ≠ 0 ∧ F_X4_findingAt k (nI f) i μ = some (c, μ) ∧ F_X9_lacks (nI k) (nI f) i ν = some (-10 - c, wI ν 0 4 c)) := by
  obtain ⟨hs, n, m1, m2, m3, m4⟩ := shk h hk
  unfold F_X4_findingAt F_X4_isLost F_X9_lacks F_X9_finds
  simp (config := { implicitDefEqProofs := false }) (disch := omega) only [gi_in, n_c, bindS]
  rcases hs with ⟨z1, z2, z3⟩ | ⟨g, hg, z1, z2⟩
  · right
    refine ⟨1, by decide, by decide, ?_, ?_⟩
    · rw [z1, if_pos rfl, if_neg (by decide)]
    · rw [if_neg z3]
  · rw [z1, z2, if_pos (n0f hg), if_neg (n1f hg)]
    simp only [if_true]
    by_cases x : g = f
    · subst x
      rw [if_pos rfl, if_pos rfl, m2, m3]
      rcases chk (x := i) (y := nI n) (n := n) (by omega) rfl (hiN (by omega)) with ⟨j, hj, rfl, c1, c2⟩ | ⟨c1, c2⟩
      · left
        refine ⟨j, n, hj, m1, rfl, rfl, rfl, rfl, ?_, ?_⟩
        · rw [c1, bindS]; rfl
        · rw [c2, bindS]; rfl
      · right
        refine ⟨2, by decide, by decide, ?_, ?_⟩
        · rw [c1, bindS]; rfl
        · rw [c2, bindS]; rfl
    · right
      have nx : ¬ nI g = nI f := by rw [n_eq (by omega) (by omega)]; exact x
      refine ⟨3, by decide, by decide, ?_, ?_⟩
      · rw [if_neg nx]
      · rw [if_neg nx]
theorem putS {μ ν : Mm} (h : Iv μ ν) {k f j n : Nat} {v : Int32} (hk : k < 4) (hj : j < n) (hn : n ≤ 60) (e1 : μ.1 (12 + 2 * k) 1 = nI f) (e2 : μ.1 (12 + 2 * k) 2 = nI n) :
    Iv (wI μ (13 + 2 * k) j v) (wI ν 3 (60 * k + j) v) := by
  refine IvH h ?_ ?_ ?_ ?_ ?_
  · intro i h1 h2; rw [wI_ne (by omega)]
  · intro i h1; rw [wI_ne (by omega)]
  · intro i hi; rw [wI_ne (by omega)]
  · intro s hs
    obtain ⟨o1, o2, m, m1, m2, m3, m4⟩ := h.2.2.2.2.2.1 s hs
    rw [wI_ne (by omega), wI_ne (by omega), wI_ne (by omega), wI_eq]
    refine ⟨o1, o2, m, m1, m2, m3, ?_⟩
    intro i hi
    by_cases x : s = k
    · subst x
      rw [wI_eq, u_if, u_if]
      by_cases y : i = j
      · rw [if_pos y, if_pos (by omega)]
      · rw [if_neg y, if_neg (by omega)]; exact m4 i hi
    · rw [wI_ne (by omega), u_ne (by omega)]; exact m4 i hi
  · rw [wI_ne (by omega), wI_ne (by omega)]; exact h.2.2.2.2.2.2.1
def cutV (f v : Int32) : Int32 := if f = 0 then v.toInt8.toInt32 else if f = 1 then v.toInt16.toInt32 else v
theorem putC {μ : Mm} {k j : Nat} {v : Int32} (hj : j < 60) : F_X4_put k (nI j) v μ = some (wI μ (13 + 2 * k) j (cutV (μ.1 (12 + 2 * k) 1) v)) := by
  unfold F_X4_put cutV
  simp (config := { implicitDefEqProofs := false }) (disch := omega) only [gi_in, n_c]
  by_cases c : μ.1 (12 + 2 * k) 1 = 0
  · simp only [if_pos c]
  · simp only [if_neg c]
    by_cases d : μ.1 (12 + 2 * k) 1 = 1
    · simp only [if_pos d]
    · simp only [if_neg d]
theorem o_lay (a1 a2 a3 a4 : Int32) : OkE (F_X8_lay a1 a2 a3 a4) (F_X9_lay a1 a2 a3 a4) := by
  intro μ ν h
  unfold F_X8_lay F_X9_lay
  rcases chk (x := a1) (y := 4) (n := 4) (hi := 3) (by omega) rfl rfl with ⟨k, hk, rfl, c1, c2⟩ | ⟨c1, c2⟩
  · simp (config := { implicitDefEqProofs := false }) (disch := omega) only [c1, isS c2, bindS, i10, if_false]
    rcases chk (x := a2) (y := 3) (n := 3) (hi := 2) (by omega) rfl rfl with ⟨f, hf, rfl, c3, c4⟩ | ⟨c3, c4⟩
    · simp (config := { implicitDefEqProofs := false }) (disch := omega) only [c3, c4, bindS, i10, if_false, gi_in, n_c]
      rcases look h hk hf a3 with ⟨j, n, hj, hn, rfl, e1, e2, e3, e4, e5⟩ | ⟨c, n0, n1, e1, e2⟩
      · simp (config := { implicitDefEqProofs := false }) (disch := omega) only [e4, e5, bindS, if_true, F_X9_cut, n_ml, n_aa, gi_in, n_c, putC, e1]
        exact E2_some ⟨rfl, putS h hk hj hn e1 e2⟩
      · simp (config := { implicitDefEqProofs := false }) (disch := omega) only [e1, e2, bindS, if_neg n0, if_neg n1, F_X8_found]
        exact fret h _ _
    · simp (config := { implicitDefEqProofs := false }) (disch := omega) only [c3, c4, bindS, if_true]
      exact oret h
  · simp (config := { implicitDefEqProofs := false }) (disch := omega) only [c1, isS0 c2, bindS, if_true]
    exact oret h
theorem o_get (a1 a2 a3 : Int32) : OkE (F_X8_get a1 a2 a3) (F_X9_get a1 a2 a3) := by
  intro μ ν h
  unfold F_X8_get F_X9_get
  rcases chk (x := a1) (y := 4) (n := 4) (hi := 3) (by omega) rfl rfl with ⟨k, hk, rfl, c1, c2⟩ | ⟨c1, c2⟩
  · simp (config := { implicitDefEqProofs := false }) (disch := omega) only [c1, isS c2, bindS, i10, if_false]
    rcases chk (x := a2) (y := 3) (n := 3) (hi := 2) (by omega) rfl rfl with ⟨f, hf, rfl, c3, c4⟩ | ⟨c3, c4⟩
    · simp (config := { implicitDefEqProofs := false }) (disch := omega) only [c3, c4, bindS, i10, if_false, gi_in, n_c]
      rcases look h hk hf a3 with ⟨j, n, hj, hn, rfl, e1, e2, e3, e4, e5⟩ | ⟨c, n0, n1, e1, e2⟩
      · simp (config := { implicitDefEqProofs := false }) (disch := omega) only [e4, e5, bindS, if_true, n_ml, n_aa, gi_in, n_c]
        obtain ⟨-, -, m, m1, m2, m3, m4⟩ := h.2.2.2.2.2.1 k hk
        have : m = n := by rw [e2, n_eq (by omega) (by omega)] at m2; exact m2.symm
        subst this
        exact E2_some ⟨m4 j hj, h⟩
      · simp (config := { implicitDefEqProofs := false }) (disch := omega) only [e1, e2, bindS, if_neg n0, if_neg n1, F_X8_found]
        exact fret h _ _
    · simp (config := { implicitDefEqProofs := false }) (disch := omega) only [c3, c4, bindS, if_true]
      exact oret h
  · simp (config := { implicitDefEqProofs := false }) (disch := omega) only [c1, isS0 c2, bindS, if_true]
    exact oret h
