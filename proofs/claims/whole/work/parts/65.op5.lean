/-! copy and read -/
theorem spanC {μ : Mm} {k n : Nat} {x y : Int32} (hn : n ≤ 60) (e : μ.1 (12 + 2 * k) 2 = nI n) :
    (∃ I N, I + N ≤ n ∧ x = nI I ∧ y = nI N ∧ F_X4_hasSpan k x y μ = some (1, μ)) ∨ ((¬ ∃ I N, I + N ≤ n ∧ x = nI I ∧ y = nI N) ∧ F_X4_hasSpan k x y μ = some (0, μ)) := by
  unfold F_X4_hasSpan
  rw [e]
  by_cases c1 : x < 0
  · right
    refine ⟨?_, by rw [if_pos c1]⟩
    rintro ⟨I, N, h1, rfl, rfl⟩
    rw [n_lt0 (by omega)] at c1; exact c1
  · by_cases c2 : y < 0
    · right
      refine ⟨?_, by rw [if_neg c1, if_pos c2]⟩
      rintro ⟨I, N, h1, rfl, rfl⟩
      rw [n_lt0 (by omega)] at c2; exact c2
    · rw [if_neg c1, if_neg c2]
      obtain ⟨I, hI, rfl⟩ := nI_of c1
      obtain ⟨N, hN, rfl⟩ := nI_of c2
      by_cases c3 : n < I
      · right
        refine ⟨?_, by rw [if_pos (by rw [n_lt (by omega) (by omega)]; exact c3)]⟩
        rintro ⟨I', N', h1, h2, h3⟩
        rw [n_eq (by omega) (by omega)] at h2; omega
      · rw [if_neg (by rw [n_lt (by omega) (by omega)]; exact c3), pk_sub (by omega)]
        by_cases c4 : n - I < N
        · right
          refine ⟨?_, by rw [if_pos (by rw [n_lt (by omega) (by omega)]; exact c4)]⟩
          rintro ⟨I', N', h1, h2, h3⟩
          rw [n_eq (by omega) (by omega)] at h2
          rw [n_eq (by omega) (by omega)] at h3; omega
        · left
          exact ⟨I, N, by omega, rfl, rfl, by rw [if_neg (by rw [n_lt (by omega) (by omega)]; exact c4)]⟩
theorem cp1 {a b I J N : Nat} {t : Mm} (ha : a < 4) (hb : b < 4) (hI : I + N ≤ 60) (hJ : J + N ≤ 60) :
    ∃ t', L_X9_copy_120 FUEL (nI a) (nI I) (nI b) (nI J) (nI N) 0 t = some (1, t') ∧ (∀ j, j ≠ 3 → j ≠ 4 → t'.1 j = t.1 j) ∧ (∀ i, t'.1 3 i = if 60 * b + J ≤ i ∧ i < 60 * b + J + N then t.1 3 (60 * a + I + (i - (60 * b + J))) else t.1 3 i) := by
  have st : ∃ t', L_X9_copy_120 FUEL (nI a) (nI I) (nI b) (nI J) (nI N) 0 t = L_X9_copy_157 FUEL (nI b) (nI J) (nI N) 0 t' ∧ (∀ j, j ≠ 4 → t'.1 j = t.1 j) ∧ (∀ i, i < N → t'.1 4 i = t.1 3 (60 * a + I + i)) := by
    refine For1 (fun n i s => L_X9_copy_120 n (nI a) (nI I) (nI b) (nI J) (nI N) (nI i) s) N FUEL (fun i t' => (∀ j, j ≠ 4 → t'.1 j = t.1 j) ∧ (∀ j, j < i → t'.1 4 j = t.1 3 (60 * a + I + j))) (fun o => ∃ t', o = L_X9_copy_157 FUEL (nI b) (nI J) (nI N) 0 t' ∧ (∀ j, j ≠ 4 → t'.1 j = t.1 j) ∧ (∀ i, i < N → t'.1 4 i = t.1 3 (60 * a + I + i))) ?_ ?_ 0 t FUEL ⟨fun _ _ => rfl, fun j hj => absurd hj (by omega)⟩ (by omega) rfl (by rw [FUELe]; omega)
    · intro n t' _ h
      simp (config := { implicitDefEqProofs := false }) (disch := omega) only [L_X9_copy_120_s, n_le, Nat.le_refl, if_true]
      exact ⟨t', rfl, h⟩
    · intro n i t' _ hi h ih
      simp (config := { implicitDefEqProofs := false }) (disch := omega) only [L_X9_copy_120_s, n_le, if_neg, n_ml, n_aa, gi_in, n_c, n_ar, h.1 3]
      apply ih
      refine ⟨fun j hj => by rw [wI_ne hj]; exact h.1 j hj, ?_⟩
      intro j hj
      rw [wI_eq, u_if]
      by_cases c : j = i
      · rw [if_pos c, c]
      · rw [if_neg c]; exact h.2 j (by omega)
  obtain ⟨t1, e1, g1, g2⟩ := st
  rw [e1]
  refine For1 (fun n i s => L_X9_copy_157 n (nI b) (nI J) (nI N) (nI i) s) N FUEL (fun i t' => (∀ j, j ≠ 3 → t'.1 j = t1.1 j) ∧ (∀ j, t'.1 3 j = if 60 * b + J ≤ j ∧ j < 60 * b + J + i then t.1 3 (60 * a + I + (j - (60 * b + J))) else t.1 3 j)) (fun o => ∃ t', o = some (1, t') ∧ (∀ j, j ≠ 3 → j ≠ 4 → t'.1 j = t.1 j) ∧ (∀ i, t'.1 3 i = if 60 * b + J ≤ i ∧ i < 60 * b + J + N then t.1 3 (60 * a + I + (i - (60 * b + J))) else t.1 3 i)) ?_ ?_ 0 t1 FUEL ⟨fun _ _ => rfl, fun j => by rw [if_neg (by omega), g1 3 (by omega)]⟩ (by omega) rfl (by rw [FUELe]; omega)
  · intro n t' _ h
    simp (config := { implicitDefEqProofs := false }) (disch := omega) only [L_X9_copy_157_s, n_le, Nat.le_refl, if_true]
    exact ⟨t', rfl, fun j h1 h2 => (h.1 j h1).trans (g1 j h2), h.2⟩
  · intro n i t' _ hi h ih
    simp (config := { implicitDefEqProofs := false }) (disch := omega) only [L_X9_copy_157_s, n_le, if_neg, n_ml, n_aa, gi_in, n_c, n_ar, h.1 4]
    apply ih
    refine ⟨fun j hj => by rw [wI_ne hj]; exact h.1 j hj, ?_⟩
    intro j
    rw [wI_eq, u_if, g2 i hi]
    by_cases c : j = 60 * b + J + i
    · rw [if_pos c, if_pos (by omega)]
      exact congrArg (t.1 3) (by omega)
    · rw [if_neg c, h.2 j]
      by_cases d : 60 * b + J ≤ j ∧ j < 60 * b + J + i
      · rw [if_pos d, if_pos (by omega)]
      · rw [if_neg d, if_neg (by omega)]
theorem l_gt {a b n : Nat} (ha : a < 2147483648) (hb : b < 2147483648) (hn : n < 2147483648) : (0 < lg_cmp ((nI a).toInt64 + (nI b).toInt64) (nI n).toInt64) = (n < a + b) := by
  rw [n64 ha, n64 hb, n64 hn, lN_add, cmp_gt, pk_lT (by omega), pk_lT (by omega)]
  apply propext; omega
theorem l_le0 {a b n : Nat} (ha : a < 2147483648) (hb : b < 2147483648) (hn : n < 2147483648) : (lg_cmp ((nI a).toInt64 + (nI b).toInt64) (nI n).toInt64 ≤ 0) = (a + b ≤ n) := by
  rw [n64 ha, n64 hb, n64 hn, lN_add, lg_cmp_le, pk_lLE (by omega) (by omega)]
theorem lost1 {μ : Mm} {k : Nat} (h : μ.1 (12 + 2 * k) 1 = -1) : F_X4_isLost k μ = some (1, μ) := by unfold F_X4_isLost; rw [if_pos h]
theorem lost0 {μ : Mm} {k f : Nat} (hf : f ≤ 2) (h : μ.1 (12 + 2 * k) 1 = nI f) : F_X4_isLost k μ = some (0, μ) := by unfold F_X4_isLost; rw [h, if_neg (n1f hf)]
theorem o_copy (a1 a2 a3 a4 a5 : Int32) : OkE (F_X8_copy a1 a2 a3 a4 a5) (F_X9_copy a1 a2 a3 a4 a5) := by
  intro μ ν h
  unfold F_X8_copy F_X9_copy
  rcases chk (x := a1) (y := 4) (n := 4) (hi := 3) (by omega) rfl rfl with ⟨k, hk, rfl, c1, c2⟩ | ⟨c1, c2⟩
  · simp only [c1, isS c2, bindS, i10, if_false]
    rcases chk (x := a3) (y := 4) (n := 4) (hi := 3) (by omega) rfl rfl with ⟨l, hl, rfl, c3, c4⟩ | ⟨c3, c4⟩
    · simp only [c3, isS c4, bindS, i10, if_false]
      simp (config := { implicitDefEqProofs := false }) (disch := omega) only [gi_in, n_c]
      simp only [F_X8_copy_51, F_X9_copy_35, F_X8_copy_99, F_X9_copy_111, F_X8_found, F_X9_finds, bindS]
      obtain ⟨sk, n, m1, m2, m3, m4⟩ := shk h hk
      obtain ⟨sl, n', l1, l2, l3, l4⟩ := shk h hl
      rcases sk with ⟨z1, z2, z3⟩ | ⟨f, hf, z1, z2⟩
      · rw [lost1 z1, bindS, z2]
        simp only [i10, if_false]
        rw [if_pos (by decide)]
        exact fret h _ _
      · rw [lost0 hf z1, bindS, if_pos rfl, z2, if_neg (by rw [n_lt0 (by omega)]; exact not_false)]
        dsimp only
        rcases sl with ⟨y1, y2, y3⟩ | ⟨g, hg, y1, y2⟩
        · rw [lost1 y1, bindS, if_neg y3]
          simp only [i10, if_false]
          exact fret h _ _
        · rw [lost0 hg y1, bindS, if_pos rfl, y2, if_pos (n0f hg), m3, l3]
          dsimp only
          rw [z1, y1]
          by_cases x : f = g
          · subst x
            rw [if_pos rfl, if_pos rfl]
            have bad : E2 (some (((-10) - 2 : Int32), wI μ 0 6 2)) (some (((-10) - 2 : Int32), wI ν 0 4 2)) (fun q r => q.1 = r.1 ∧ Iv q.2 r.2) := fret h 2 (-10 - 2)
            rcases spanC (x := a2) (y := a5) m1 m2 with ⟨I, N, h1, rfl, rfl, e1⟩ | ⟨h1, e1⟩
            · rw [e1, bindS]
              simp only [i10, if_false]
              have i0 : ¬ nI I < 0 := by rw [n_lt0 (by omega)]; exact not_false
              have N0 : ¬ nI N < 0 := by rw [n_lt0 (by omega)]; exact not_false
              rw [if_neg i0]
              rcases spanC (x := a4) (y := nI N) l1 l2 with ⟨J, N', h2, rfl, e3, e2⟩ | ⟨h2, e2⟩
              · rw [n_eq (by omega) (by omega)] at e3
                subst e3
                have j0 : ¬ nI J < 0 := by rw [n_lt0 (by omega)]; exact not_false
                rw [e2, bindS, if_neg j0, if_neg N0]
                simp only [i10, if_false]
                have g1 : gc (nI I) (nI J) (nI N) 60 60 (some ((1 : Int32), wR μ (13 + 2 * l) (va_cpy (μ.1 (13 + 2 * k)) (μ.1 (13 + 2 * l)) I J N))) = some (1, wR μ (13 + 2 * l) (va_cpy (μ.1 (13 + 2 * k)) (μ.1 (13 + 2 * l)) I J N)) := by
                  unfold gc
                  rw [n_c (by omega), n_c (by omega), n_c (by omega), if_neg]
                  rintro (z | z | z | z | z)
                  · exact i0 z
                  · exact j0 z
                  · exact N0 z
                  · omega
                  · omega
                obtain ⟨t', e4, w1, w2⟩ := cp1 (a := k) (b := l) (I := I) (J := J) (N := N) (t := ν) hk hl (by omega) (by omega)
                simp (config := { implicitDefEqProofs := false }) (disch := omega) only [n_c, l_gt, l_le0, if_neg, if_pos, e4]
                rw [g1]
                refine E2_some ⟨rfl, ?_⟩
                refine IvH h ?_ ?_ ?_ ?_ ?_
                · intro j h1 h2; rw [wR_ne (by omega)]
                · intro j h1; exact w1 j (by omega) (by omega)
                · intro i hi; show t'.1 0 i = ν.1 0 i; rw [w1 0 (by omega) (by omega)]
                · intro s hs
                  show (wR μ (13 + 2 * l) _).1 (12 + 2 * s) 1 = t'.1 1 s ∧ (t'.1 1 s = -1 ∨ Rg 2 (t'.1 1 s)) ∧ ∃ n, n ≤ 60 ∧ (wR μ (13 + 2 * l) _).1 (12 + 2 * s) 2 = nI n ∧ t'.1 2 s = nI n ∧ ∀ i, i < n → (wR μ (13 + 2 * l) _).1 (13 + 2 * s) i = t'.1 3 (60 * s + i)
                  obtain ⟨o1, o2, n2, p1, p2, p3, p4⟩ := h.2.2.2.2.2.1 s hs
                  rw [wR_ne (by omega), w1 1 (by omega) (by omega), w1 2 (by omega) (by omega)]
                  refine ⟨o1, o2, n2, p1, p2, p3, ?_⟩
                  intro i hi
                  rw [w2]
                  by_cases x : s = l
                  · subst x
                    rw [wR_eq]
                    unfold va_cpy
                    by_cases d : J ≤ i ∧ i < J + N
                    · rw [if_pos d, if_pos (by omega), m4 _ (by omega)]
                      exact congrArg (ν.1 3) (by omega)
                    · rw [if_neg d, if_neg (by omega)]; exact p4 i hi
                  · rw [wR_ne (by omega), if_neg (by omega)]; exact p4 i hi
                · show (wR μ (13 + 2 * l) _).1 0 6 = t'.1 0 4
                  rw [wR_ne (by omega), w1 0 (by omega) (by omega)]; exact h.2.2.2.2.2.2.1
              · rw [e2, bindS, if_pos rfl]
                by_cases d1 : a4 < 0
                · rw [if_pos d1]; exact bad
                · rw [if_neg d1, if_neg N0]
                  obtain ⟨J, hJ, rfl⟩ := nI_of d1
                  simp (config := { implicitDefEqProofs := false }) (disch := omega) only [l_gt, l_le0]
                  by_cases d2 : n < I + N
                  · rw [if_pos d2]; exact bad
                  · rw [if_neg d2, if_neg (fun z => h2 ⟨J, N, z, rfl, rfl⟩)]; exact bad
            · rw [e1, bindS, if_pos rfl]
              by_cases d1 : a2 < 0
              · rw [if_pos d1]; exact bad
              · rw [if_neg d1]
                by_cases d2 : a4 < 0
                · rw [if_pos d2]; exact bad
                · rw [if_neg d2]
                  by_cases d3 : a5 < 0
                  · rw [if_pos d3]; exact bad
                  · rw [if_neg d3]
                    obtain ⟨I, hI, rfl⟩ := nI_of d1
                    obtain ⟨N, hN, rfl⟩ := nI_of d3
                    simp (config := { implicitDefEqProofs := false }) (disch := omega) only [l_gt]
                    rw [if_pos]
                    · exact bad
                    · rcases Nat.lt_or_ge n (I + N) with z | z
                      · exact z
                      · exact absurd ⟨I, N, z, rfl, rfl⟩ h1
          · have nx : ¬ nI f = nI g := by rw [n_eq (by omega) (by omega)]; exact x
            rw [if_neg nx, if_neg nx]
            exact fret h _ _
    · simp (config := { implicitDefEqProofs := false }) (disch := omega) only [c3, isS0 c4, bindS, if_true]
      exact oret h
  · simp (config := { implicitDefEqProofs := false }) (disch := omega) only [c1, isS0 c2, bindS, if_true]
    exact oret h
theorem o_read (a1 : Int32) : OkE (F_X8_read a1) (F_X9_read a1) := by
  intro μ ν h
  unfold F_X8_read F_X9_read
  rcases chk (x := a1) (y := 4) (n := 4) (hi := 3) (by omega) rfl rfl with ⟨k, hk, rfl, c1, c2⟩ | ⟨c1, c2⟩
  · simp only [c1, isS c2, bindS, i10, if_false]
    simp (config := { implicitDefEqProofs := false }) (disch := omega) only [gi_in, n_c]
    simp only [F_X8_found, F_X9_finds, bindS]
    obtain ⟨sk, -⟩ := shk h hk
    rcases sk with ⟨z1, z2, z3⟩ | ⟨f, hf, z1, z2⟩
    · rw [lost1 z1, bindS, if_neg z3]
      simp only [i10, if_false]
      exact fret h _ _
    · rw [lost0 hf z1, bindS, if_pos rfl, z2, if_pos (n0f hf)]
      refine For2 (fun n j s => L_X8_read_36 n k (nI j) (nI (3 * j)) s) (fun n j t => L_X9_read_29 n (nI k) (nI j) 1 t) 20 FUEL FUEL (fun j s t => Iv s t) (fun f g => E2 f g (fun q r => q.1 = r.1 ∧ Iv q.2 r.2)) ?_ ?_ 0 μ ν FUEL FUEL h (by omega) rfl rfl (by decide) (by decide)
      · intro n m s t _ _ hI
        obtain ⟨-, w, m1, m2, m3, m4⟩ := shk hI hk
        simp (config := { implicitDefEqProofs := false }) (disch := omega) only [L_X8_read_36_s, L_X9_read_29_s, m2, m3, n_ar, n_le, n_ml, n_lt, i10, if_false, gi_in, n_c, if_pos]
        exact oret hI
      · intro n m j s t _ hm hj hI ih
        obtain ⟨-, w, m1, m2, m3, m4⟩ := shk hI hk
        simp (config := { implicitDefEqProofs := false }) (disch := omega) only [L_X8_read_36_s, L_X9_read_29_s, m2, m3, n_ar, n_le, n_ml, n_lt, n_aa, i10, if_false, gi_in, n_c, F_X9_read_94, F_X9_read_105]
        by_cases z : w ≤ 3 * j + 2
        · rw [if_pos z, if_pos (by omega)]; exact oret hI
        · rw [if_neg z, if_neg (by omega), ← m4 (3 * j) (by omega), show 60 * k + 3 * j + 1 = 60 * k + (3 * j + 1) from by omega, show 60 * k + 3 * j + 2 = 60 * k + (3 * j + 2) from by omega, ← m4 (3 * j + 1) (by omega), ← m4 (3 * j + 2) (by omega)]
          obtain ⟨m', rfl⟩ : ∃ m', m = m' + 1 := ⟨m - 1, by rw [FUELe] at hm; omega⟩
          rcases ev2 hI (s.1 (13 + 2 * k) (3 * j)) (s.1 (13 + 2 * k) (3 * j + 1)) (s.1 (13 + 2 * k) (3 * j + 2)) with ⟨μ', ν', q, e1, e2, e3, e4, e5, hI'⟩ | ⟨e1, e2, e3⟩ | ⟨e1, e2⟩
          · simp (config := { implicitDefEqProofs := false }) (disch := omega) only [e1, e2, e3, bindS, i10, if_false, n_lt0, n_ar]
            exact ih μ' ν' hI'
          · simp (config := { implicitDefEqProofs := false }) (disch := omega) only [e1, e2, e3, bindS, i10, if_false, if_true, show ((-4 : Int32) < 0) = True from by decide, L_X9_read_29_s, Int32.add_zero]
            exact oret hI
          · simp (config := { implicitDefEqProofs := false }) (disch := omega) only [e1, e2, bindS, i10, if_false, if_true, show ((-2 : Int32) < 0) = True from by decide, L_X9_read_29_s, Int32.add_zero]
            exact oret hI
  · simp (config := { implicitDefEqProofs := false }) (disch := omega) only [c1, isS0 c2, bindS, if_true]
    exact oret h
