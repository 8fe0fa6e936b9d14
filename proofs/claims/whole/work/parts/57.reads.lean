/-! reading the texts on both sides -/
def gR (lf : Int32) (b : Nat → Int32) (i : Nat) : Prop := ¬ vl lf (i % 4) (b i) = -9
def eR (n : Nat) : Bool := decide (n = 0 ∨ n % 4 = 3)
def gB (b : Nat → Int32) (i : Nat) : Prop := 48 ≤ b i ∧ b i ≤ 51
def FrT (c d : Nat) (ν ν' : Mm) : Prop := (∀ j, j ≠ 0 → j ≠ c → ν'.1 j = ν.1 j) ∧ (∀ i, i ≠ d → ν'.1 0 i = ν.1 0 i) ∧ ν'.2 = ν.2
theorem ffC1 {μ : Mm} {n : Nat} (hn : n ≤ 39) (h1 : μ.1 1 1 = nI n) (h3 : μ.1 1 3 = 0) : ∃ v, F_X5_firstFault_1 μ = some (v, μ) ∧ Ft (gR 0 (μ.1 2)) n (eR n) v := by
  unfold F_X5_firstFault_1
  refine For1 (fun m i (_ : Unit) => L_X5_firstFault_1_2 m (nI i) μ) n FUEL (fun i _ => ∀ j, j < i → gR 0 (μ.1 2) j) (fun o => ∃ v, o = some (v, μ) ∧ Ft (gR 0 (μ.1 2)) n (eR n) v) ?_ ?_ 0 () FUEL (fun j hj => absurd hj (by omega)) (by omega) rfl (by rw [FUELe]; omega)
  · intro m _ _ h
    simp (config := { implicitDefEqProofs := false }) (disch := omega) only [L_X5_firstFault_1_2_s, h1, n_le, Nat.le_refl, if_true, F_X3_mayEndAt_1, F_X3_mayEndAt_1_11, q4 (show n < 1000 by omega), n_eqr]
    have base : Lead (gR 0 (μ.1 2)) n n := ⟨Nat.le_refl _, h, fun z => absurd z (by omega)⟩
    by_cases c : n = 0
    · rw [if_pos c, bindS]
      refine ⟨-1, rfl, n, base, ?_⟩
      unfold fv eR
      rw [if_neg (by omega), if_pos (by simp [c])]
    · rw [if_neg c]
      by_cases d : n % 4 = 3
      · rw [if_pos d, bindS]
        refine ⟨-1, rfl, n, base, ?_⟩
        unfold fv eR
        rw [if_neg (by omega), if_pos (by simp [d])]
      · rw [if_neg d, bindS]
        simp only [if_true]
        rw [h1]
        refine ⟨nI n, rfl, n, base, ?_⟩
        unfold fv eR
        rw [if_neg (by omega), if_neg (by simp [c, d])]
  · intro m i _ _ hi h ih
    simp (config := { implicitDefEqProofs := false }) (disch := omega) only [L_X5_firstFault_1_2_s, h1, n_le, if_neg, gi_in, n_c, (fitsR (μ := μ) (lf := 0) (i := i) (by omega) (by decide)).1 h3, bindS, n_ar]
    by_cases c : vl 0 (i % 4) (μ.1 2 i) = -9
    · rw [if_pos c]
      simp only [if_true]
      refine ⟨nI i, rfl, i, ⟨by omega, h, fun _ z => z c⟩, ?_⟩
      unfold fv
      rw [if_pos hi]
    · rw [if_neg c]
      simp only [show ((1 : Int32) = 0) = False from by decide, if_false]
      apply ih ()
      intro j hj
      by_cases d : j = i
      · subst d; exact c
      · exact h j (by omega)
theorem rdThings {ν : Mm} {n : Nat} (hn : n ≤ 39) (h6 : ν.1 6 0 = nI n) : ∃ v ν', F_X9_readsThings ν = some (v, ν') ∧ Ft (gR 0 (fun i => ν.1 5 i)) n (eR n) v ∧ ν'.1 0 7 = nI (if v = -1 then (n + 1) / 4 else 0) ∧
    (v = -1 → ∀ t q, t < (n + 1) / 4 → q < 3 → ν'.1 7 (3 * t + q) = vl 0 q (ν.1 5 (4 * t + q))) ∧ FrT 7 7 ν ν' := by
  unfold F_X9_readsThings
  rw [gi_inl (by decide) (by decide), lc_l (by decide), wI_ne (by omega), h6]
  refine For1 (fun m i s => L_X9_readsThings_14 m (nI n) (nI i) s) n FUEL (fun i s => FrT 7 7 ν s ∧ s.1 0 7 = nI ((i + 1) / 4) ∧ (∀ j, j < i → gR 0 (fun i => ν.1 5 i) j) ∧ (∀ j, j < i → j % 4 < 3 → s.1 7 (3 * (j / 4) + j % 4) = vl 0 (j % 4) (ν.1 5 j)))
    (fun o => ∃ v ν', o = some (v, ν') ∧ Ft (gR 0 (fun i => ν.1 5 i)) n (eR n) v ∧ ν'.1 0 7 = nI (if v = -1 then (n + 1) / 4 else 0) ∧ (v = -1 → ∀ t q, t < (n + 1) / 4 → q < 3 → ν'.1 7 (3 * t + q) = vl 0 q (ν.1 5 (4 * t + q))) ∧ FrT 7 7 ν ν') ?_ ?_ 0 (wI ν 0 7 0) FUEL ⟨⟨fun j hj _ => wI_ne hj, fun i hi => by rw [wI_eq, u_ne hi], rfl⟩, rfl, fun j hj => absurd hj (by omega), fun j hj => absurd hj (by omega)⟩ (by omega) rfl (by rw [FUELe]; omega)
  · rintro m s _ ⟨g1, g2, g3, g4⟩
    simp (config := { implicitDefEqProofs := false }) (disch := omega) only [L_X9_readsThings_14_s, n_le, Nat.le_refl, if_true, q4 (show n < 1000 by omega), n_eqr, n_ler]
    have base : Lead (gR 0 (fun i => ν.1 5 i)) n n := ⟨Nat.le_refl _, g3, fun z => absurd z (by omega)⟩
    have good : eR n = true → ∃ v ν', some ((-1 : Int32), s) = some (v, ν') ∧ Ft (gR 0 (fun i => ν.1 5 i)) n (eR n) v ∧ ν'.1 0 7 = nI (if v = -1 then (n + 1) / 4 else 0) ∧ (v = -1 → ∀ t q, t < (n + 1) / 4 → q < 3 → ν'.1 7 (3 * t + q) = vl 0 q (ν.1 5 (4 * t + q))) ∧ FrT 7 7 ν ν' := by
      intro he
      refine ⟨-1, s, rfl, ⟨n, base, ?_⟩, ?_, ?_, g1⟩
      · unfold fv; rw [if_neg (by omega), if_pos he]
      · rw [if_pos rfl]; exact g2
      · intro _ t q ht hq
        have := g4 (4 * t + q) (by omega) (by omega)
        rw [show (4 * t + q) / 4 = t from by omega, show (4 * t + q) % 4 = q from by omega] at this
        exact this
    by_cases c : n ≤ 0
    · rw [if_pos c]; exact good (by unfold eR; simp; omega)
    · rw [if_neg c]
      by_cases d : n % 4 = 3
      · rw [if_pos d]; exact good (by unfold eR; simp [d])
      · rw [if_neg d]
        refine ⟨nI n, _, rfl, ⟨n, base, ?_⟩, ?_, ?_, ⟨fun j hj hj2 => by rw [wI_ne hj]; exact g1.1 j hj hj2, fun i hi => by rw [wI_eq, u_ne hi]; exact g1.2.1 i hi, g1.2.2⟩⟩
        · unfold fv eR; rw [if_neg (by omega), if_neg (by simp; omega)]
        · rw [if_neg (by rw [n_ne1 (by omega)]; exact not_false)]; rfl
        · intro z; rw [n_ne1 (by omega)] at z; exact z.elim
  · rintro m i s _ hi ⟨g1, g2, g3, g4⟩ ih
    have e5 : s.1 5 = ν.1 5 := g1.1 5 (by omega) (by omega)
    simp (config := { implicitDefEqProofs := false }) (disch := omega) only [L_X9_readsThings_14_s, n_le, if_neg, n_al, F_X9_readsThings_69, F_X9_readsThings_84, n_ar, e5]
    rw [q4 (show i < 1000 by omega)]
    simp (config := { implicitDefEqProofs := false }) (disch := omega) only [gi_in, n_c, byteR, bindS, n_lel, n_div, n_ml, n_aa, n_eqr]
    by_cases c : vl 0 (i % 4) (ν.1 5 i) = -9
    · rw [if_pos c]
      refine ⟨nI i, _, rfl, ⟨i, ⟨by omega, g3, fun _ z => z c⟩, ?_⟩, ?_, ?_, ⟨fun j hj hj2 => by rw [wI_ne hj]; exact g1.1 j hj hj2, fun i hi => by rw [wI_eq, u_ne hi]; exact g1.2.1 i hi, g1.2.2⟩⟩
      · unfold fv; rw [if_pos hi]
      · rw [if_neg (by rw [n_ne1 (by omega)]; exact not_false)]; rfl
      · intro z; rw [n_ne1 (by omega)] at z; exact z.elim
    · rw [if_neg c]
      have g3' : ∀ j, j < i + 1 → gR 0 (fun i => ν.1 5 i) j := by
        intro j hj
        by_cases d : j = i
        · subst d; exact c
        · exact g3 j (by omega)
      by_cases c3 : 3 ≤ i % 4
      · rw [if_pos c3, if_neg (by omega), g2]
        apply ih
        refine ⟨⟨fun j hj hj2 => by rw [wI_ne hj]; exact g1.1 j hj hj2, fun i hi => by rw [wI_eq, u_ne hi]; exact g1.2.1 i hi, g1.2.2⟩, ?_, g3', ?_⟩
        · rw [wI_eq, u_eq, Int32.add_zero]; exact congrArg nI (by omega)
        · intro j hj hj2
          rw [wI_ne (by omega)]; exact g4 j (by omega) hj2
      · rw [if_neg c3]
        simp (config := { implicitDefEqProofs := false }) (disch := omega) only [gi_in, n_c, wI_ne, g2]
        apply ih
        refine ⟨⟨fun j hj hj2 => by rw [wI_ne hj, wI_ne hj2]; exact g1.1 j hj hj2, fun i hi => by rw [wI_eq, u_ne hi, wI_ne (by omega)]; exact g1.2.1 i hi, g1.2.2⟩, ?_, g3', ?_⟩
        · rw [wI_eq, u_eq]
          by_cases c2 : i % 4 = 2
          · rw [if_pos c2, n_ar]; exact congrArg nI (by omega)
          · rw [if_neg c2, Int32.add_zero]; exact congrArg nI (by omega)
        · intro j hj hj2
          rw [wI_ne (by omega), wI_eq, u_if]
          by_cases d : j = i
          · subst d; rw [if_pos rfl]
          · rw [if_neg (by omega)]; exact g4 j (by omega) hj2
theorem part1 {μ : Mm} {t q : Nat} (hq : q < 3) (ht : 4 * t + q < 39) (hv : ¬ vl 0 q (μ.1 2 (4 * t + q)) = -9) : F_X3_part_1 (nI t) (nI q) μ = some (vl 0 q (μ.1 2 (4 * t + q)), μ) := by
  unfold F_X3_part_1 F_X3_sortOf
  simp (config := { implicitDefEqProofs := false }) (disch := omega) only [n_ml, n_aa, gi_in, n_c, bindS, n_eqr]
  have e4 : q = 0 ∨ q = 1 ∨ q = 2 := by omega
  rcases e4 with e | e | e
  · subst e
    rw [if_pos rfl]
    unfold vl at *
    rw [if_pos rfl] at *
    by_cases c1 : μ.1 2 (4 * t + 0) = 99
    · rw [c1]; rfl
    · by_cases c2 : μ.1 2 (4 * t + 0) = 115
      · rw [c2]; rfl
      · by_cases c3 : μ.1 2 (4 * t + 0) = 119
        · rw [c3]; rfl
        · exact absurd (by rw [if_neg c2, if_neg c1, if_neg c3]) hv
  · subst e
    rw [if_neg (by omega)]
    rw [vl1 (by decide)] at hv
    unfold vl
    rw [if_neg (by omega), if_pos rfl, if_pos (Decidable.not_not.mp hv)]
  · subst e
    rw [if_neg (by omega)]
    rw [vl2] at hv
    unfold vl
    rw [if_neg (by omega), if_neg (by omega), if_pos rfl, if_pos (Decidable.not_not.mp hv)]
theorem ffC3 {μ : Mm} {n : Nat} (hn : n ≤ 15) (h1 : μ.1 3 1 = nI n) (h3 : μ.1 3 3 = 1) : ∃ v, F_X5_firstFault_3 μ = some (v, μ) ∧ Ft (gR 1 (μ.1 4)) n (eR n) v := by
  unfold F_X5_firstFault_3
  refine For1 (fun m i (_ : Unit) => L_X5_firstFault_3_2 m (nI i) μ) n FUEL (fun i _ => ∀ j, j < i → gR 1 (μ.1 4) j) (fun o => ∃ v, o = some (v, μ) ∧ Ft (gR 1 (μ.1 4)) n (eR n) v) ?_ ?_ 0 () FUEL (fun j hj => absurd hj (by omega)) (by omega) rfl (by rw [FUELe]; omega)
  · intro m _ _ h
    simp (config := { implicitDefEqProofs := false }) (disch := omega) only [L_X5_firstFault_3_2_s, h1, n_le, Nat.le_refl, if_true, F_X3_mayEndAt_3, F_X3_mayEndAt_3_11, q4 (show n < 1000 by omega), n_eqr]
    have base : Lead (gR 1 (μ.1 4)) n n := ⟨Nat.le_refl _, h, fun z => absurd z (by omega)⟩
    by_cases c : n = 0
    · rw [if_pos c, bindS]
      refine ⟨-1, rfl, n, base, ?_⟩
      unfold fv eR
      rw [if_neg (by omega), if_pos (by simp [c])]
    · rw [if_neg c]
      by_cases d : n % 4 = 3
      · rw [if_pos d, bindS]
        refine ⟨-1, rfl, n, base, ?_⟩
        unfold fv eR
        rw [if_neg (by omega), if_pos (by simp [d])]
      · rw [if_neg d, bindS]
        simp only [if_true]
        rw [h1]
        refine ⟨nI n, rfl, n, base, ?_⟩
        unfold fv eR
        rw [if_neg (by omega), if_neg (by simp [c, d])]
  · intro m i _ _ hi h ih
    simp (config := { implicitDefEqProofs := false }) (disch := omega) only [L_X5_firstFault_3_2_s, h1, n_le, if_neg, gi_in, n_c, (fitsR (μ := μ) (lf := 1) (i := i) (by omega) (by decide)).2 h3, bindS, n_ar]
    by_cases c : vl 1 (i % 4) (μ.1 4 i) = -9
    · rw [if_pos c]
      simp only [if_true]
      refine ⟨nI i, rfl, i, ⟨by omega, h, fun _ z => z c⟩, ?_⟩
      unfold fv
      rw [if_pos hi]
    · rw [if_neg c]
      simp only [show ((1 : Int32) = 0) = False from by decide, if_false]
      apply ih ()
      intro j hj
      by_cases d : j = i
      · subst d; exact c
      · exact h j (by omega)
theorem rdJudges {ν : Mm} {n : Nat} (hn : n ≤ 15) (h6 : ν.1 6 1 = nI n) : ∃ v ν', F_X9_readsJudges ν = some (v, ν') ∧ Ft (gR 1 (fun i => ν.1 5 (40 + i))) n (eR n) v ∧ ν'.1 0 9 = nI (if v = -1 then (n + 1) / 4 else 0) ∧
    (v = -1 → ∀ t q, t < (n + 1) / 4 → q < 3 → ν'.1 8 (3 * t + q) = vl 1 q (ν.1 5 (40 + (4 * t + q)))) ∧ FrT 8 9 ν ν' := by
  unfold F_X9_readsJudges
  rw [gi_inl (by decide) (by decide), lc_l (by decide), wI_ne (by omega), h6]
  refine For1 (fun m i s => L_X9_readsJudges_14 m (nI n) (nI i) s) n FUEL (fun i s => FrT 8 9 ν s ∧ s.1 0 9 = nI ((i + 1) / 4) ∧ (∀ j, j < i → gR 1 (fun i => ν.1 5 (40 + i)) j) ∧ (∀ j, j < i → j % 4 < 3 → s.1 8 (3 * (j / 4) + j % 4) = vl 1 (j % 4) (ν.1 5 (40 + j))))
    (fun o => ∃ v ν', o = some (v, ν') ∧ Ft (gR 1 (fun i => ν.1 5 (40 + i))) n (eR n) v ∧ ν'.1 0 9 = nI (if v = -1 then (n + 1) / 4 else 0) ∧ (v = -1 → ∀ t q, t < (n + 1) / 4 → q < 3 → ν'.1 8 (3 * t + q) = vl 1 q (ν.1 5 (40 + (4 * t + q)))) ∧ FrT 8 9 ν ν') ?_ ?_ 0 (wI ν 0 9 0) FUEL ⟨⟨fun j hj _ => wI_ne hj, fun i hi => by rw [wI_eq, u_ne hi], rfl⟩, rfl, fun j hj => absurd hj (by omega), fun j hj => absurd hj (by omega)⟩ (by omega) rfl (by rw [FUELe]; omega)
  · rintro m s _ ⟨g1, g2, g3, g4⟩
    simp (config := { implicitDefEqProofs := false }) (disch := omega) only [L_X9_readsJudges_14_s, n_le, Nat.le_refl, if_true, q4 (show n < 1000 by omega), n_eqr, n_ler]
    have base : Lead (gR 1 (fun i => ν.1 5 (40 + i))) n n := ⟨Nat.le_refl _, g3, fun z => absurd z (by omega)⟩
    have good : eR n = true → ∃ v ν', some ((-1 : Int32), s) = some (v, ν') ∧ Ft (gR 1 (fun i => ν.1 5 (40 + i))) n (eR n) v ∧ ν'.1 0 9 = nI (if v = -1 then (n + 1) / 4 else 0) ∧ (v = -1 → ∀ t q, t < (n + 1) / 4 → q < 3 → ν'.1 8 (3 * t + q) = vl 1 q (ν.1 5 (40 + (4 * t + q)))) ∧ FrT 8 9 ν ν' := by
      intro he
      refine ⟨-1, s, rfl, ⟨n, base, ?_⟩, ?_, ?_, g1⟩
      · unfold fv; rw [if_neg (by omega), if_pos he]
      · rw [if_pos rfl]; exact g2
      · intro _ t q ht hq
        have := g4 (4 * t + q) (by omega) (by omega)
        rw [show (4 * t + q) / 4 = t from by omega, show (4 * t + q) % 4 = q from by omega] at this
        exact this
    by_cases c : n ≤ 0
    · rw [if_pos c]; exact good (by unfold eR; simp; omega)
    · rw [if_neg c]
      by_cases d : n % 4 = 3
      · rw [if_pos d]; exact good (by unfold eR; simp [d])
      · rw [if_neg d]
        refine ⟨nI n, _, rfl, ⟨n, base, ?_⟩, ?_, ?_, ⟨fun j hj hj2 => by rw [wI_ne hj]; exact g1.1 j hj hj2, fun i hi => by rw [wI_eq, u_ne hi]; exact g1.2.1 i hi, g1.2.2⟩⟩
        · unfold fv eR; rw [if_neg (by omega), if_neg (by simp; omega)]
        · rw [if_neg (by rw [n_ne1 (by omega)]; exact not_false)]; rfl
        · intro z; rw [n_ne1 (by omega)] at z; exact z.elim
  · rintro m i s _ hi ⟨g1, g2, g3, g4⟩ ih
    have e5 : s.1 5 = ν.1 5 := g1.1 5 (by omega) (by omega)
    simp (config := { implicitDefEqProofs := false }) (disch := omega) only [L_X9_readsJudges_14_s, n_le, if_neg, n_al, F_X9_readsJudges_72, F_X9_readsJudges_87, n_ar, e5]
    rw [q4 (show i < 1000 by omega)]
    simp (config := { implicitDefEqProofs := false }) (disch := omega) only [gi_in, n_c, byteR, bindS, n_lel, n_div, n_ml, n_aa, n_eqr]
    by_cases c : vl 1 (i % 4) (ν.1 5 (40 + i)) = -9
    · rw [if_pos c]
      refine ⟨nI i, _, rfl, ⟨i, ⟨by omega, g3, fun _ z => z c⟩, ?_⟩, ?_, ?_, ⟨fun j hj hj2 => by rw [wI_ne hj]; exact g1.1 j hj hj2, fun i hi => by rw [wI_eq, u_ne hi]; exact g1.2.1 i hi, g1.2.2⟩⟩
      · unfold fv; rw [if_pos hi]
      · rw [if_neg (by rw [n_ne1 (by omega)]; exact not_false)]; rfl
      · intro z; rw [n_ne1 (by omega)] at z; exact z.elim
    · rw [if_neg c]
      have g3' : ∀ j, j < i + 1 → gR 1 (fun i => ν.1 5 (40 + i)) j := by
        intro j hj
        by_cases d : j = i
        · subst d; exact c
        · exact g3 j (by omega)
      by_cases c3 : 3 ≤ i % 4
      · rw [if_pos c3, if_neg (by omega), g2]
        apply ih
        refine ⟨⟨fun j hj hj2 => by rw [wI_ne hj]; exact g1.1 j hj hj2, fun i hi => by rw [wI_eq, u_ne hi]; exact g1.2.1 i hi, g1.2.2⟩, ?_, g3', ?_⟩
        · rw [wI_eq, u_eq, Int32.add_zero]; exact congrArg nI (by omega)
        · intro j hj hj2
          rw [wI_ne (by omega)]; exact g4 j (by omega) hj2
      · rw [if_neg c3]
        simp (config := { implicitDefEqProofs := false }) (disch := omega) only [gi_in, n_c, wI_ne, g2]
        apply ih
        refine ⟨⟨fun j hj hj2 => by rw [wI_ne hj, wI_ne hj2]; exact g1.1 j hj hj2, fun i hi => by rw [wI_eq, u_ne hi, wI_ne (by omega)]; exact g1.2.1 i hi, g1.2.2⟩, ?_, g3', ?_⟩
        · rw [wI_eq, u_eq]
          by_cases c2 : i % 4 = 2
          · rw [if_pos c2, n_ar]; exact congrArg nI (by omega)
          · rw [if_neg c2, Int32.add_zero]; exact congrArg nI (by omega)
        · intro j hj hj2
          rw [wI_ne (by omega), wI_eq, u_if]
          by_cases d : j = i
          · subst d; rw [if_pos rfl]
          · rw [if_neg (by omega)]; exact g4 j (by omega) hj2
theorem part3 {μ : Mm} {t q : Nat} (hq : q < 3) (ht : 4 * t + q < 15) (hv : ¬ vl 1 q (μ.1 4 (4 * t + q)) = -9) : F_X3_part_3 (nI t) (nI q) μ = some (vl 1 q (μ.1 4 (4 * t + q)), μ) := by
  unfold F_X3_part_3 F_X3_sortOf
  simp (config := { implicitDefEqProofs := false }) (disch := omega) only [n_ml, n_aa, gi_in, n_c, bindS, n_eqr]
  have e4 : q = 0 ∨ q = 1 ∨ q = 2 := by omega
  rcases e4 with e | e | e
  · subst e
    rw [if_pos rfl]
    unfold vl at *
    rw [if_pos rfl] at *
    by_cases c1 : μ.1 4 (4 * t + 0) = 99
    · rw [c1]; rfl
    · by_cases c2 : μ.1 4 (4 * t + 0) = 115
      · rw [c2]; rfl
      · by_cases c3 : μ.1 4 (4 * t + 0) = 119
        · rw [c3]; rfl
        · exact absurd (by rw [if_neg c2, if_neg c1, if_neg c3]) hv
  · subst e
    rw [if_neg (by omega)]
    rw [vl1 (by decide)] at hv
    unfold vl
    rw [if_neg (by omega), if_pos rfl, if_pos (Decidable.not_not.mp hv)]
  · subst e
    rw [if_neg (by omega)]
    rw [vl2] at hv
    unfold vl
    rw [if_neg (by omega), if_neg (by omega), if_pos rfl, if_pos (Decidable.not_not.mp hv)]
