/-! the box -/
theorem fitsB {μ : Mm} {i : Nat} {b : Int32} : F_X6_fits (nI i) b μ = some ((if 48 ≤ b ∧ b ≤ 51 then 1 else 0), μ) := by
  unfold F_X6_fits F_X5_isFigure
  rw [bindS, show (48 : Int32) + 0 = 48 from by decide, show (48 : Int32) + 3 = 51 from by decide]
  simp only [sfig, gb01 fig01]
theorem ffC5 {μ : Mm} {n : Nat} (hn : n ≤ 12) (h1 : μ.1 5 1 = nI n) : ∃ v, F_X5_firstFault_5 μ = some (v, μ) ∧ Ft (gB (μ.1 6)) n true v := by
  unfold F_X5_firstFault_5
  refine For1 (fun m i (_ : Unit) => L_X5_firstFault_5_2 m (nI i) μ) n FUEL (fun i _ => ∀ j, j < i → gB (μ.1 6) j) (fun o => ∃ v, o = some (v, μ) ∧ Ft (gB (μ.1 6)) n true v) ?_ ?_ 0 () FUEL (fun j hj => absurd hj (by omega)) (by omega) rfl (by rw [FUELe]; omega)
  · intro m _ _ h
    simp (config := { implicitDefEqProofs := false }) (disch := omega) only [L_X5_firstFault_5_2_s, h1, n_le, Nat.le_refl, if_true, F_X6_mayEndAt, bindS, show ((1 : Int32) = 0) = False from by decide, if_false]
    refine ⟨-1, rfl, n, ⟨Nat.le_refl _, h, fun z => absurd z (by omega)⟩, ?_⟩
    unfold fv
    rw [if_neg (by omega), if_pos rfl]
  · intro m i _ _ hi h ih
    simp (config := { implicitDefEqProofs := false }) (disch := omega) only [L_X5_firstFault_5_2_s, h1, n_le, if_neg, gi_in, n_c, fitsB, bindS, n_ar]
    by_cases c : 48 ≤ μ.1 6 i ∧ μ.1 6 i ≤ 51
    · rw [if_pos c]
      simp only [show ((1 : Int32) = 0) = False from by decide, if_false]
      apply ih ()
      intro j hj
      by_cases d : j = i
      · subst d; exact c
      · exact h j (by omega)
    · rw [if_neg c]
      simp only [if_true]
      refine ⟨nI i, rfl, i, ⟨by omega, h, fun _ z => c z⟩, ?_⟩
      unfold fv
      rw [if_pos hi]
theorem clr9 (x : Int32) (ν : Mm) : ∃ ν', F_X9_clears x ν = some (x, ν') ∧ (∀ w, w < 12 → ν'.1 9 w = 0) ∧ ν'.1 0 11 = 0 ∧ FrT 9 11 ν ν' := by
  unfold F_X9_clears
  refine For1 (fun n i s => L_X9_clears_2 n x (nI i) s) 12 FUEL (fun i s => (∀ w, w < i → s.1 9 w = 0) ∧ FrT 9 11 ν s) (fun o => ∃ ν', o = some (x, ν') ∧ (∀ w, w < 12 → ν'.1 9 w = 0) ∧ ν'.1 0 11 = 0 ∧ FrT 9 11 ν ν') ?_ ?_ 0 ν FUEL ⟨fun w hw => absurd hw (by omega), fun _ _ _ => rfl, fun _ _ => rfl, rfl⟩ (by omega) rfl (by decide)
  · rintro n s _ ⟨h1, h2⟩
    simp (config := { implicitDefEqProofs := false }) (disch := omega) only [L_X9_clears_2_s, n_lel, if_pos]
    exact ⟨_, rfl, h1, rfl, fun j hj hj2 => by rw [wI_ne hj]; exact h2.1 j hj hj2, fun i hi => by rw [wI_eq, u_ne hi]; exact h2.2.1 i hi, h2.2.2⟩
  · rintro n i s _ hi ⟨h1, h2⟩ ih
    simp (config := { implicitDefEqProofs := false }) (disch := omega) only [L_X9_clears_2_s, n_lel, if_neg, gi_in, n_c, n_ar]
    apply ih
    refine ⟨?_, fun j hj hj2 => by rw [wI_ne hj2]; exact h2.1 j hj hj2, fun i hi => by rw [wI_ne (by omega)]; exact h2.2.1 i hi, h2.2.2⟩
    intro w hw
    rw [wI_eq, u_if]
    by_cases c : w = i
    · rw [if_pos c]
    · rw [if_neg c]; exact h1 w (by omega)
theorem FrT_tr {c d : Nat} {x y z : Mm} (h : FrT c d x y) (k : FrT c d y z) : FrT c d x z := ⟨fun j a b => (k.1 j a b).trans (h.1 j a b), fun i a => (k.2.1 i a).trans (h.2.1 i a), k.2.2.trans h.2.2⟩
theorem rdBox {ν : Mm} {n : Nat} (hn : n ≤ 12) (h6 : ν.1 6 2 = nI n) : ∃ v ν', F_X9_readsBox ν = some (v, ν') ∧ Ft (gB (fun i => ν.1 5 (80 + i))) n true v ∧ ν'.1 0 11 = nI (if v = -1 then n else 0) ∧
    (∀ w, w < 12 → ν'.1 9 w = if v = -1 ∧ w < n then ν.1 5 (80 + w) - 48 else 0) ∧ FrT 9 11 ν ν' := by
  obtain ⟨ν0, e0, z1, z2, z3⟩ := clr9 (-1) ν
  unfold F_X9_readsBox
  rw [e0, bindS]
  refine For1 (fun m i s => L_X9_readsBox_8 m (nI i) s) n FUEL (fun i s => FrT 9 11 ν s ∧ s.1 0 11 = nI i ∧ (∀ j, j < i → gB (fun i => ν.1 5 (80 + i)) j) ∧ (∀ w, w < 12 → s.1 9 w = if w < i then ν.1 5 (80 + w) - 48 else 0))
    (fun o => ∃ v ν', o = some (v, ν') ∧ Ft (gB (fun i => ν.1 5 (80 + i))) n true v ∧ ν'.1 0 11 = nI (if v = -1 then n else 0) ∧ (∀ w, w < 12 → ν'.1 9 w = if v = -1 ∧ w < n then ν.1 5 (80 + w) - 48 else 0) ∧ FrT 9 11 ν ν') ?_ ?_ 0 ν0 FUEL ⟨z3, z2, fun j hj => absurd hj (by omega), fun w hw => by rw [if_neg (by omega)]; exact z1 w hw⟩ (by omega) rfl (by rw [FUELe]; omega)
  · rintro m s _ ⟨g1, g2, g3, g4⟩
    have e6 : s.1 6 2 = nI n := by rw [g1.1 6 (by omega) (by omega)]; exact h6
    simp (config := { implicitDefEqProofs := false }) (disch := omega) only [L_X9_readsBox_8_s, gi_inl, lc_l, e6, n_le, Nat.le_refl, if_true]
    refine ⟨-1, s, rfl, ⟨n, ⟨Nat.le_refl _, g3, fun z => absurd z (by omega)⟩, ?_⟩, ?_, ?_, g1⟩
    · unfold fv; rw [if_neg (by omega), if_pos rfl]
    · rw [if_pos rfl]; exact g2
    · intro w hw
      rw [g4 w hw]
      by_cases c : w < n
      · rw [if_pos c, if_pos ⟨rfl, c⟩]
      · rw [if_neg c, if_neg (fun z => c z.2)]
  · rintro m i s _ hi ⟨g1, g2, g3, g4⟩ ih
    have e6 : s.1 6 2 = nI n := by rw [g1.1 6 (by omega) (by omega)]; exact h6
    have e5 : s.1 5 = ν.1 5 := g1.1 5 (by omega) (by omega)
    simp (config := { implicitDefEqProofs := false }) (disch := omega) only [L_X9_readsBox_8_s, gi_inl, lc_l, e6, n_le, if_neg, n_al, gi_in, n_c, e5, figm, bindS]
    rw [show (48 : Int32) + 0 = 48 from by decide, show (48 : Int32) + 3 = 51 from by decide]
    by_cases c : 48 ≤ ν.1 5 (80 + i) ∧ ν.1 5 (80 + i) ≤ 51
    · obtain ⟨a, a1, a2, ea⟩ := ge48 (k := 48) (by omega) c.1 (Int32.le_trans c.2 (by decide))
      have ne : ¬ ν.1 5 (80 + i) - 48 = -9 := by
        rw [ea, sub48 a1 a2]
        have ne : ∀ a < 10, nI a ≠ -9 := by decide +kernel
        exact ne (a - 48) (by omega)
      rw [if_pos c, if_neg ne]
      simp (config := { implicitDefEqProofs := false }) (disch := omega) only [gi_in, n_c, wI_ne, g2, n_ar]
      apply ih
      refine ⟨⟨fun j hj hj2 => by rw [wI_ne hj, wI_ne hj2]; exact g1.1 j hj hj2, fun i hi => by rw [wI_eq, u_ne hi, wI_ne (by omega)]; exact g1.2.1 i hi, g1.2.2⟩, ?_, ?_, ?_⟩
      · rw [wI_eq, u_eq]
      · intro j hj
        by_cases d : j = i
        · subst d; exact c
        · exact g3 j (by omega)
      · intro w hw
        rw [wI_ne (by omega), wI_eq, u_if]
        by_cases d : w = i
        · subst d; rw [if_pos rfl, if_pos (by omega)]
        · rw [if_neg d, g4 w hw]
          by_cases d2 : w < i
          · rw [if_pos d2, if_pos (by omega)]
          · rw [if_neg d2, if_neg (by omega)]
    · rw [if_neg c]
      simp only [if_true]
      obtain ⟨ν1, e1, y1, y2, y3⟩ := clr9 (nI i) s
      rw [e1, bindS]
      refine ⟨nI i, ν1, rfl, ⟨i, ⟨by omega, g3, fun _ z => c z⟩, ?_⟩, ?_, ?_, FrT_tr g1 y3⟩
      · unfold fv; rw [if_pos hi]
      · rw [if_neg (by rw [n_ne1 (by omega)]; exact not_false)]; exact y2
      · intro w hw
        rw [if_neg (fun z => by have z := z.1; rw [n_ne1 (by omega)] at z; exact z)]; exact y1 w hw
/-! the invariant of the two sides -/
def tx1 (n : Nat) (μ ν : Mm) : Prop := n ≤ 39 ∧ μ.1 1 1 = nI n ∧ ν.1 6 0 = nI n ∧ μ.1 1 3 = 0 ∧ (∀ i, i < n → μ.1 2 i = ν.1 5 i) ∧ Ft (gR 0 (μ.1 2)) n (eR n) (μ.1 1 2)
def tx3 (n : Nat) (μ ν : Mm) : Prop := n ≤ 15 ∧ μ.1 3 1 = nI n ∧ ν.1 6 1 = nI n ∧ μ.1 3 3 = 1 ∧ (∀ i, i < n → μ.1 4 i = ν.1 5 (40 + i)) ∧ Ft (gR 1 (μ.1 4)) n (eR n) (μ.1 3 2)
def tx5 (n : Nat) (μ ν : Mm) : Prop := n ≤ 12 ∧ μ.1 5 1 = nI n ∧ ν.1 6 2 = nI n ∧ (∀ i, i < n → μ.1 6 i = ν.1 5 (80 + i)) ∧ Ft (gB (μ.1 6)) n true (μ.1 5 2)
def evI (n : Nat) (μ ν : Mm) : Prop := n ≤ 8 ∧ μ.1 7 1 = nI n ∧ ν.1 0 13 = nI n ∧ (∀ i, i < 3 * n → μ.1 8 i = ν.1 10 i) ∧ (∀ e, e < n → Rg 9 (μ.1 8 (3 * e + 2)))
def siI (n : Nat) (μ ν : Mm) : Prop := n ≤ 8 ∧ μ.1 9 1 = nI n ∧ ν.1 0 33 = nI n ∧ (∀ i, i < 3 * n → μ.1 10 i = ν.1 23 i) ∧ (∀ e, e < n → Rg 11 (μ.1 10 (3 * e)) ∧ Rg 9 (μ.1 10 (3 * e + 1)) ∧ Rg 3 (μ.1 10 (3 * e + 2)))
def shI (μ ν : Mm) : Prop := ∀ s, s < 4 → μ.1 (12 + 2 * s) 1 = ν.1 1 s ∧ (ν.1 1 s = -1 ∨ Rg 2 (ν.1 1 s)) ∧ ∃ n, n ≤ 60 ∧ μ.1 (12 + 2 * s) 2 = nI n ∧ ν.1 2 s = nI n ∧ ∀ i, i < n → μ.1 (13 + 2 * s) i = ν.1 3 (60 * s + i)
def suI (ν : Mm) : Prop := ν.1 0 15 = 0 ∧ ν.1 0 16 = -1 ∧ ν.1 0 18 = -1
def Iv (μ ν : Mm) : Prop := (∃ n, tx1 n μ ν) ∧ (∃ n, tx3 n μ ν) ∧ (∃ n, tx5 n μ ν) ∧ (∃ n, evI n μ ν) ∧ (∃ n, siI n μ ν) ∧ shI μ ν ∧ μ.1 0 6 = ν.1 0 4 ∧ suI ν
/-- the plan as told -/
def Td (μ : Mm) : Pl :=
  (fun i => if i = 0 then (if μ.1 1 2 = -1 then ((μ.1 1 1).toNatClampNeg + 1) / 4 else 0) else if i = 1 then (if μ.1 3 2 = -1 then ((μ.1 3 1).toNatClampNeg + 1) / 4 else 0) else if i = 2 then (μ.1 7 1).toNatClampNeg else (μ.1 9 1).toNatClampNeg,
   fun r k => if r = 0 then vl 0 0 (μ.1 2 (4 * k)) else if r = 1 then vl 0 1 (μ.1 2 (4 * k + 1)) else if r = 2 then vl 0 2 (μ.1 2 (4 * k + 2)) else if r = 3 then vl 1 0 (μ.1 4 (4 * k)) else if r = 4 then vl 1 1 (μ.1 4 (4 * k + 1)) else if r = 5 then vl 1 2 (μ.1 4 (4 * k + 2)) else if r = 6 then (if μ.1 5 2 = -1 ∧ k < (μ.1 5 1).toNatClampNeg then μ.1 6 k - 48 else 0) else if r = 7 then μ.1 8 k else if r = 8 then μ.1 10 k else (if k = 0 then 0 else -1))
