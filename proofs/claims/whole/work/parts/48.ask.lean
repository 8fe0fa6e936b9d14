/-! small questions to a finished year -/
theorem LIVE {P : Pl} {μ ν : Mm} (hV : PV P) (hC : PC P μ) (hM : PM P ν) : ∃ s t, F_X7_run 12 μ = some s ∧ F_X9_lives ν = some t ∧ FrC μ s ∧ FrL ν t ∧ RY P 12 s t ∧ PC P s ∧ PM P t := by
  obtain ⟨t, e, fr, lr⟩ := RUN hV hC hM
  obtain ⟨s, es, fs, ry⟩ := (lr μ hC).2
  exact ⟨s, t, es, e, fs, fr, ry, PC_fr fs hC, PM_frL fr hM⟩
theorem own2 {P : Pl} {w : Nat} {s t : Mm} (hV : PV P) (hw : w ≤ 12) (pc : PC P s) (pm : PM P t) (ry : RY P w s t) (who : Int32) :
    E2 (F_X7_coloursOf who s) (F_X9_ownedBy who t) (fun q r => q.2 = s ∧ r.2 = t ∧ q.1 = r.1 ∧ Rg 720 r.1) := by
  have q1 := hV.1
  unfold F_X7_coloursOf F_X9_ownedBy
  refine For2 (fun n i x => L_X7_coloursOf_5 n who x (nI i) s) (fun n i x => L_X9_ownedBy_4 n who x (nI i) t) (P.1 0) FUEL FUEL (fun i x y => x = y ∧ Rg (72 * i) y) (fun f g => E2 f g (fun q r => q.2 = s ∧ r.2 = t ∧ q.1 = r.1 ∧ Rg 720 r.1)) ?_ ?_ 0 0 0 FUEL FUEL ⟨rfl, 0, by omega, rfl⟩ (by omega) rfl rfl (by rw [FUELe]; omega) (by rw [FUELe]; omega)
  · intro n m x y _ _ h
    simp (disch := omega) only [L_X7_coloursOf_5_s, L_X9_ownedBy_4_s, pc.1, pm.1, n_le, Nat.le_refl, if_true]
    exact E2_some ⟨rfl, rfl, h.1, Rg_mono h.2 (by omega)⟩
  · intro n m i x y _ _ hi h ih
    obtain ⟨rfl, h⟩ := h
    simp (disch := omega) only [L_X7_coloursOf_5_s, L_X9_ownedBy_4_s, pc.1, pm.1, n_le, if_neg, gi_in, n_c, n_ml, n_ar, F_X7_coloursOf_35, F_X9_ownedBy_37, (pc.2.2.2.2.1 i hi).2.2, (pm.2.2.2.2.1 i hi).2.2, (ry.2.1 i hi).1, Int32.add_zero]
    by_cases c : P.2 2 i = who
    · rw [if_pos c, if_pos c]
      exact ih _ _ ⟨rfl, Rg_mono (Rg_add h (ry.2.1 i hi).2) (by omega)⟩
    · rw [if_neg c, if_neg c]
      exact ih _ _ ⟨rfl, Rg_mono h (by omega)⟩
theorem most2 {P : Pl} {w : Nat} {s t : Mm} (hV : PV P) (pm : PM P t) (ry : RY P w s t) :
    E2 (F_X7_mostColoured (nI (P.1 0)) s) (F_X9_bestNow t) (fun q r => q.2 = s ∧ r.2 = t ∧ q.1 = r.1 ∧ (r.1 = -1 ∨ ∃ k, k < P.1 0 ∧ r.1 = nI k)) := by
  have q1 := hV.1
  unfold F_X7_mostColoured F_X9_bestNow
  refine For2 (fun n i x => L_X7_mostColoured_4 n (nI (P.1 0)) x (nI i) s) (fun n i x => L_X9_bestNow_4 n x (nI i) t) (P.1 0) FUEL FUEL (fun i x y => x = y ∧ (y = -1 ∨ ∃ k, k < P.1 0 ∧ y = nI k)) (fun f g => E2 f g (fun q r => q.2 = s ∧ r.2 = t ∧ q.1 = r.1 ∧ (r.1 = -1 ∨ ∃ k, k < P.1 0 ∧ r.1 = nI k))) ?_ ?_ 0 (-1) (-1) FUEL FUEL ⟨rfl, Or.inl rfl⟩ (by omega) rfl rfl (by rw [FUELe]; omega) (by rw [FUELe]; omega)
  · intro n m x y _ _ h
    simp (disch := omega) only [L_X7_mostColoured_4_s, L_X9_bestNow_4_s, pm.1, n_le, Nat.le_refl, if_true]
    exact E2_some ⟨rfl, rfl, h.1, h.2⟩
  · intro n m i x y _ _ hi h ih
    obtain ⟨rfl, h⟩ := h
    simp (disch := omega) only [L_X7_mostColoured_4_s, L_X9_bestNow_4_s, pm.1, n_le, if_neg, gi_in, n_c, n_ar, F_X7_mostColoured_29, F_X7_mostColoured_31, F_X9_bestNow_32, F_X9_bestNow_37]
    have new : E2 (L_X7_mostColoured_4 n (nI (P.1 0)) (nI i) (nI (i + 1)) s) (L_X9_bestNow_4 m (nI i) (nI (i + 1)) t) (fun q r => q.2 = s ∧ r.2 = t ∧ q.1 = r.1 ∧ (r.1 = -1 ∨ ∃ k, k < P.1 0 ∧ r.1 = nI k)) := ih _ _ ⟨rfl, Or.inr ⟨i, hi, rfl⟩⟩
    by_cases c : x = -1
    · rw [if_pos c, if_pos c]; exact new
    · rw [if_neg c, if_neg c]
      obtain ⟨k, hk, rfl⟩ := h.resolve_left c
      simp (disch := omega) only [gi_in, n_c, (ry.2.1 i hi).1, (ry.2.1 k hk).1]
      by_cases d : t.1 12 i ≤ t.1 12 k
      · rw [if_pos d, if_pos d]; exact ih _ _ ⟨rfl, h⟩
      · rw [if_neg d, if_neg d]; exact new
theorem left0 {P : Pl} {w : Nat} {s t : Mm} (hV : PV P) (pm : t.1 0 7 = nI (P.1 0)) (ry : RY P w s t) : F_X9_leftBy 0 t = some (s.1 28 5, t) := by
  have q1 := hV.1
  unfold F_X9_leftBy
  refine For1 (fun n i x => L_X9_leftBy_4 n 0 x (nI i) t) (P.1 0) FUEL (fun i x => ∀ k, k < 32 → (bt x k = 1 ↔ k < i ∧ bt (s.1 28 5) k = 1)) (fun o => o = some (s.1 28 5, t)) ?_ ?_ 0 0 FUEL ?_ (by omega) rfl (by rw [FUELe]; omega)
  · intro n x _ h
    simp (disch := omega) only [L_X9_leftBy_4_s, pm, n_le, Nat.le_refl, if_true]
    have : x = s.1 28 5 := by
      apply bt_ext
      intro k hk
      rw [h k hk]
      constructor
      · exact fun z => z.2
      · intro z
        refine ⟨?_, z⟩
        rcases Nat.lt_or_ge k (P.1 0) with y | y
        · exact y
        · rw [ry.2.2.2.2.1 k hk y] at z; exact absurd z (by decide)
    rw [this]
  · intro n i x _ hi h ih
    simp (disch := omega) only [L_X9_leftBy_4_s, pm, n_le, if_neg, if_true, gi_in, n_c, F_X9_leftBy_41, F_X9_leftBy_56, n_ar]
    apply ih
    intro k hk
    rw [bt_or1 hk, h k hk]
    have r4 := ry.2.2.2.1 i hi
    by_cases c : t.1 14 i = 0
    · rw [if_pos c, bt_0 hk]
      constructor
      · rintro (z | z)
        · exact ⟨by omega, z.2⟩
        · exact absurd z (by decide)
      · rintro ⟨z, y⟩
        refine Or.inl ⟨?_, y⟩
        rcases Nat.lt_or_ge k i with l | l
        · exact l
        · have : k = i := by omega
          subst this
          rw [r4, c] at y; exact absurd y (by decide)
    · rw [if_neg c, bt_sh1 (by omega) hk]
      have hb : bt (s.1 28 5) i = 1 := by rw [← bt_n0 (by omega), r4]; exact c
      constructor
      · rintro (z | z)
        · exact ⟨by omega, z.2⟩
        · subst z; exact ⟨by omega, hb⟩
      · rintro ⟨z, y⟩
        rcases Nat.lt_or_ge k i with l | l
        · exact Or.inl ⟨l, y⟩
        · exact Or.inr (by omega)
  · intro k hk
    rw [bt_0 hk]
    constructor
    · intro z; exact absurd z (by decide)
    · intro z; omega
theorem left1 {P : Pl} {s t : Mm} (hV : PV P) (pm : t.1 0 7 = nI (P.1 0)) (ry : RY P 12 s t) : E2 (F_X7_neverPlaced (nI (P.1 0)) s) (F_X9_leftBy 1 t) (fun q r => q.2 = s ∧ r.2 = t ∧ q.1 = r.1) := by
  have q1 := hV.1
  have A : Ev (F_X7_neverPlaced (nI (P.1 0)) s) (fun q => q.2 = s ∧ ∀ k, k < 32 → (bt q.1 k = 1 ↔ k < P.1 0 ∧ ∀ j, j < 36 → s.1 33 j ≠ nI k)) := by
    unfold F_X7_neverPlaced
    refine For1 (fun n i x => L_X7_neverPlaced_8 n x (nI i) s) 36 FUEL (fun i x => ∀ k, k < 32 → (bt x k = 1 ↔ k < P.1 0 ∧ ∀ j, j < i → s.1 33 j ≠ nI k)) (fun o => Ev o (fun q => q.2 = s ∧ ∀ k, k < 32 → (bt q.1 k = 1 ↔ k < P.1 0 ∧ ∀ j, j < 36 → s.1 33 j ≠ nI k))) ?_ ?_ 0 _ FUEL ?_ (by omega) rfl (by decide)
    · intro n x _ h
      simp (disch := omega) only [L_X7_neverPlaced_8_s, n_lel, if_pos]
      exact Ev_some ⟨rfl, h⟩
    · intro n i x _ hi h ih
      simp (disch := omega) only [L_X7_neverPlaced_8_s, n_lel, if_neg, gi_in, n_c, n_ar, F_X7_neverPlaced_40]
      have r6 := ry.2.2.2.2.2.1 i (by omega)
      by_cases c : s.1 33 i = -1
      · rw [if_pos c]
        apply ih
        intro k hk
        rw [h k hk]
        constructor
        · rintro ⟨z, y⟩
          refine ⟨z, fun j hj => ?_⟩
          rcases Nat.lt_or_ge j i with l | l
          · exact y j l
          · have : j = i := by omega
            subst this
            rw [c, ne_eq, n_en1 (by omega)]; exact not_false
        · rintro ⟨z, y⟩
          exact ⟨z, fun j hj => y j (by omega)⟩
      · rw [if_neg c]
        apply ih
        obtain ⟨v, hv, ev⟩ := r6.2.resolve_left (by rw [← r6.1]; exact c)
        rw [← r6.1] at ev
        intro k hk
        rw [ev, bt_and1 hk, bt_not1 hk, bt_sh1 (by omega) hk, h k hk]
        constructor
        · rintro ⟨⟨z, y⟩, u⟩
          refine ⟨z, fun j hj => ?_⟩
          rcases Nat.lt_or_ge j i with l | l
          · exact y j l
          · have : j = i := by omega
            subst this
            rw [ev, ne_eq, n_eq (by omega) (by omega)]; exact u
        · rintro ⟨z, y⟩
          refine ⟨⟨z, fun j hj => y j (by omega)⟩, ?_⟩
          have := y i (by omega)
          rw [ev, ne_eq, n_eq (by omega) (by omega)] at this
          exact this
    · intro k hk
      rw [bt_low (by omega) hk]
      constructor
      · exact fun z => ⟨z, fun j hj => absurd hj (by omega)⟩
      · exact fun z => z.1
  have B : Ev (F_X9_leftBy 1 t) (fun q => q.2 = t ∧ ∀ k, k < 32 → (bt q.1 k = 1 ↔ k < P.1 0 ∧ ¬ bt (t.1 0 26) k = 1)) := by
    unfold F_X9_leftBy
    refine For1 (fun n i x => L_X9_leftBy_4 n 1 x (nI i) t) (P.1 0) FUEL (fun i x => ∀ k, k < 32 → (bt x k = 1 ↔ k < i ∧ ¬ bt (t.1 0 26) k = 1)) (fun o => Ev o (fun q => q.2 = t ∧ ∀ k, k < 32 → (bt q.1 k = 1 ↔ k < P.1 0 ∧ ¬ bt (t.1 0 26) k = 1))) ?_ ?_ 0 0 FUEL ?_ (by omega) rfl (by rw [FUELe]; omega)
    · intro n x _ h
      simp (disch := omega) only [L_X9_leftBy_4_s, pm, n_le, Nat.le_refl, if_true]
      exact Ev_some ⟨rfl, h⟩
    · intro n i x _ hi h ih
      simp (disch := omega) only [L_X9_leftBy_4_s, pm, n_le, if_neg, show ((1 : Int32) = 0) = False from by decide, if_false, F_X9_isIn, bt_def, bindS, F_X9_leftBy_41, F_X9_leftBy_56, n_ar]
      apply ih
      intro k hk
      rw [bt_or1 hk, h k hk]
      by_cases c : bt (t.1 0 26) i = 1
      · simp only [c, show ((1 : Int32) = 0) = False from by decide, if_false, if_true, bt_0 hk, show ((0 : Int32) = 1) = False from by decide, or_false]
        constructor
        · rintro ⟨z, y⟩; exact ⟨by omega, y⟩
        · rintro ⟨z, y⟩
          refine ⟨?_, y⟩
          rcases Nat.lt_or_ge k i with l | l
          · exact l
          · have : k = i := by omega
            subst this
            exact absurd c y
      · have c0 : bt (t.1 0 26) i = 0 := by rw [← bt_n1 (by omega)]; exact c
        simp only [c0, show ((0 : Int32) = 1) = False from by decide, show ((1 : Int32) = 0) = False from by decide, if_false, if_true, bt_sh1 (show i < 32 by omega) hk]
        constructor
        · rintro (z | z)
          · exact ⟨by omega, z.2⟩
          · subst z; exact ⟨by omega, c⟩
        · rintro ⟨z, y⟩
          rcases Nat.lt_or_ge k i with l | l
          · exact Or.inl ⟨l, y⟩
          · exact Or.inr (by omega)
    · intro k hk
      rw [bt_0 hk]
      constructor
      · intro z; exact absurd z (by decide)
      · intro z; omega
  refine E2_of A B ?_
  rintro q r ⟨a1, a2⟩ ⟨b1, b2⟩
  refine ⟨a1, b1, ?_⟩
  apply bt_ext
  intro k hk
  rw [a2 k hk, b2 k hk]
  constructor
  · rintro ⟨z, y⟩
    refine ⟨z, ?_⟩
    rw [ry.2.2.2.2.2.2.2 k z]
    rintro ⟨i, hi, e⟩
    exact y i (by omega) (by rw [(ry.2.2.2.2.2.1 i hi).1]; exact e)
  · rintro ⟨z, y⟩
    refine ⟨z, ?_⟩
    intro j hj e
    apply y
    rw [ry.2.2.2.2.2.2.2 k z]
    exact ⟨j, by omega, by rw [← (ry.2.2.2.2.2.1 j (by omega)).1]; exact e⟩
def pf (t : Mm) (w k : Nat) : Nat := if t.1 22 (3 * w + 2) = nI k then 2 else if t.1 22 (3 * w + 1) = nI k then 1 else if t.1 22 (3 * w) = nI k then 0 else 3
theorem pf_le (t : Mm) (w k : Nat) : pf t w k ≤ 3 := by unfold pf; split <;> (try split) <;> (try split) <;> omega
theorem plM {w k : Nat} (hw : w < 12) (t : Mm) : F_X9_placeOf (nI w) (nI k) t = some (nI (pf t w k), t) := by
  have key : ∀ n, L_X9_placeOf_5 (n + 1 + 1 + 1 + 1) (nI w) (nI k) 3 (nI 0) t = some ((if t.1 22 (3 * w + 2) = nI k then nI 2 else if t.1 22 (3 * w + 1) = nI k then nI 1 else if t.1 22 (3 * w) = nI k then nI 0 else nI 3), t) := by
    intro n
    simp (disch := omega) only [L_X9_placeOf_5_s, F_X9_placeOf_32, n_lel, if_neg, n_ml, n_aa, gi_in, n_c, bindS, n_ar, if_pos, Nat.add_zero, Nat.zero_add, Nat.reduceAdd]
    rfl
  unfold F_X9_placeOf
  refine (key 996).trans ?_
  unfold pf
  by_cases c2 : t.1 22 (3 * w + 2) = nI k
  · rw [if_pos c2, if_pos c2]
  · rw [if_neg c2, if_neg c2]
    by_cases c1 : t.1 22 (3 * w + 1) = nI k
    · rw [if_pos c1, if_pos c1]
    · rw [if_neg c1, if_neg c1]
      by_cases c0 : t.1 22 (3 * w) = nI k
      · rw [if_pos c0, if_pos c0]
      · rw [if_neg c0, if_neg c0]
theorem plC {P : Pl} {W w k : Nat} {s t : Mm} (hw : w < W) (hW : W ≤ 12) (hk : k < 1000) (ry : RY P W s t) : F_X7_placeOf (nI w) (nI k) s = some (nI (pf t w k), s) := by
  have e0 := (ry.2.2.2.2.2.1 (3 * w) (by omega)).1
  have e1 := (ry.2.2.2.2.2.1 (3 * w + 1) (by omega)).1
  have e2 := (ry.2.2.2.2.2.1 (3 * w + 2) (by omega)).1
  have d01 := ry.2.2.2.2.2.2.1 w hw 0 1 (by omega) (by omega)
  have d02 := ry.2.2.2.2.2.2.1 w hw 0 2 (by omega) (by omega)
  have d12 := ry.2.2.2.2.2.2.1 w hw 1 2 (by omega) (by omega)
  simp only [Nat.add_zero] at d01 d02
  have ne : ∀ x : Int32, x = nI k → x = -1 → False := by
    intro x h h'; rw [h, n_ne1 (by omega)] at h'; exact h'
  have key : ∀ n, L_X7_placeOf_2 (n + 1 + 1 + 1 + 1) (nI w) (nI k) (nI 0) s = some ((if s.1 33 (3 * w) = nI k then nI 0 else if s.1 33 (3 * w + 1) = nI k then nI 1 else if s.1 33 (3 * w + 2) = nI k then nI 2 else nI 3), s) := by
    intro n
    simp (disch := omega) only [L_X7_placeOf_2_s, F_X7_placedAt, n_lel, if_neg, n_mr, n_aa, gi_in, n_c, bindS, n_ar, if_pos, Nat.add_zero, Nat.zero_add, Nat.reduceAdd]
    by_cases c0 : s.1 33 (3 * w) = nI k
    · simp only [if_pos c0]
    · simp only [if_neg c0]
      by_cases c1 : s.1 33 (3 * w + 1) = nI k
      · simp only [if_pos c1]
      · simp only [if_neg c1]
        by_cases c2 : s.1 33 (3 * w + 2) = nI k
        · simp only [if_pos c2]
        · simp only [if_neg c2]; rfl
  unfold F_X7_placeOf
  refine (key 996).trans ?_
  rw [e0, e1, e2]
  unfold pf
  by_cases c0 : t.1 22 (3 * w) = nI k
  · have n1 : ¬ t.1 22 (3 * w + 1) = nI k := fun z => (d01.resolve_left (ne _ c0)) (c0.trans z.symm)
    have n2 : ¬ t.1 22 (3 * w + 2) = nI k := fun z => (d02.resolve_left (ne _ c0)) (c0.trans z.symm)
    rw [if_pos c0, if_neg n2, if_neg n1, if_pos c0]
  · by_cases c1 : t.1 22 (3 * w + 1) = nI k
    · have n2 : ¬ t.1 22 (3 * w + 2) = nI k := fun z => (d12.resolve_left (ne _ c1)) (c1.trans z.symm)
      rw [if_neg c0, if_pos c1, if_neg n2, if_pos c1]
    · by_cases c2 : t.1 22 (3 * w + 2) = nI k
      · rw [if_neg c0, if_neg c1, if_pos c2, if_pos c2]
      · rw [if_neg c0, if_neg c1, if_neg c2, if_neg c2, if_neg c1, if_neg c0]
theorem plc2 {P : Pl} {W w k : Nat} {s t : Mm} (hw : w < W) (hW : W ≤ 12) (hk : k < 1000) (ry : RY P W s t) :
    ∃ p, p ≤ 3 ∧ F_X7_placeOf (nI w) (nI k) s = some (nI p, s) ∧ F_X9_placeOf (nI w) (nI k) t = some (nI p, t) :=
  ⟨pf t w k, pf_le t w k, plC hw hW hk ry, plM (by omega) t⟩
theorem seen0 {P : Pl} {t : Mm} (hV : PV P) (pm : PM P t) {n i : Nat} (hi : i ≤ P.1 3) (hn : n + i = FUEL) : L_X9_isSeen_8 n 0 (nI i) t = some (0, t) := by
  have q3 := hV.2.2.2.1
  refine For1 (fun n i (_ : Unit) => L_X9_isSeen_8 n 0 (nI i) t) (P.1 3) FUEL (fun _ _ => True) (fun o => o = some (0, t)) ?_ ?_ i () n trivial hi hn (by rw [FUELe]; omega)
  · intro n _ _ _
    simp (disch := omega) only [L_X9_isSeen_8_s, pm.2.2.2.1, n_le, Nat.le_refl, if_true]
    unfold gb; rw [if_pos (Or.inl rfl)]
  · intro n i _ _ hi _ ih
    simp (disch := omega) only [L_X9_isSeen_8_s, pm.2.2.2.1, n_le, if_neg, n_ml, n_ar, gi_in, if_true, F_X9_isSeen_69, F_X9_isSeen_70]
    exact ih () trivial
theorem bear2 {P : Pl} {s t : Mm} (hV : PV P) (pc : PC P s) (pm : PM P t) (ry : RY P 12 s t) :
    E2 (F_X7_bearsOut (nI (P.1 0)) s) (L_X9_isSeen_8 FUEL 1 0 t) (fun q r => q.2 = s ∧ r.2 = t ∧ q.1 = r.1 ∧ (r.1 = 0 ∨ r.1 = 1)) := by
  have q1 := hV.1
  have q3 := hV.2.2.2.1
  unfold F_X7_bearsOut
  refine For2 (fun n i (_ : Unit) => L_X7_bearsOut_2 n (nI (P.1 0)) (nI i) s) (fun n i (_ : Unit) => L_X9_isSeen_8 n 1 (nI i) t) (P.1 3) FUEL FUEL (fun _ _ _ => True) (fun f g => E2 f g (fun q r => q.2 = s ∧ r.2 = t ∧ q.1 = r.1 ∧ (r.1 = 0 ∨ r.1 = 1))) ?_ ?_ 0 () () FUEL FUEL trivial (by omega) rfl rfl (by rw [FUELe]; omega) (by rw [FUELe]; omega)
  · intro n m _ _ _ _ _
    simp (disch := omega) only [L_X7_bearsOut_2_s, L_X9_isSeen_8_s, pc.2.2.2.1, pm.2.2.2.1, n_le, Nat.le_refl, if_true]
    have : gb 1 (some ((1 : Int32), t)) = some (1, t) := by unfold gb; rw [if_pos (Or.inr rfl)]
    rw [this]
    exact E2_some ⟨rfl, rfl, rfl, Or.inr rfl⟩
  · intro n m i _ _ _ hm hi _ ih
    obtain ⟨⟨w, hw, ew⟩, ⟨k, hk, ek⟩, ⟨p, hp, ep⟩⟩ := hV.2.2.2.2.2.2.2.2.1 i hi
    have c9 := pc.2.2.2.2.2.2.2.2.1
    have d9 := pm.2.2.2.2.2.2.2.2.1
    simp (disch := omega) only [L_X7_bearsOut_2_s, L_X9_isSeen_8_s, pc.2.2.2.1, pm.2.2.2.1, n_le, if_neg, F_X1_part_9, n_ml, n_ar, gi_in, n_c, bindS, c9, d9, Nat.add_zero, ew, ek, ep, show ((1 : Int32) = 0) = False from by decide, if_false, isT (n := P.1 0) _ _ pm.1, F_X9_isSeen_69, F_X9_isSeen_70]
    have z0 : L_X9_isSeen_8 m 0 (nI (i + 1)) t = some (0, t) := seen0 hV pm (by omega) (by omega)
    by_cases c : P.1 0 ≤ k
    · simp (disch := omega) only [if_pos c, if_neg, if_true, z0]
      exact E2_some ⟨rfl, rfl, rfl, Or.inl rfl⟩
    · simp (disch := omega) only [if_neg c, if_pos, show ((1 : Int32) = 0) = False from by decide, if_false]
      obtain ⟨p', hp', e1, e2⟩ := plc2 (w := w) (k := k) (by omega) (Nat.le_refl _) (by omega) ry
      rw [e1, e2]
      simp (disch := omega) only [bindS, c9, d9, ep, gi_in, n_c]
      by_cases d : nI p' = nI p
      · rw [if_pos d, if_pos d]; exact ih () () trivial
      · rw [if_neg d, if_neg d, z0]; exact E2_some ⟨rfl, rfl, rfl, Or.inl rfl⟩
